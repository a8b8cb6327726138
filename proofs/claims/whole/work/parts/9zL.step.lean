/-! The reader: single steps of each side. -/
theorem r_wrong {d a n b : Nat} {h : AH} {T : Nat → Nat} (c : CX h a n T b) (k : Int32) : am_C PG (d + 1) 78 [.ref 3, .int k] h = some (some (.int 0), sFI h 603 3 (k + 16 * nI b)) := by
  obtain ⟨k3, f6, f61, k1, e3, -⟩ := c.ff
  rw [q_X6_wrong]
  simp only [am_kd, k3, k1, if_true, f6, bR_s, e3, am_let_e, am_nar4_0]
theorem m_fails {d n b : Nat} {g : AH} {T : Nat → Nat} (m : MX g n T b) (k : Int32) : am_C PG (d + 1) 169 [.ref 348, .int k] g = some (some (.int 0), sFI g 1209 348 (k + 16 * nI b)) := by
  obtain ⟨k1, e3, -⟩ := m.ff
  rw [q_X12_fails]
  simp only [am_kd, k1, if_true, e3, am_let_e, am_nar4_0]
theorem fz_ne {k b : Nat} (h1 : 1 ≤ k) (h2 : k ≤ 5) (hb : b ≤ 1000) : nI k + 16 * nI b ≠ 0 := by
  rw [show (16 : Int32) = nI 16 from rfl, pk_mul, nI_add]
  exact nI_ne0 (by omega) (by omega)
theorem r_word {d a n b k : Nat} {h : AH} {T : Nat → Nat} (c : CX h a n T b) (hk : k < 31) :
    (wrd n T b = lN (wsp.getD k 0) → ∃ g, am_C PG (d + 4) 79 [.ref 3, .ref (1000000 + k)] h = some (some (.int 1), g) ∧ TQ h g ∧ CX g a n T (nxt n T b)) ∧
    (wrd n T b ≠ lN (wsp.getD k 0) → am_C PG (d + 4) 79 [.ref 3, .ref (1000000 + k)] h = some (some (.int 0), sFI h 603 3 (1 + 16 * nI b))) := by
  obtain ⟨k3, f6, f61, k1, e3, -⟩ := c.ff
  have ew := c.wd
  have aw : ∀ x, am_wd (1000000 + k) x = x := fun x => if_pos (by right; omega)
  constructor
  · intro e
    obtain ⟨g, g1, g2, g3⟩ := r_adv (d := d) c
    refine ⟨g, ?_, g2, g3⟩
    rw [q_X6_word]
    simp only [am_kd, k3, k1, if_true, f6, bR_s, ew, am_wd_w, aw, wdo_p _ hk, e, g1, bV_s, am_nar4_1]
  · intro e
    rw [q_X6_word]
    simp only [am_kd, k3, k1, if_true, f6, bR_s, ew, am_wd_w, aw, wdo_p _ hk, e, if_false, r_wrong c, bI_s, am_nar4_0]
theorem sgn_3 {n b : Nat} {T : Nat → Nat} (h : sgn n T b ≠ 0) : tkS n T b = 3 ∧ sgn n T b = nI (T b) := by
  unfold sgn at h ⊢
  by_cases e : tkS n T b = 3
  · rw [if_pos e]; exact ⟨e, rfl⟩
  · rw [if_neg e] at h; exact absurd rfl h
theorem r_sign {d a n b : Nat} {h : AH} {T : Nat → Nat} (c : CX h a n T b) {s : Int32} (hs : s ≠ 0) :
    (sgn n T b = s → ∃ g, am_C PG (d + 4) 80 [.ref 3, .int s] h = some (some (.int 1), g) ∧ TQ h g ∧ CX g a n T (nxt n T b)) ∧
    (sgn n T b ≠ s → am_C PG (d + 4) 80 [.ref 3, .int s] h = some (some (.int 0), sFI h 603 3 (1 + 16 * nI b))) := by
  obtain ⟨k3, f6, f61, k1, e3, e2, e7, -⟩ := c.ff
  constructor
  · intro e
    obtain ⟨g, g1, g2, g3⟩ := r_adv (d := d) c
    have z := (sgn_3 (n := n) (T := T) (b := b) (by rw [e]; exact hs)).1
    have z3 : (nI 3 = (3 : Int32)) = True := eq_true rfl
    refine ⟨g, ?_, g2, g3⟩
    rw [q_X6_sign]
    simp only [am_kd, k3, k1, if_true, f6, bR_s, e2, z, z3, e7, e, g1, bV_s, am_nar4_1]
  · intro e
    rw [q_X6_sign]
    by_cases z : tkS n T b = 3
    · have z3 : (nI 3 = (3 : Int32)) = True := eq_true rfl
      simp only [am_kd, k3, k1, if_true, f6, bR_s, e2, z, z3, e7, e, if_false, r_wrong c, bI_s, am_nar4_0]
    · have z3 : (nI (tkS n T b) = (3 : Int32)) = False := eq_false (fun y => z ((nI_eq (b := 3) (by have := tkS_le n T b; omega) (by decide)).1 y))
      simp only [am_kd, k3, k1, if_true, f6, bR_s, e2, z3, if_false, r_wrong c, bI_s, am_nar4_0]
theorem CX.num {h : AH} {a n b : Nat} {T : Nat → Nat} (c : CX h a n T b) (z : tkS n T b = 2) : hFI h 904 1 = num n T b := by
  obtain ⟨-, -, -, -, -, -, ⟨k1, k2, k3, k4, k5, k6, k7⟩, -⟩ := c
  exact k7 z
theorem CX.spelt {h : AH} {a n b : Nat} {T : Nat → Nat} (c : CX h a n T b) (z : tkS n T b = 1) : hFJ h 905 1 = wrd n T b := by
  obtain ⟨-, -, -, -, -, -, ⟨k1, k2, k3, k4, k5, k6, k7⟩, -⟩ := c
  unfold wrd
  rw [if_pos z]
  exact (k5 z).1
theorem MX.num {g : AH} {n b : Nat} {T : Nat → Nat} (m : MX g n T b) (z : tkS n T b = 2) : hFI g 1208 348 = num n T b := m.2.1.2.2.2.2 z
theorem MX.spelt {g : AH} {n b : Nat} {T : Nat → Nat} (m : MX g n T b) (z : tkS n T b = 1) : hFJ g 1207 348 = wrd n T b := by
  unfold wrd
  rw [if_pos z]
  exact m.2.1.2.2.2.1 z
theorem r_number {d a n b : Nat} {h : AH} {T : Nat → Nat} (c : CX h a n T b) (lo hi : Int32) :
    (tkS n T b ≠ 2 → am_C PG (d + 4) 81 [.ref 3, .int lo, .int hi] h = some (some (.int 0), sFI h 603 3 (1 + 16 * nI b))) ∧
    (tkS n T b = 2 → (num n T b < lo ∨ hi < num n T b) → am_C PG (d + 4) 81 [.ref 3, .int lo, .int hi] h = some (some (.int 0), sFI h 603 3 (4 + 16 * nI b))) ∧
    (tkS n T b = 2 → ¬ num n T b < lo → ¬ hi < num n T b → ∃ g, am_C PG (d + 4) 81 [.ref 3, .int lo, .int hi] h = some (some (.int 1), g) ∧ CT h g ∧ CX g a n T (nxt n T b) ∧ hFI g 605 3 = num n T b) := by
  obtain ⟨k3, f6, f61, k1, e3, e2, e7, -⟩ := c.ff
  have z2 : (nI 2 = (2 : Int32)) = True := eq_true rfl
  refine ⟨fun z => ?_, fun z y => ?_, fun z y1 y2 => ?_⟩
  · have z3 : (nI (tkS n T b) = (2 : Int32)) = False := eq_false (fun y => z ((nI_eq (b := 2) (by have := tkS_le n T b; omega) (by decide)).1 y))
    rw [q_X6_number]
    simp only [am_kd, k3, k1, if_true, f6, bR_s, e2, z3, if_false, r_wrong c, bI_s, am_nar4_0]
  · have e4 := c.num z
    rw [q_X6_number]
    by_cases y1 : num n T b < lo
    · simp only [am_kd, k3, k1, if_true, f6, bR_s, e2, z, z2, e4, y1, r_wrong c, bI_s, am_nar4_0]
    · have y2 : hi < num n T b := y.resolve_left y1
      simp only [am_kd, k3, k1, if_true, f6, bR_s, e2, z, z2, e4, y1, y2, if_false, r_wrong c, bI_s, am_nar4_0]
  · have e4 := c.num z
    obtain ⟨g, g1, g2, g3⟩ := r_adv (d := d) (c.fi 605 (num n T b))
    have w3 : hK (sFI h 605 3 (num n T b)) 3 = 7 := k3
    have w6 : hFR (sFI h 605 3 (num n T b)) 600 3 = some 1 := f6
    have w1 : hK (sFI h 605 3 (num n T b)) 1 = 10 := k1
    refine ⟨g, ?_, (CT.fi _ _).tr g2.ct, g3, ?_⟩
    · rw [q_X6_number]
      simp only [am_kd, k3, k1, if_true, f6, bR_s, e2, z, z2, e4, y1, y2, if_false, am_let_e, w3, w6, w1, g1, bV_s, am_nar4_1]
    · rw [g2.2.2.2.2.2.2.2.2 _ _ (by omega)]
      exact sFI_at _ _ _ _
theorem m_isWord {d n b : Nat} {g : AH} {T : Nat → Nat} (m : MX g n T b) {w : Int64} (hw : w ≠ 0) : am_C PG (d + 1) 167 [.ref 348, .long w] g = some (some (.int (if wrd n T b = w then 1 else 0)), g) := by
  obtain ⟨k1, e3, e6, -⟩ := m.ff
  rw [q_X12_isWord]
  by_cases z : tkS n T b = 1
  · have z1 : (nI 1 = (1 : Int32)) = True := eq_true rfl
    simp only [am_kd, k1, if_true, e6, z, z1, m.spelt z, lg0]
    by_cases y : wrd n T b = w
    · rw [if_pos y, if_pos y, am_nar4_1]
    · rw [if_neg y, if_neg y, am_nar4_0]
  · have z1 : (nI (tkS n T b) = (1 : Int32)) = False := eq_false (fun y => z ((nI_eq (b := 1) (by have := tkS_le n T b; omega) (by decide)).1 y))
    have y : ¬ wrd n T b = w := fun y => hw (by rw [← y]; exact wrd_0.2 z)
    simp only [am_kd, k1, if_true, e6, z1, if_false, am_nar4_0, if_neg y]
theorem m_isSign {d n b : Nat} {g : AH} {T : Nat → Nat} (m : MX g n T b) {s : Int32} (hs : s ≠ 0) : am_C PG (d + 1) 168 [.ref 348, .int s] g = some (some (.int (if sgn n T b = s then 1 else 0)), g) := by
  obtain ⟨k1, e3, e6, -⟩ := m.ff
  obtain ⟨-, f2, k2, n2⟩ := m.1.rw'
  have hn := m.1.2.1
  rw [q_X12_isSign]
  by_cases z : tkS n T b = 3
  · have z1 : (nI 3 = (3 : Int32)) = True := eq_true rfl
    have hb := (tkS_3 z).1
    have es : sgn n T b = nI (T b) := by unfold sgn; rw [if_pos z]
    have t2 := (m.1.2.2.2 b hb).2
    have ei : ∀ x, am_in (nI b) 1000 x = x := am_inN (by omega) (by decide)
    have ti : Int32.toNatClampNeg (nI b) = b := nI_clamp (by omega)
    simp only [am_kd, k1, if_true, e6, z, z1, f2, bR_s, k2, n2, e3, ei, ti, t2, es]
    by_cases y : nI (T b) = s
    · rw [if_pos y, if_pos y, am_nar4_1]
    · rw [if_neg y, if_neg y, am_nar4_0]
  · have z1 : (nI (tkS n T b) = (3 : Int32)) = False := eq_false (fun y => z ((nI_eq (b := 3) (by have := tkS_le n T b; omega) (by decide)).1 y))
    have es : sgn n T b = 0 := by unfold sgn; rw [if_neg z]
    have y : ¬ sgn n T b = s := fun y => hs (by rw [← y, es])
    simp only [am_kd, k1, if_true, e6, z1, if_false, am_nar4_0, if_neg y]
theorem m_needsWord {d n b : Nat} {g : AH} {T : Nat → Nat} (m : MX g n T b) {w : Int64} (hw : w ≠ 0) :
    (wrd n T b = w → ∃ k, am_C PG (d + 3) 183 [.ref 348, .long w] g = some (some (.int 1), k) ∧ MQt g k ∧ MX k n T (nxt n T b)) ∧
    (wrd n T b ≠ w → am_C PG (d + 3) 183 [.ref 348, .long w] g = some (some (.int 0), sFI g 1209 348 (1 + 16 * nI b))) := by
  have k1 := m.ff.1
  have z1 : ((1 : Int32) = 0) = False := eq_false (by decide)
  constructor
  · intro e
    obtain ⟨k, g1, g2, g3⟩ := m_adv (d := d) m
    refine ⟨k, ?_, g2, g3⟩
    rw [q_X12_needsWord]
    simp only [am_kd, k1, if_true, m_isWord m hw, bI_s, e, z1, if_false, g1, bV_s, am_nar4_1]
  · intro e
    rw [q_X12_needsWord]
    simp only [am_kd, k1, if_true, m_isWord m hw, bI_s, e, if_false, m_fails m, am_nar4_0]
theorem m_closes {d n b : Nat} {g : AH} {T : Nat → Nat} (m : MX g n T b) :
    (sgn n T b = 59 → ∃ k, am_C PG (d + 3) 185 [.ref 348] g = some (some (.int 1), k) ∧ MQt g k ∧ MX k n T (nxt n T b)) ∧
    (sgn n T b ≠ 59 → am_C PG (d + 3) 185 [.ref 348] g = some (some (.int 0), sFI g 1209 348 (1 + 16 * nI b))) := by
  have k1 := m.ff.1
  have z1 : ((1 : Int32) = 0) = False := eq_false (by decide)
  constructor
  · intro e
    obtain ⟨k, g1, g2, g3⟩ := m_adv (d := d) m
    refine ⟨k, ?_, g2, g3⟩
    rw [q_X12_closes]
    simp only [am_kd, k1, if_true, m_isSign m (show (59 : Int32) ≠ 0 by decide), bI_s, e, z1, if_false, g1, bV_s, am_nar4_1]
  · intro e
    rw [q_X12_closes]
    simp only [am_kd, k1, if_true, m_isSign m (show (59 : Int32) ≠ 0 by decide), bI_s, e, if_false, m_fails m, am_nar4_0]
theorem m_needsNumber {d n b : Nat} {g : AH} {T : Nat → Nat} (m : MX g n T b) (lo hi : Int32) :
    (tkS n T b ≠ 2 → am_C PG (d + 3) 182 [.ref 348, .int lo, .int hi] g = some (some (.int 0), sFI g 1209 348 (1 + 16 * nI b))) ∧
    (tkS n T b = 2 → (num n T b < lo ∨ hi < num n T b) → am_C PG (d + 3) 182 [.ref 348, .int lo, .int hi] g = some (some (.int 0), sFI g 1209 348 (4 + 16 * nI b))) ∧
    (tkS n T b = 2 → ¬ num n T b < lo → ¬ hi < num n T b → ∃ k, am_C PG (d + 3) 182 [.ref 348, .int lo, .int hi] g = some (some (.int 1), k) ∧ MT g k ∧ MX k n T (nxt n T b) ∧ hFI k 1246 348 = num n T b) := by
  obtain ⟨k1, e3, e6, -⟩ := m.ff
  have z2 : (nI 2 = (2 : Int32)) = True := eq_true rfl
  have z1 : ((1 : Int32) = 0) = False := eq_false (by decide)
  refine ⟨fun z => ?_, fun z y => ?_, fun z y1 y2 => ?_⟩
  · have z3 : (nI (tkS n T b) = (2 : Int32)) = False := eq_false (fun y => z ((nI_eq (b := 2) (by have := tkS_le n T b; omega) (by decide)).1 y))
    rw [q_X12_needsNumber]
    simp only [am_kd, k1, if_true, e6, z3, if_false, m_fails m, bI_s, am_nar4_0]
  · rw [q_X12_needsNumber]
    by_cases y1 : num n T b < lo
    · simp only [am_kd, k1, if_true, e6, z, z2, m.num z, q_X12_within, y1, bI_s, am_nar4_0, m_fails m]
    · have y2 : hi < num n T b := y.resolve_left y1
      simp only [am_kd, k1, if_true, e6, z, z2, m.num z, q_X12_within, y1, y2, if_false, bI_s, am_nar4_0, m_fails m]
  · obtain ⟨k, g1, g2, g3⟩ := m_adv (d := d) (m.fi (k := 1246) (num n T b) (by omega))
    have w1 : hK (sFI g 1246 348 (num n T b)) 348 = 13 := k1
    refine ⟨k, ?_, (MT.fi _ _).tr g2.mt, g3, ?_⟩
    · rw [q_X12_needsNumber]
      simp only [am_kd, k1, if_true, e6, z, z2, m.num z, q_X12_within, y1, y2, if_false, am_nar4_1, bI_s, z1, am_let_e, w1, g1, bV_s]
    · rw [g2.2.2.2.2.2.2.2.2 _ _ (by omega)]
      exact sFI_at _ _ _ _
theorem r_isName {d a n b : Nat} {h : AH} {T : Nat → Nat} (c : CX h a n T b) : am_C PG (d + 1) 120 [.ref 1] h = some (some (.int (if nam n T b then 1 else 0)), h) := by
  obtain ⟨k3, f6, f61, k1, e3, e2, e7, -⟩ := c.ff
  have ew := c.wd
  have z1 : (nI 1 = (1 : Int32)) = True := eq_true rfl
  rw [q_X9_isName]
  unfold nam
  by_cases z : tkS n T b = 1
  · rcases wdo_c (wrd n T b) 31 0 rfl with ⟨h1, h2⟩ | ⟨j, h1, h2, h3, h4⟩
    · rw [decide_eq_true ⟨z, by rw [h1]; decide⟩]
      simp only [am_kd, k1, if_true, e2, z, z1, ew, h1, am_nar4_1]
    · obtain ⟨t1, t2, t3, t4⟩ := c.2.2.2.2.1.2.2 j h2
      have n1 : (1000000 + j = nul) = False := eq_false (by show ¬ 1000000 + j = 1999999; omega)
      by_cases y : j < 27
      · have z0 : ((1 : Int32) = 0) = False := eq_false (by decide)
        rw [decide_eq_false (fun q => q.2 (by omega))]
        simp only [am_kd, k1, if_true, e2, z, z1, ew, h3, n1, if_false, t2, t4, if_pos y, z0, am_nar4_0, Bool.false_eq_true]
      · rw [decide_eq_true ⟨z, by omega⟩]
        simp only [am_kd, k1, if_true, e2, z, z1, ew, h3, n1, if_false, t2, t4, if_neg y, am_nar4_1]
  · have z3 : (nI (tkS n T b) = (1 : Int32)) = False := eq_false (fun y => z ((nI_eq (b := 1) (by have := tkS_le n T b; omega) (by decide)).1 y))
    rw [decide_eq_false (fun q => z q.1)]
    simp only [am_kd, k1, if_true, e2, z3, if_false, am_nar4_0, Bool.false_eq_true]
theorem nam_1 {n b : Nat} {T : Nat → Nat} (h : nam n T b = true) : tkS n T b = 1 := (of_decide_eq_true h).1
theorem nam_n {n b : Nat} {T : Nat → Nat} {i : Nat} (hi : i < 27) (h : wrd n T b = lN (wsp.getD i 0)) : nam n T b = false := decide_eq_false (fun q => q.2 (by have e : wdo (wrd n T b) 31 0 = 1000000 + i := (wdo_p (wrd n T b) (show i < 31 by omega)).symm ▸ h; omega))
theorem m_isKept {d n b : Nat} {g : AH} {T : Nat → Nat} (m : MX g n T b) : am_C PG (d + 1) 177 [.ref 348] g = some (some (.int (if nam n T b then 0 else 1)), g) := by
  obtain ⟨k1, e3, e6, -⟩ := m.ff
  have z1 : (nI 1 = (1 : Int32)) = True := eq_true rfl
  rw [q_X12_isKept]
  by_cases z : tkS n T b = 1
  · simp only [am_kd, k1, if_true, e6, z, z1, m.spelt z, lg0, am_nar4_0, am_nar4_1]
    have N : ∀ i, i < 27 → wrd n T b = lN (wsp.getD i 0) → (some (some (Value.int 1), g) : Option Res) = some (some (.int (if nam n T b then 0 else 1)), g) := fun i hi h => by
      rw [nam_n hi h]
      rfl
    by_cases c0 : wrd n T b = (8740067 : Int64)
    · rw [if_pos c0]; exact N 0 (by decide) c0
    rw [if_neg c0]
    by_cases c1 : wrd n T b = (456690 : Int64)
    · rw [if_pos c1]; exact N 1 (by decide) c1
    rw [if_neg c1]
    by_cases c2 : wrd n T b = (16819 : Int64)
    · rw [if_pos c2]; exact N 2 (by decide) c2
    rw [if_neg c2]
    by_cases c3 : wrd n T b = (1841546 : Int64)
    · rw [if_pos c3]; exact N 3 (by decide) c3
    rw [if_neg c3]
    by_cases c4 : wrd n T b = (47 : Int64)
    · rw [if_pos c4]; exact N 4 (by decide) c4
    rw [if_neg c4]
    by_cases c5 : wrd n T b = (4555648 : Int64)
    · rw [if_pos c5]; exact N 5 (by decide) c5
    rw [if_neg c5]
    by_cases c6 : wrd n T b = (5878 : Int64)
    · rw [if_pos c6]; exact N 6 (by decide) c6
    rw [if_neg c6]
    by_cases c7 : wrd n T b = (380989 : Int64)
    · rw [if_pos c7]; exact N 7 (by decide) c7
    rw [if_neg c7]
    by_cases c8 : wrd n T b = (232608281 : Int64)
    · rw [if_pos c8]; exact N 8 (by decide) c8
    rw [if_neg c8]
    by_cases c9 : wrd n T b = (464141 : Int64)
    · rw [if_pos c9]; exact N 9 (by decide) c9
    rw [if_neg c9]
    by_cases c10 : wrd n T b = (79 : Int64)
    · rw [if_pos c10]; exact N 10 (by decide) c10
    rw [if_neg c10]
    by_cases c11 : wrd n T b = (168984 : Int64)
    · rw [if_pos c11]; exact N 11 (by decide) c11
    rw [if_neg c11]
    by_cases c12 : wrd n T b = (316351 : Int64)
    · rw [if_pos c12]; exact N 12 (by decide) c12
    rw [if_neg c12]
    by_cases c13 : wrd n T b = (161156 : Int64)
    · rw [if_pos c13]; exact N 13 (by decide) c13
    rw [if_neg c13]
    by_cases c14 : wrd n T b = (555 : Int64)
    · rw [if_pos c14]; exact N 14 (by decide) c14
    rw [if_neg c14]
    by_cases c15 : wrd n T b = (291420470 : Int64)
    · rw [if_pos c15]; exact N 15 (by decide) c15
    rw [if_neg c15]
    by_cases c16 : wrd n T b = (326448 : Int64)
    · rw [if_pos c16]; exact N 16 (by decide) c16
    rw [if_neg c16]
    by_cases c17 : wrd n T b = (91904 : Int64)
    · rw [if_pos c17]; exact N 17 (by decide) c17
    rw [if_neg c17]
    by_cases c18 : wrd n T b = (204 : Int64)
    · rw [if_pos c18]; exact N 18 (by decide) c18
    rw [if_neg c18]
    by_cases c19 : wrd n T b = (10494723 : Int64)
    · rw [if_pos c19]; exact N 19 (by decide) c19
    rw [if_neg c19]
    by_cases c20 : wrd n T b = (8740238 : Int64)
    · rw [if_pos c20]; exact N 20 (by decide) c20
    rw [if_neg c20]
    by_cases c21 : wrd n T b = (11263 : Int64)
    · rw [if_pos c21]; exact N 21 (by decide) c21
    rw [if_neg c21]
    by_cases c22 : wrd n T b = (262775 : Int64)
    · rw [if_pos c22]; exact N 22 (by decide) c22
    rw [if_neg c22]
    by_cases c23 : wrd n T b = (3074 : Int64)
    · rw [if_pos c23]; exact N 23 (by decide) c23
    rw [if_neg c23]
    by_cases c24 : wrd n T b = (10631 : Int64)
    · rw [if_pos c24]; exact N 24 (by decide) c24
    rw [if_neg c24]
    by_cases c25 : wrd n T b = (1111 : Int64)
    · rw [if_pos c25]; exact N 25 (by decide) c25
    rw [if_neg c25]
    by_cases c26 : wrd n T b = (423 : Int64)
    · rw [if_pos c26]; exact N 26 (by decide) c26
    rw [if_neg c26]
    have y : nam n T b = true := by
      refine decide_eq_true ⟨z, ?_⟩
      rcases wdo_c (wrd n T b) 31 0 rfl with ⟨h1, h2⟩ | ⟨i, h1, h2, h3, h4⟩
      · rw [h1]; decide
      · intro q
        have hi : i < 27 := by omega
        match i, hi, h4 with
        | 0, _, h4 => exact c0 h4.symm
        | 1, _, h4 => exact c1 h4.symm
        | 2, _, h4 => exact c2 h4.symm
        | 3, _, h4 => exact c3 h4.symm
        | 4, _, h4 => exact c4 h4.symm
        | 5, _, h4 => exact c5 h4.symm
        | 6, _, h4 => exact c6 h4.symm
        | 7, _, h4 => exact c7 h4.symm
        | 8, _, h4 => exact c8 h4.symm
        | 9, _, h4 => exact c9 h4.symm
        | 10, _, h4 => exact c10 h4.symm
        | 11, _, h4 => exact c11 h4.symm
        | 12, _, h4 => exact c12 h4.symm
        | 13, _, h4 => exact c13 h4.symm
        | 14, _, h4 => exact c14 h4.symm
        | 15, _, h4 => exact c15 h4.symm
        | 16, _, h4 => exact c16 h4.symm
        | 17, _, h4 => exact c17 h4.symm
        | 18, _, h4 => exact c18 h4.symm
        | 19, _, h4 => exact c19 h4.symm
        | 20, _, h4 => exact c20 h4.symm
        | 21, _, h4 => exact c21 h4.symm
        | 22, _, h4 => exact c22 h4.symm
        | 23, _, h4 => exact c23 h4.symm
        | 24, _, h4 => exact c24 h4.symm
        | 25, _, h4 => exact c25 h4.symm
        | 26, _, h4 => exact c26 h4.symm
        | i + 27, hi, _ => exact absurd hi (by omega)
    rw [y]
    rfl
  · have z3 : (nI (tkS n T b) = (1 : Int32)) = False := eq_false (fun y => z ((nI_eq (b := 1) (by have := tkS_le n T b; omega) (by decide)).1 y))
    have y : nam n T b = false := decide_eq_false (fun q => z q.1)
    rw [y]
    simp only [am_kd, k1, if_true, e6, z3, if_false, am_nar4_1, Bool.false_eq_true]
