/-! The reader: tokens of a law, on both sides. -/
/-- what reading a law changes of the class; of the model -/
def CL (a : Nat) (h g : AH) : Prop := hK g = hK h ∧ hLN g = hLN h ∧ hAJ g = hAJ h ∧ hAR g = hAR h ∧ hNX g = hNX h ∧ (∀ k x, (k ≠ 906 ∨ x ≠ 1) → hFR g k x = hFR h k x) ∧ (∀ k x, (k ≠ 905 ∨ x ≠ 1) → hFJ g k x = hFJ h k x) ∧
  (∀ k x, (x ≠ 1 ∨ k < 902 ∨ 908 < k) → (x ≠ 3 ∨ k ≠ 605) → (x ≠ a + 14 ∨ k ≠ 401) → hFI g k x = hFI h k x) ∧ ∀ x, x ≠ a + 15 → hAI g x = hAI h x
def ML (h g : AH) : Prop := hK g = hK h ∧ hFR g = hFR h ∧ hLN g = hLN h ∧ hAJ g = hAJ h ∧ hAR g = hAR h ∧ hNX g = hNX h ∧ (∀ k x, (k ≠ 1207 ∨ x ≠ 348) → hFJ g k x = hFJ h k x) ∧ (∀ k x, (x ≠ 348 ∨ k < 1204 ∨ (1208 < k ∧ k ≠ 1233 ∧ k ≠ 1246)) → hFI g k x = hFI h k x) ∧
  ∀ r i, (r < 372 ∨ 374 < r ∨ (r = 372 ∧ i < 1000)) → hAI g r i = hAI h r i
theorem CL.rfl' (a : Nat) (h : AH) : CL a h h := ⟨rfl, rfl, rfl, rfl, rfl, fun _ _ _ => rfl, fun _ _ _ => rfl, fun _ _ _ _ _ => rfl, fun _ _ => rfl⟩
theorem ML.rfl' (h : AH) : ML h h := ⟨rfl, rfl, rfl, rfl, rfl, rfl, fun _ _ _ => rfl, fun _ _ _ => rfl, fun _ _ _ => rfl⟩
theorem CL.tr {a : Nat} {h g k : AH} (p : CL a h g) (q : CL a g k) : CL a h k := by
  obtain ⟨a1, a2, a3, a4, a5, a6, a7, a8, a9⟩ := p
  obtain ⟨b1, b2, b3, b4, b5, b6, b7, b8, b9⟩ := q
  exact ⟨b1.trans a1, b2.trans a2, b3.trans a3, b4.trans a4, b5.trans a5, fun k x e => (b6 k x e).trans (a6 k x e), fun k x e => (b7 k x e).trans (a7 k x e), fun k x e1 e2 e3 => (b8 k x e1 e2 e3).trans (a8 k x e1 e2 e3), fun x e => (b9 x e).trans (a9 x e)⟩
theorem ML.tr {h g k : AH} (p : ML h g) (q : ML g k) : ML h k := by
  obtain ⟨a1, a2, a3, a4, a5, a6, a7, a8, a9⟩ := p
  obtain ⟨b1, b2, b3, b4, b5, b6, b7, b8, b9⟩ := q
  exact ⟨b1.trans a1, b2.trans a2, b3.trans a3, b4.trans a4, b5.trans a5, b6.trans a6, fun k x e => (b7 k x e).trans (a7 k x e), fun k x e => (b8 k x e).trans (a8 k x e), fun x i e => (b9 x i e).trans (a9 x i e)⟩
theorem CT.cl {h g : AH} (a : Nat) (q : CT h g) : CL a h g := by
  obtain ⟨a1, a2, a3, a4, a5, a6, a7, a8, a9⟩ := q
  exact ⟨a1, a2, a4, a5, a6, a7, a8, fun k x e1 e2 _ => a9 k x e1 e2, fun x _ => by rw [a3]⟩
theorem MT.ml {h g : AH} (q : MT h g) : ML h g := by
  obtain ⟨a1, a2, a3, a4, a5, a6, a7, a8, a9⟩ := q
  exact ⟨a1, a2, a3, a5, a6, a7, a8, fun k x e => a9 k x (by omega) (by omega), fun r i _ => by rw [a4]⟩
theorem CL.cs {a : Nat} {h g : AH} (ha : 3 < a) (q : CL a h g) : CS a h g := by
  obtain ⟨a1, a2, a3, a4, a5, a6, a7, a8, a9⟩ := q
  exact ⟨⟨a1, a2, a4, a5, a6, a7, fun k x e1 e2 _ e4 => a8 k x e1 (by omega) e4, fun x e => a9 x (by omega), fun x _ => by rw [a3]⟩, a8 _ _ (by omega) (by omega) (by omega)⟩
theorem ML.mz {h g : AH} (q : ML h g) : MZ h g := by
  obtain ⟨a1, a2, a3, a4, a5, a6, a7, a8, a9⟩ := q
  refine ⟨a1, a2, a3, a5, a6, a7, fun k x e => a8 k x (by omega), fun r i e => ?_, fun r i _ => by rw [a4]⟩
  by_cases c : r < 372 ∨ 374 < r ∨ (r = 372 ∧ i < 1000)
  · exact a9 r i c
  · exfalso
    have h2 : hf 372 = 1000 := rfl
    have h3 : hf 373 = 0 := rfl
    have h4 : hf 374 = 0 := rfl
    rcases (show r = 372 ∨ r = 373 ∨ r = 374 by omega) with rfl | rfl | rfl <;> omega
/-- a law under way: l codes of the class, c of the model -/
def TS (a n : Nat) (T : Nat → Nat) (b : Nat) (h g : AH) (l c : Nat) : Prop := CX h a n T b ∧ MX g n T b ∧ hFI h 401 (a + 14) = nI l ∧ hFI g 1233 348 = nI (1000 + c) ∧ l ≤ b ∧ c ≤ b
/-- the model's head -/
noncomputable def Hd (d w : Nat) (x : Int32) (g : AH) : Option Res := am_R PG (d + 4) 172 11 [some (.ref 348), some (.int (nI w)), some (.int x), none, none, none] [] g
theorem c_ladd {d a n b l : Nat} {h : AH} {T : Nat → Nat} (c : CX h a n T b) (hl : hFI h 401 (a + 14) = nI l) (h1 : l < 1000) (v : Int32) : am_C PG (d + 1) 44 [.ref (a + 14), .int v] h = some (none, sFI (sEI h (a + 15) l v) 401 (a + 14) (nI (l + 1))) := by
  obtain ⟨q1, q2, q3, q4, q5, -⟩ := c.2.2.2.1.2.1
  have e5 : (nI l < (1000 : Int32)) = True := eq_true (nI_lt (b := 1000) h1 (by decide))
  have ei : ∀ x, am_in (nI l) 1000 x = x := am_inN h1 (by decide)
  have ti : Int32.toNatClampNeg (nI l) = l := nI_clamp (by omega)
  have f1 : hFR h 400 (a + 14) = some (a + 15) := q2
  have f2 : hK h (a + 15) = 50 := q4
  have f3 : hLN h (a + 15) = 1000 := q5
  rw [q_X4_add]
  simp only [am_kd, q1, hl, e5, if_true, f1, bR_s, f2, f3, ei, ti, am_let_e, rd_hK_sEI, rd_hFI_sEI, nI_1]
theorem m_puts {d n b c : Nat} {g : AH} {T : Nat → Nat} (m : MX g n T b) (hc : hFI g 1233 348 = nI (1000 + c)) (h1 : c < 1000) (v : Int32) : am_C PG (d + 1) 170 [.ref 348, .int v] g = some (none, sFI (sEI g 372 (1000 + c) v) 1233 348 (nI (1000 + (c + 1)))) := by
  have hm := m.1.1
  have m0 := hm.1
  have f1232 : hFR _ 1232 348 = some 372 := (hm.2 23 (by decide)).1
  have k372 : hK _ 372 = 50 := (hm.2 23 (by decide)).2.1
  have n372 : hLN _ 372 = 2000 := (hm.2 23 (by decide)).2.2
  have ei : ∀ x, am_in (nI (1000 + c)) 2000 x = x := am_inN (by omega) (by decide)
  have ti : Int32.toNatClampNeg (nI (1000 + c)) = 1000 + c := nI_clamp (by omega)
  rw [q_X12_puts]
  simp only [am_kd, m0, f1232, k372, n372, hc, if_true, bR_s, ei, ti, am_let_e, rd_hK_sEI, rd_hFI_sEI, nI_1, Nat.add_assoc]
theorem CL.add {a : Nat} (h : AH) (l : Nat) (v : Int32) : CL a h (sFI (sEI h (a + 15) l v) 401 (a + 14) (nI (l + 1))) := ⟨rfl, rfl, rfl, rfl, rfl, fun _ _ _ => rfl, fun _ _ _ => rfl, fun k x e1 e2 e3 => (sFI_o _ _ (by omega)).trans rfl, fun x e => sEI_ne _ _ _ e⟩
theorem ML.put (g : AH) (c : Nat) (v : Int32) : ML g (sFI (sEI g 372 (1000 + c) v) 1233 348 (nI (1000 + (c + 1)))) := ⟨rfl, rfl, rfl, rfl, rfl, rfl, fun _ _ _ => rfl, fun k x e => (sFI_o _ _ (by omega)).trans rfl, fun r i e => by
  rw [rd_hAI_sFI]
  by_cases z : r = 372
  · subst z
    rw [sEI_at, pk_un (by omega)]
  · rw [sEI_ne _ _ _ z]⟩
theorem ML.op (g : AH) {r : Nat} (i : Nat) (v : Int32) (hr : r = 373 ∨ r = 374) : ML g (sEI g r i v) := ⟨rfl, rfl, rfl, rfl, rfl, rfl, fun _ _ _ => rfl, fun _ _ _ => rfl, fun x j e => by rw [sEI_ne _ _ _ (by omega)]⟩
theorem CX.add {h : AH} {a n b : Nat} {T : Nat → Nat} (c : CX h a n T b) (ha : 3 < a) (ha2 : a ≤ 30) (l : Nat) (v : Int32) : CX (sFI (sEI h (a + 15) l v) 401 (a + 14) (nI (l + 1))) a n T b := (c.ei l v (by omega)).fa 401 _ (by omega)
theorem MX.put {g : AH} {n b : Nat} {T : Nat → Nat} (m : MX g n T b) (c : Nat) (v : Int32) : MX (sFI (sEI g 372 (1000 + c) v) 1233 348 (nI (1000 + (c + 1)))) n T b := (m.ei (r := 372) (1000 + c) v (by decide)).fi (k := 1233) _ (by omega)
/-- base, hot, kind, shown: the class's code, the model's -/
def fct (s : Int64) : Int32 := if s = 40613 then -1 else if s = 6257 then -2 else if s = 223456 then -3 else if s = 10266413 then -4 else 0
def fcM (s : Int64) : Int32 := if s = 40613 then 1 else if s = 6257 then 2 else if s = 223456 then 3 else if s = 10266413 then 4 else 0
theorem fct_c (s : Int64) : (fct s = 0 ∧ fcM s = 0) ∨ (fct s = -1 ∧ fcM s = 1 ∧ s = 40613) ∨ (fct s = -2 ∧ fcM s = 2 ∧ s = 6257) ∨ (fct s = -3 ∧ fcM s = 3 ∧ s = 223456) ∨ (fct s = -4 ∧ fcM s = 4 ∧ s = 10266413) := by
  unfold fct fcM
  by_cases c1 : s = 40613
  · right; left; rw [if_pos c1, if_pos c1]; exact ⟨rfl, rfl, c1⟩
  by_cases c2 : s = 6257
  · right; right; left; rw [if_neg c1, if_neg c1, if_pos c2, if_pos c2]; exact ⟨rfl, rfl, c2⟩
  by_cases c3 : s = 223456
  · right; right; right; left; rw [if_neg c1, if_neg c1, if_neg c2, if_neg c2, if_pos c3, if_pos c3]; exact ⟨rfl, rfl, c3⟩
  by_cases c4 : s = 10266413
  · right; right; right; right; rw [if_neg c1, if_neg c1, if_neg c2, if_neg c2, if_neg c3, if_neg c3, if_pos c4, if_pos c4]; exact ⟨rfl, rfl, c4⟩
  · left; rw [if_neg c1, if_neg c1, if_neg c2, if_neg c2, if_neg c3, if_neg c3, if_neg c4, if_neg c4]; exact ⟨rfl, rfl⟩
theorem r_fact {d a n b : Nat} {h : AH} {T : Nat → Nat} (c : CX h a n T b) : am_C PG (d + 1) 100 [.ref 3] h = some (some (.int (fct (wrd n T b))), h) := by
  obtain ⟨k3, f6, f61, k1, e3, -⟩ := c.ff
  have ew := c.wd
  rw [q_X6_factCode]
  simp only [am_kd, k3, k1, if_true, f6, bR_s, ew, am_wd_w, am_wd_27, wd_27, am_wd_28, wd_28, am_wd_29, wd_29, am_wd_30, wd_30]
  unfold fct
  repeat' split
  all_goals first | rfl | (exfalso; simp_all)
theorem m_fact {d n b : Nat} {g : AH} {T : Nat → Nat} (m : MX g n T b) : am_C PG (d + 1) 171 [.ref 348] g = some (some (.int (fcM (wrd n T b))), g) := by
  obtain ⟨k1, e3, e6, -⟩ := m.ff
  rw [q_X12_fact]
  by_cases z : tkS n T b = 1
  · have z1 : (nI 1 = (1 : Int32)) = True := eq_true rfl
    simp only [am_kd, k1, if_true, e6, z, z1, m.spelt z, lg0]
    unfold fcM
    repeat' split
    all_goals first | rfl | (exfalso; simp_all)
  · have z1 : (nI (tkS n T b) = (1 : Int32)) = False := eq_false (fun y => z ((nI_eq (b := 1) (by have := tkS_le n T b; omega) (by decide)).1 y))
    have w0 : wrd n T b = 0 := wrd_0.2 z
    have f0 : fcM 0 = 0 := by decide
    simp only [am_kd, k1, if_true, e6, z1, if_false, w0, f0]
theorem tk2 {n b : Nat} {T : Nat → Nat} (h : tkS n T b = 2) : wrd n T b = 0 ∧ sgn n T b = 0 := by
  refine ⟨wrd_0.2 (by omega), ?_⟩
  unfold sgn
  rw [if_neg (by omega)]
theorem tk1 {n b : Nat} {T : Nat → Nat} (h : wrd n T b ≠ 0) : tkS n T b = 1 ∧ sgn n T b = 0 := by
  have : tkS n T b = 1 := Classical.byContradiction fun z => h (wrd_0.2 z)
  refine ⟨this, ?_⟩
  unfold sgn
  rw [if_neg (by omega)]
/-- a part: how it begins, the class -/
theorem r_part {d a n b : Nat} {h : AH} {T : Nat → Nat} (c : CX h a n T b) (w : Int32) :
    ((tkS n T b = 2 ∨ fct (wrd n T b) ≠ 0) → am_C PG (d + 2) 99 [.ref 3, .int w] h = am_R PG (d + 2) 99 69 [some (.ref 3), some (.int w), some (.int 1), some (.int 0)] [] h) ∧
    (wrd n T b = 10631 → am_C PG (d + 2) 99 [.ref 3, .int w] h = am_R PG (d + 2) 99 69 [some (.ref 3), some (.int w), some (.int 0), some (.int 1)] [] h) ∧
    (sgn n T b = 40 → am_C PG (d + 2) 99 [.ref 3, .int w] h = am_R PG (d + 2) 99 69 [some (.ref 3), some (.int w), some (.int 0), some (.int 0)] [] h) ∧
    (tkS n T b ≠ 2 → fct (wrd n T b) = 0 → wrd n T b ≠ 10631 → sgn n T b ≠ 40 → am_C PG (d + 2) 99 [.ref 3, .int w] h = some (some (.int 0), sFI h 603 3 (1 + 16 * nI b))) := by
  obtain ⟨k3, f6, f61, k1, e3, e2, e7, -⟩ := c.ff
  have ew := c.wd
  have z1 : ((1 : Int32) = 0) = False := eq_false (by decide)
  have kf := r_fact (d := d) c
  have n2 : tkS n T b ≠ 2 → (nI (tkS n T b) = (2 : Int32)) = False := fun z => eq_false (fun y => z ((nI_eq (b := 2) (by have := tkS_le n T b; omega) (by decide)).1 y))
  have w24 := wd_24 (wrd n T b)
  rw [q_X6_part]
  simp only [am_kd, k3, k1, if_true, f6, bR_s, e2, ew, am_wd_w, am_wd_24, w24, e7, kf, bI_s, z1, if_false, r_wrong c, am_nar4_0]
  refine ⟨fun z => ?_, fun z => ?_, fun z => ?_, fun y1 y2 y3 y4 => ?_⟩
  · by_cases y : tkS n T b = 2
    · have y' : (nI (tkS n T b) = (2 : Int32)) = True := eq_true (by rw [y]; rfl)
      have w0 : (wrd n T b = (10631 : Int64)) = False := eq_false (by rw [(tk2 y).1]; decide)
      simp only [y', if_true, w0, if_false]
    · have f0 := z.resolve_left y
      have w0 : (wrd n T b = (10631 : Int64)) = False := eq_false (fun q => f0 (by rw [q]; decide))
      simp only [n2 y, if_false, eq_false f0, w0]
  · have t1 := tk1 (n := n) (T := T) (b := b) (by rw [z]; decide)
    have f0 : (fct (wrd n T b) = 0) = True := eq_true (by rw [z]; decide)
    have w0 : (wrd n T b = (10631 : Int64)) = True := eq_true z
    simp only [n2 (by omega), if_false, f0, if_true, w0]
  · have t3 := (sgn_3 (n := n) (T := T) (b := b) (by rw [z]; decide)).1
    have ww : wrd n T b = 0 := wrd_0.2 (by omega)
    have f0 : (fct (wrd n T b) = 0) = True := eq_true (by rw [ww]; decide)
    have w0 : (wrd n T b = (10631 : Int64)) = False := eq_false (by rw [ww]; decide)
    have s0 : (sgn n T b = (40 : Int32)) = True := eq_true z
    simp only [n2 (by omega), if_false, f0, if_true, w0, s0]
  · simp only [n2 y1, if_false, eq_true y2, if_true, eq_false y3, eq_false y4]
/-- a part: how it begins, the model -/
theorem m_part {d n b w : Nat} {g : AH} {T : Nat → Nat} (m : MX g n T b) :
    ((tkS n T b = 2 ∨ fct (wrd n T b) ≠ 0) → Hd d w 1 g = am_R PG (d + 4) 172 65 [some (.ref 348), some (.int (nI w)), some (.int 1), some (.int (fcM (wrd n T b))), some (.int 0), some (.int 0)] [] g) ∧
    (wrd n T b = 10631 → Hd d w 1 g = am_R PG (d + 4) 172 65 [some (.ref 348), some (.int (nI w)), some (.int 1), some (.int 0), some (.int 1), some (.int 0)] [] g) ∧
    (sgn n T b = 40 → Hd d w 1 g = am_R PG (d + 4) 172 65 [some (.ref 348), some (.int (nI w)), some (.int 1), some (.int 0), some (.int 0), some (.int 1)] [] g) ∧
    (tkS n T b ≠ 2 → fct (wrd n T b) = 0 → wrd n T b ≠ 10631 → sgn n T b ≠ 40 → Hd d w 1 g = some (some (.int 0), sFI g 1209 348 (1 + 16 * nI b))) := by
  obtain ⟨k1, e3, e6, -⟩ := m.ff
  have z1 : ((1 : Int32) = 0) = False := eq_false (by decide)
  have kf := m_fact (d := d + 2) m
  have kw := m_isWord (d := d + 2) m (w := 10631) (by decide)
  have ks := m_isSign (d := d + 2) m (s := 40) (by decide)
  have n2 : tkS n T b ≠ 2 → (nI (tkS n T b) = (2 : Int32)) = False := fun z => eq_false (fun y => z ((nI_eq (b := 2) (by have := tkS_le n T b; omega) (by decide)).1 y))
  have i1 : (if (10631 : Int64) = 10631 then (1 : Int32) else 0) = 1 := rfl
  have i2 : (if (40 : Int32) = 40 then (1 : Int32) else 0) = 1 := rfl
  unfold Hd
  rw [q_X12_reads_11]
  simp only [am_kd, k1, if_true, kf, kw, ks, bI_s, z1, if_false, e6, m_fails m, am_nar4_0]
  refine ⟨fun z => ?_, fun z => ?_, fun z => ?_, fun y1 y2 y3 y4 => ?_⟩
  · by_cases y : tkS n T b = 2
    · have y' : (nI (tkS n T b) = (2 : Int32)) = True := eq_true (by rw [y]; rfl)
      obtain ⟨w0, s0⟩ := tk2 y
      have i3 : (if (0 : Int64) = 10631 then (1 : Int32) else 0) = 0 := rfl
      have i4 : (if (0 : Int32) = 40 then (1 : Int32) else 0) = 0 := rfl
      have i5 : fcM 0 = 0 := by decide
      simp only [y', if_true, w0, s0, i3, i4, i5]
    · have f0 := z.resolve_left y
      have wne : wrd n T b ≠ 0 := fun q => f0 (by rw [q]; decide)
      have s0 := (tk1 wne).2
      have w0 : (wrd n T b = (10631 : Int64)) = False := eq_false (fun q => f0 (by rw [q]; decide))
      have fm : (fcM (wrd n T b) = 0) = False := by
        rcases fct_c (wrd n T b) with ⟨q, -⟩ | ⟨-, q, -⟩ | ⟨-, q, -⟩ | ⟨-, q, -⟩ | ⟨-, q, -⟩
        · exact absurd q f0
        all_goals
          rw [q]
          exact eq_false (by decide)
      have i4 : (if (0 : Int32) = 40 then (1 : Int32) else 0) = 0 := rfl
      simp only [n2 y, if_false, fm, w0, s0, i4]
  · have t1 := tk1 (n := n) (T := T) (b := b) (by rw [z]; decide)
    have f0 : fcM (wrd n T b) = 0 := by rw [z]; decide
    have i4 : (if (0 : Int32) = 40 then (1 : Int32) else 0) = 0 := rfl
    rw [z] at f0 ⊢
    simp only [f0, i1, t1.2, i4, if_true, if_false, z1]
  · have t3 := (sgn_3 (n := n) (T := T) (b := b) (by rw [z]; decide)).1
    have ww : wrd n T b = 0 := wrd_0.2 (by omega)
    have f0 : fcM 0 = 0 := by decide
    have i3 : (if (0 : Int64) = 10631 then (1 : Int32) else 0) = 0 := rfl
    simp only [ww, f0, i3, z, i2, if_true, if_false, z1]
  · have f0 : fcM (wrd n T b) = 0 := by
      rcases fct_c (wrd n T b) with ⟨-, q⟩ | ⟨q, -⟩ | ⟨q, -⟩ | ⟨q, -⟩ | ⟨q, -⟩
      · exact q
      all_goals
        rw [y2] at q
        exact absurd q (by decide)
    simp only [n2 y1, if_false, f0, eq_false y3, eq_false y4, if_true]
/-- levels that nots have opened are closed -/
theorem m_drop {d x : Nat} {g : AH} (hm : MSh g) (v : Int32) (hx : x = 152 ∨ x = 379) : ∀ w, w < 7 → am_R PG (d + 4) 172 x [some (.ref 348), some (.int (nI w)), some (.int v), none, none, none] [] g = bV (am_C PG (d + 3) 166 [.ref 348] g) (fun g3 => Hd d (drp (hAI g 373) w) v g3)
  | 0, _ => by
    have m0 := hm.1
    have e5 : ((0 : Int32) < nI 0) = False := eq_false (by decide)
    rcases hx with rfl | rfl
    · rw [q_X12_reads_152]
      simp only [am_kd, m0, e5, if_true, if_false]
      rfl
    · rw [q_X12_reads_379]
      simp only [am_kd, m0, e5, if_true, if_false]
      rfl
  | w + 1, hw => by
    have ih := m_drop (d := d) hm v hx w (by omega)
    have m0 := hm.1
    have f1234 : hFR _ 1234 348 = some 373 := (hm.2 24 (by decide)).1
    have k373 : hK _ 373 = 50 := (hm.2 24 (by decide)).2.1
    have n373 : hLN _ 373 = 7 := (hm.2 24 (by decide)).2.2
    have e5 : ((0 : Int32) < nI (w + 1)) = True := eq_true (nI_lt (a := 0) (by omega) (by omega))
    have ei : ∀ x, am_in (nI (w + 1)) 7 x = x := am_inN (by omega) (by decide)
    have ti : Int32.toNatClampNeg (nI (w + 1)) = w + 1 := nI_clamp (by omega)
    unfold drp
    rcases hx with rfl | rfl
    · rw [q_X12_reads_152]
      simp only [am_kd, m0, f1234, k373, n373, e5, if_true, bR_s, ei, ti, pk_m1, ih]
      by_cases c : hAI g 373 (w + 1) = 1
      · rw [if_pos c, if_pos c]
      · rw [if_neg c, if_neg c]
        rfl
    · rw [q_X12_reads_379]
      simp only [am_kd, m0, f1234, k373, n373, e5, if_true, bR_s, ei, ti, pk_m1, ih]
      by_cases c : hAI g 373 (w + 1) = 1
      · rw [if_pos c, if_pos c]
      · rw [if_neg c, if_neg c]
        rfl
