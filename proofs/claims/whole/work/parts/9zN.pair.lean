/-! The reader: a step of both sides. -/
/-- both refuse with the same fault -/
def Fb (h g : AH) (C M : Option Res) : Prop := ∃ f h' g', f ≠ 0 ∧ C = some (some (.int 0), sFI h' 603 3 f) ∧ M = some (some (.int 0), sFI g' 1209 348 f) ∧ CT h h' ∧ MT g g'
theorem wsp_ne {k : Nat} (hk : k < 31) : lN (wsp.getD k 0) ≠ 0 := by
  have : ∀ i : Fin 31, lN (wsp.getD i.1 0) ≠ 0 := by decide +kernel
  exact this ⟨k, hk⟩
theorem st_word {d d2 a n b k r : Nat} {w : Int64} {h g : AH} {T : Nat → Nat} (hr : r = 1000000 + k) (hw : w = lN (wsp.getD k 0)) (hk : k < 31) (c : CX h a n T b) (m : MX g n T b) :
    (wrd n T b ≠ w ∧ Fb h g (am_C PG (d + 4) 79 [.ref 3, .ref r] h) (am_C PG (d2 + 3) 183 [.ref 348, .long w] g)) ∨
    (wrd n T b = w ∧ ∃ h' g', am_C PG (d + 4) 79 [.ref 3, .ref r] h = some (some (.int 1), h') ∧ am_C PG (d2 + 3) 183 [.ref 348, .long w] g = some (some (.int 1), g') ∧ CT h h' ∧ MT g g' ∧ CX h' a n T (nxt n T b) ∧ MX g' n T (nxt n T b) ∧ b < n) := by
  subst hr
  subst hw
  obtain ⟨r1, r2⟩ := r_word (d := d) c hk
  obtain ⟨m1, m2⟩ := m_needsWord (d := d2) m (wsp_ne hk)
  by_cases e : wrd n T b = lN (wsp.getD k 0)
  · right
    obtain ⟨h', a1, a2, a3⟩ := r1 e
    obtain ⟨g', b1, b2, b3⟩ := m1 e
    refine ⟨e, h', g', a1, b1, a2.ct, b2.mt, a3, b3, ?_⟩
    refine (tkS_1 (T := T) (n := n) (b := b) (Classical.byContradiction fun z => ?_)).1
    rw [wrd_0.2 z] at e
    exact wsp_ne hk e.symm
  · left
    have hn := c.ff.2.2.2.2.2.2.2
    exact ⟨e, _, h, g, fz_ne (k := 1) (b := b) (by decide) (by decide) (by have := c.2.2.2.2.2.2.2; omega), r2 e, m2 e, CT.rfl' h, MT.rfl' g⟩
theorem st_close {d d2 a n b : Nat} {h g : AH} {T : Nat → Nat} (c : CX h a n T b) (m : MX g n T b) :
    Fb h g (am_C PG (d + 4) 80 [.ref 3, .int 59] h) (am_C PG (d2 + 3) 185 [.ref 348] g) ∨
    ∃ h' g', am_C PG (d + 4) 80 [.ref 3, .int 59] h = some (some (.int 1), h') ∧ am_C PG (d2 + 3) 185 [.ref 348] g = some (some (.int 1), g') ∧ CT h h' ∧ MT g g' ∧ CX h' a n T (nxt n T b) ∧ MX g' n T (nxt n T b) ∧ b < n := by
  obtain ⟨r1, r2⟩ := r_sign (d := d) c (show (59 : Int32) ≠ 0 by decide)
  obtain ⟨m1, m2⟩ := m_closes (d := d2) m
  by_cases e : sgn n T b = 59
  · right
    obtain ⟨h', a1, a2, a3⟩ := r1 e
    obtain ⟨g', b1, b2, b3⟩ := m1 e
    exact ⟨h', g', a1, b1, a2.ct, b2.mt, a3, b3, (tkS_3 (sgn_3 (by rw [e]; decide)).1).1⟩
  · left
    have hn := c.ff.2.2.2.2.2.2.2
    exact ⟨_, h, g, fz_ne (k := 1) (b := b) (by decide) (by decide) (by have := c.2.2.2.2.2.2.2; omega), r2 e, m2 e, CT.rfl' h, MT.rfl' g⟩
theorem st_number {d d2 a n b lo hi : Nat} {l u : Int32} {h g : AH} {T : Nat → Nat} (hl : l = nI lo) (hu : u = nI hi) (hlo : lo ≤ 9999) (hhi : hi ≤ 9999) (c : CX h a n T b) (m : MX g n T b) :
    Fb h g (am_C PG (d + 4) 81 [.ref 3, .int l, .int u] h) (am_C PG (d2 + 3) 182 [.ref 348, .int l, .int u] g) ∨
    ∃ v h' g', lo ≤ v ∧ v ≤ hi ∧ am_C PG (d + 4) 81 [.ref 3, .int l, .int u] h = some (some (.int 1), h') ∧ am_C PG (d2 + 3) 182 [.ref 348, .int l, .int u] g = some (some (.int 1), g') ∧ hFI h' 605 3 = nI v ∧ hFI g' 1246 348 = nI v ∧ CT h h' ∧ MT g g' ∧ CX h' a n T (nxt n T b) ∧ MX g' n T (nxt n T b) ∧ b < n := by
  subst hl
  subst hu
  obtain ⟨r1, r2, r3⟩ := r_number (d := d) c (nI lo) (nI hi)
  obtain ⟨m1, m2, m3⟩ := m_needsNumber (d := d2) m (nI lo) (nI hi)
  have hn := c.ff.2.2.2.2.2.2.2
  have hb : b ≤ 1000 := by have := c.2.2.2.2.2.2.2; omega
  by_cases e : tkS n T b = 2
  · by_cases e2 : num n T b < nI lo ∨ nI hi < num n T b
    · left
      exact ⟨_, h, g, fz_ne (k := 4) (b := b) (by decide) (by decide) hb, r2 e e2, m2 e e2, CT.rfl' h, MT.rfl' g⟩
    · right
      obtain ⟨h', a1, a2, a3, a4⟩ := r3 e (fun z => e2 (Or.inl z)) (fun z => e2 (Or.inr z))
      obtain ⟨g', b1, b2, b3, b4⟩ := m3 e (fun z => e2 (Or.inl z)) (fun z => e2 (Or.inr z))
      obtain ⟨v, v1, v2⟩ := num_n e
      rw [v2] at a4 b4 e2
      refine ⟨v, h', g', ?_, ?_, a1, b1, a4, b4, a2, b2, a3, b3, (tkS_2 e).1⟩
      · exact Nat.le_of_not_lt fun z => e2 (Or.inl (nI_lt z (by omega)))
      · exact Nat.le_of_not_lt fun z => e2 (Or.inr (nI_lt z (by omega)))
  · left
    exact ⟨_, h, g, fz_ne (k := 1) (b := b) (by decide) (by decide) hb, r1 e, m1 e, CT.rfl' h, MT.rfl' g⟩
theorem st_told0 {d d2 a n b r cnt : Nat} {h g : AH} {T : Nat → Nat} {rr ff mm : Int32} (hf : ff = nI 0) (hmm : mm = nI cnt) (hrr : rr = nI r) (hr : r < 2) (hc : hAI g 350 (5 * r + 0) = nI cnt) (hn : cnt ≤ 5) (hN : ∀ j, j < cnt → hAJ h (a + 1) (0 + j) = hAJ g 351 (5 * r + j)) (c : CX h a n T b) (m : MX g n T b) :
    Fb h g (am_C PG (d + 4) 83 [.ref 3, .int ff, .int mm] h) (am_C PG (d2 + 3) 187 [.ref 348, .int rr, .int 0] g) ∨
    ∃ i h' g1 g', i < cnt ∧ am_C PG (d + 4) 83 [.ref 3, .int ff, .int mm] h = some (some (.int 1), h') ∧ am_C PG (d2 + 3) 187 [.ref 348, .int rr, .int 0] g = some (some (.int 1), g1) ∧ am_C PG (d2 + 3) 166 [.ref 348] g1 = some (none, g') ∧ hK g1 348 = 13 ∧ hFI g1 1246 348 = nI i ∧ hFI h' 605 3 = nI i ∧ hFI g' 1246 348 = nI i ∧ CT h h' ∧ MT g g' ∧ CX h' a n T (nxt n T b) ∧ MX g' n T (nxt n T b) ∧ b < n := by
  obtain ⟨r1, r2, r3⟩ := r_toldName (d := d) c (f := 0) (m := cnt) (by omega) hf hmm
  obtain ⟨m1, m2, m3⟩ := m_told0 (d := d2) m hr hc hn hrr
  have hn := c.ff.2.2.2.2.2.2.2
  have hb : b ≤ 1000 := by have := c.2.2.2.2.2.2.2; omega
  have ef : fdx (fun j => hAJ h (a + 1) (0 + j)) (wrd n T b) cnt 0 = fdx (fun j => hAJ g 351 (5 * r + j)) (wrd n T b) cnt 0 := fdx_congr cnt 0 (fun j _ j2 => hN j (by omega))
  rw [ef] at r2 r3
  rcases hz : nam n T b with _ | _
  · left
    exact ⟨_, h, g, fz_ne (k := 1) (b := b) (by decide) (by decide) hb, r1 hz, m1 hz, CT.rfl' h, MT.rfl' g⟩
  · rcases fdx_lt (f := fun j => hAJ g 351 (5 * r + j)) (s := wrd n T b) (k := cnt) (by omega) with ⟨q1, q2⟩ | ⟨q1, i, i1, i2, i3⟩
    · left
      exact ⟨_, _, _, fz_ne (k := 2) (b := b) (by decide) (by decide) hb, r2 hz q1, m2 hz q1, CT.fi _ _, MT.fi _ _⟩
    · right
      obtain ⟨h', a1, a2, a3, a4⟩ := r3 hz q1
      have b1 := m3 hz q1
      rw [i2] at a4 b1
      obtain ⟨g', g1, g2, g3⟩ := m_adv (d := d2 + 1) (m.fi (k := 1246) (nI i) (by omega))
      refine ⟨i, h', _, g', i1, a1, b1, g1, m.ff.1, sFI_at _ _ _ _, a4, ?_, a2, (MT.fi _ _).tr g2.mt, a3, g3, (tkS_1 (nam_1 hz)).1⟩
      rw [g2.2.2.2.2.2.2.2.2 _ _ (by omega)]
      exact sFI_at _ _ _ _
theorem st_told1 {d d2 a n b r cnt : Nat} {h g : AH} {T : Nat → Nat} {rr ff mm : Int32} (hf : ff = nI 5) (hmm : mm = nI cnt) (hrr : rr = nI r) (hr : r < 2) (hc : hAI g 350 (5 * r + 2) = nI cnt) (hn : cnt ≤ 6) (hN : ∀ j, j < cnt → hAJ h (a + 1) (5 + j) = hAJ g 352 (6 * r + j)) (c : CX h a n T b) (m : MX g n T b) :
    Fb h g (am_C PG (d + 4) 83 [.ref 3, .int ff, .int mm] h) (am_C PG (d2 + 3) 187 [.ref 348, .int rr, .int 1] g) ∨
    ∃ i h' g1 g', i < cnt ∧ am_C PG (d + 4) 83 [.ref 3, .int ff, .int mm] h = some (some (.int 1), h') ∧ am_C PG (d2 + 3) 187 [.ref 348, .int rr, .int 1] g = some (some (.int 1), g1) ∧ am_C PG (d2 + 3) 166 [.ref 348] g1 = some (none, g') ∧ hK g1 348 = 13 ∧ hFI g1 1246 348 = nI i ∧ hFI h' 605 3 = nI i ∧ hFI g' 1246 348 = nI i ∧ CT h h' ∧ MT g g' ∧ CX h' a n T (nxt n T b) ∧ MX g' n T (nxt n T b) ∧ b < n := by
  obtain ⟨r1, r2, r3⟩ := r_toldName (d := d) c (f := 5) (m := cnt) (by omega) hf hmm
  obtain ⟨m1, m2, m3⟩ := m_told1 (d := d2) m hr hc hn hrr
  have hn := c.ff.2.2.2.2.2.2.2
  have hb : b ≤ 1000 := by have := c.2.2.2.2.2.2.2; omega
  have ef : fdx (fun j => hAJ h (a + 1) (5 + j)) (wrd n T b) cnt 0 = fdx (fun j => hAJ g 352 (6 * r + j)) (wrd n T b) cnt 0 := fdx_congr cnt 0 (fun j _ j2 => hN j (by omega))
  rw [ef] at r2 r3
  rcases hz : nam n T b with _ | _
  · left
    exact ⟨_, h, g, fz_ne (k := 1) (b := b) (by decide) (by decide) hb, r1 hz, m1 hz, CT.rfl' h, MT.rfl' g⟩
  · rcases fdx_lt (f := fun j => hAJ g 352 (6 * r + j)) (s := wrd n T b) (k := cnt) (by omega) with ⟨q1, q2⟩ | ⟨q1, i, i1, i2, i3⟩
    · left
      exact ⟨_, _, _, fz_ne (k := 2) (b := b) (by decide) (by decide) hb, r2 hz q1, m2 hz q1, CT.fi _ _, MT.fi _ _⟩
    · right
      obtain ⟨h', a1, a2, a3, a4⟩ := r3 hz q1
      have b1 := m3 hz q1
      rw [i2] at a4 b1
      obtain ⟨g', g1, g2, g3⟩ := m_adv (d := d2 + 1) (m.fi (k := 1246) (nI i) (by omega))
      refine ⟨i, h', _, g', i1, a1, b1, g1, m.ff.1, sFI_at _ _ _ _, a4, ?_, a2, (MT.fi _ _).tr g2.mt, a3, g3, (tkS_1 (nam_1 hz)).1⟩
      rw [g2.2.2.2.2.2.2.2.2 _ _ (by omega)]
      exact sFI_at _ _ _ _
theorem st_told2 {d d2 a n b r cnt : Nat} {h g : AH} {T : Nat → Nat} {rr ff mm : Int32} (hf : ff = nI 11) (hmm : mm = nI cnt) (hrr : rr = nI r) (hr : r < 2) (hc : hAI g 350 (5 * r + 3) = nI cnt) (hn : cnt ≤ 4) (hN : ∀ j, j < cnt → hAJ h (a + 1) (11 + j) = hAJ g 353 (4 * r + j)) (c : CX h a n T b) (m : MX g n T b) :
    Fb h g (am_C PG (d + 4) 83 [.ref 3, .int ff, .int mm] h) (am_C PG (d2 + 3) 187 [.ref 348, .int rr, .int 2] g) ∨
    ∃ i h' g1 g', i < cnt ∧ am_C PG (d + 4) 83 [.ref 3, .int ff, .int mm] h = some (some (.int 1), h') ∧ am_C PG (d2 + 3) 187 [.ref 348, .int rr, .int 2] g = some (some (.int 1), g1) ∧ am_C PG (d2 + 3) 166 [.ref 348] g1 = some (none, g') ∧ hK g1 348 = 13 ∧ hFI g1 1246 348 = nI i ∧ hFI h' 605 3 = nI i ∧ hFI g' 1246 348 = nI i ∧ CT h h' ∧ MT g g' ∧ CX h' a n T (nxt n T b) ∧ MX g' n T (nxt n T b) ∧ b < n := by
  obtain ⟨r1, r2, r3⟩ := r_toldName (d := d) c (f := 11) (m := cnt) (by omega) hf hmm
  obtain ⟨m1, m2, m3⟩ := m_told2 (d := d2) m hr hc hn hrr
  have hn := c.ff.2.2.2.2.2.2.2
  have hb : b ≤ 1000 := by have := c.2.2.2.2.2.2.2; omega
  have ef : fdx (fun j => hAJ h (a + 1) (11 + j)) (wrd n T b) cnt 0 = fdx (fun j => hAJ g 353 (4 * r + j)) (wrd n T b) cnt 0 := fdx_congr cnt 0 (fun j _ j2 => hN j (by omega))
  rw [ef] at r2 r3
  rcases hz : nam n T b with _ | _
  · left
    exact ⟨_, h, g, fz_ne (k := 1) (b := b) (by decide) (by decide) hb, r1 hz, m1 hz, CT.rfl' h, MT.rfl' g⟩
  · rcases fdx_lt (f := fun j => hAJ g 353 (4 * r + j)) (s := wrd n T b) (k := cnt) (by omega) with ⟨q1, q2⟩ | ⟨q1, i, i1, i2, i3⟩
    · left
      exact ⟨_, _, _, fz_ne (k := 2) (b := b) (by decide) (by decide) hb, r2 hz q1, m2 hz q1, CT.fi _ _, MT.fi _ _⟩
    · right
      obtain ⟨h', a1, a2, a3, a4⟩ := r3 hz q1
      have b1 := m3 hz q1
      rw [i2] at a4 b1
      obtain ⟨g', g1, g2, g3⟩ := m_adv (d := d2 + 1) (m.fi (k := 1246) (nI i) (by omega))
      refine ⟨i, h', _, g', i1, a1, b1, g1, m.ff.1, sFI_at _ _ _ _, a4, ?_, a2, (MT.fi _ _).tr g2.mt, a3, g3, (tkS_1 (nam_1 hz)).1⟩
      rw [g2.2.2.2.2.2.2.2.2 _ _ (by omega)]
      exact sFI_at _ _ _ _
/-- the names told so far: of the class at a, of the model's second halves -/
def Nm2 (h g : AH) (a np nc ne nw : Nat) : Prop :=
  ((∀ i, i < np → hAJ h (a + 1) i = hAJ g 351 (5 + i)) ∧ (∀ i, i < nc → hAJ h (a + 1) (5 + i) = hAJ g 352 (6 + i)) ∧ (∀ i, i < ne → hAJ h (a + 1) (11 + i) = hAJ g 353 (4 + i)) ∧ ∀ i, i < nw → hAJ h (a + 1) (15 + i) = hAJ g 354 (6 + i)) ∧
  (∀ i, np ≤ i → i < 5 → hAJ h (a + 1) i = 0) ∧ (∀ i, nc ≤ i → i < 6 → hAJ h (a + 1) (5 + i) = 0) ∧ (∀ i, ne ≤ i → i < 4 → hAJ h (a + 1) (11 + i) = 0) ∧ ∀ i, nw ≤ i → i < 6 → hAJ h (a + 1) (15 + i) = 0
/-- the counts told so far -/
def Ct2 (h g : AH) (a np ny nc ne nw : Nat) : Prop := hFI h 501 a = nI np ∧ hFI h 502 a = nI ny ∧ hFI h 503 a = nI nc ∧ hFI h 504 a = nI ne ∧ hFI h 505 a = nI nw ∧ hAI g 350 5 = nI np ∧ hAI g 350 6 = nI ny ∧ hAI g 350 7 = nI nc ∧ hAI g 350 8 = nI ne ∧ hAI g 350 9 = nI nw ∧ np ≤ 5 ∧ nc ≤ 6 ∧ ne ≤ 4 ∧ nw ≤ 6
theorem st_new {d d2 a n b np ny nc ne nw at' : Nat} {h g : AH} {T : Nat → Nat} {av : Int32} (hat : at' < 21) (hav : av = nI at') (N : Nm2 h g a np nc ne nw) (K : Ct2 h g a np ny nc ne nw) (c : CX h a n T b) (m : MX g n T b) :
    Fb h g (am_C PG (d + 4) 82 [.ref 3, .int av] h) (am_C PG (d2 + 3) 186 [.ref 348] g) ∨
    ∃ h' g', am_C PG (d + 4) 82 [.ref 3, .int av] h = some (some (.int 1), h') ∧ am_C PG (d2 + 3) 186 [.ref 348] g = some (some (.int 1), g) ∧ am_C PG (d2 + 3) 166 [.ref 348] g = some (none, g') ∧ hFJ g 1207 348 = wrd n T b ∧ wrd n T b ≠ 0 ∧ CT (sEJ h (a + 1) at' (wrd n T b)) h' ∧ MT g g' ∧ CX h' a n T (nxt n T b) ∧ MX g' n T (nxt n T b) ∧ b < n := by
  obtain ⟨k1, k2, k3, k4, k5, j1, j2, j3, j4, j5, l1, l2, l3, l4⟩ := K
  obtain ⟨r1, r2, r3⟩ := r_newName (d := d) c hat hav
  obtain ⟨m1, m2, m3⟩ := m_isNew (d := d2) m j1 j3 j4 j5 l1 l2 l3 l4
  obtain ⟨⟨n1, n2, n3, n4⟩, n5, n6, n7, n8⟩ := N
  have hn := c.ff.2.2.2.2.2.2.2
  have hb : b ≤ 1000 := by have := c.2.2.2.2.2.2.2; omega
  rcases hz : nam n T b with _ | _
  · left
    exact ⟨_, h, g, fz_ne (k := 1) (b := b) (by decide) (by decide) hb, r1 hz, m1 hz, CT.rfl' h, MT.rfl' g⟩
  · have w0 : wrd n T b ≠ 0 := fun z => wrd_0.1 z (nam_1 hz)
    by_cases e : (∃ i, i < np ∧ hAJ g 351 (5 + i) = wrd n T b) ∨ (∃ i, i < nc ∧ hAJ g 352 (6 + i) = wrd n T b) ∨ (∃ i, i < ne ∧ hAJ g 353 (4 + i) = wrd n T b) ∨ ∃ i, i < nw ∧ hAJ g 354 (6 + i) = wrd n T b
    · left
      have ex : ∃ j, j < 21 ∧ hAJ h (a + 1) j = wrd n T b := by
        rcases e with ⟨i, i1, i2⟩ | ⟨i, i1, i2⟩ | ⟨i, i1, i2⟩ | ⟨i, i1, i2⟩
        · exact ⟨i, by omega, (n1 i i1).trans i2⟩
        · exact ⟨5 + i, by omega, (n2 i i1).trans i2⟩
        · exact ⟨11 + i, by omega, (n3 i i1).trans i2⟩
        · exact ⟨15 + i, by omega, (n4 i i1).trans i2⟩
      exact ⟨_, h, g, fz_ne (k := 3) (b := b) (by decide) (by decide) hb, r2 hz ex, m2 hz e, CT.rfl' h, MT.rfl' g⟩
    · right
      have e0 : ∀ i, i < np → hAJ g 351 (5 + i) ≠ wrd n T b := fun i i1 i2 => e (Or.inl ⟨i, i1, i2⟩)
      have e1 : ∀ i, i < nc → hAJ g 352 (6 + i) ≠ wrd n T b := fun i i1 i2 => e (Or.inr (Or.inl ⟨i, i1, i2⟩))
      have e2 : ∀ i, i < ne → hAJ g 353 (4 + i) ≠ wrd n T b := fun i i1 i2 => e (Or.inr (Or.inr (Or.inl ⟨i, i1, i2⟩)))
      have e3 : ∀ i, i < nw → hAJ g 354 (6 + i) ≠ wrd n T b := fun i i1 i2 => e (Or.inr (Or.inr (Or.inr ⟨i, i1, i2⟩)))
      have ex : ∀ j, j < 21 → hAJ h (a + 1) j ≠ wrd n T b := by
        intro j hj q
        by_cases y1 : j < 5
        · by_cases y2 : j < np
          · exact e0 j y2 ((n1 j y2).symm.trans q)
          · rw [n5 j (by omega) y1] at q; exact w0 q.symm
        · by_cases y3 : j < 11
          · obtain ⟨i, rfl⟩ : ∃ i, j = 5 + i := ⟨j - 5, by omega⟩
            by_cases y2 : i < nc
            · exact e1 i y2 ((n2 i y2).symm.trans q)
            · rw [n6 i (by omega) (by omega)] at q; exact w0 q.symm
          · by_cases y4 : j < 15
            · obtain ⟨i, rfl⟩ : ∃ i, j = 11 + i := ⟨j - 11, by omega⟩
              by_cases y2 : i < ne
              · exact e2 i y2 ((n3 i y2).symm.trans q)
              · rw [n7 i (by omega) (by omega)] at q; exact w0 q.symm
            · obtain ⟨i, rfl⟩ : ∃ i, j = 15 + i := ⟨j - 15, by omega⟩
              by_cases y2 : i < nw
              · exact e3 i y2 ((n4 i y2).symm.trans q)
              · rw [n8 i (by omega) (by omega)] at q; exact w0 q.symm
      obtain ⟨h', a1, a2, a3⟩ := r3 hz ex
      obtain ⟨g', g1, g2, g3⟩ := m_adv (d := d2 + 1) m
      exact ⟨h', g', a1, m3 hz e0 e1 e2 e3, g1, m.spelt (nam_1 hz), w0, a2, g2.mt, a3, g3, (tkS_1 (nam_1 hz)).1⟩
theorem st_fail {d d2 a n b : Nat} {h g : AH} {T : Nat → Nat} (c : CX h a n T b) (m : MX g n T b) {k : Nat} {kk : Int32} (hk : kk = nI k) (k1 : 1 ≤ k) (k2 : k ≤ 5) :
    Fb h g (am_C PG (d + 1) 78 [.ref 3, .int kk] h) (am_C PG (d2 + 1) 169 [.ref 348, .int kk] g) := by
  have hn := c.ff.2.2.2.2.2.2.2
  have hb : b ≤ 1000 := by have := c.2.2.2.2.2.2.2; omega
  refine ⟨_, h, g, fz_ne (k := k) (b := b) k1 k2 hb, ?_, ?_, CT.rfl' h, MT.rfl' g⟩
  · rw [r_wrong c, hk]
  · rw [m_fails m, hk]
/-- a step of the token alone -/
theorem st_adv {d d2 a n b : Nat} {h g : AH} {T : Nat → Nat} (c : CX h a n T b) (m : MX g n T b) :
    ∃ h' g', am_C PG (d + 3) 115 [.ref 1] h = some (none, h') ∧ am_C PG (d2 + 2) 166 [.ref 348] g = some (none, g') ∧ CT h h' ∧ MT g g' ∧ CX h' a n T (nxt n T b) ∧ MX g' n T (nxt n T b) := by
  obtain ⟨h', a1, a2, a3⟩ := r_adv (d := d) c
  obtain ⟨g', b1, b2, b3⟩ := m_adv (d := d2) m
  exact ⟨h', g', a1, b1, a2.ct, b2.mt, a3, b3⟩
