/-! The reader: a post begins, both sides. -/
def filJ (f : Nat → Int64) (j t : Nat) (v : Int64) : Nat → Int64 := fun q => if j ≤ q ∧ q ≤ t then v else f q
theorem filJ_0 (f : Nat → Int64) {j t : Nat} (v : Int64) (h : t < j) : filJ f j t v = f := by
  funext q
  unfold filJ
  rw [if_neg (by omega)]
theorem filJ_s (f : Nat → Int64) {j t : Nat} (v : Int64) (h : j ≤ t) : filJ (vp_updL f j v) (j + 1) t v = filJ f j t v := by
  funext q
  unfold filJ
  by_cases c : q = j
  · subst c
    rw [if_neg (by omega), if_pos (by omega), pk_uLs]
  · by_cases c2 : j + 1 ≤ q ∧ q ≤ t
    · rw [if_pos c2, if_pos (by omega)]
    · rw [if_neg c2, if_neg (by omega), pk_uLn c]
theorem sAJ_self (h : AH) (a : Nat) : sAJ h a (hAJ h a) = h := AH_ext rfl rfl rfl rfl rfl rfl (am_up_self _ _) rfl rfl
theorem sAJ_sAJ (h : AH) (a : Nat) (f g : Nat → Int64) : sAJ (sAJ h a f) a g = sAJ h a g := AH_ext rfl rfl rfl rfl rfl rfl (am_up_up _ _ _ _) rfl rfl
theorem sAJ_at (h : AH) (a : Nat) (f : Nat → Int64) : hAJ (sAJ h a f) a = f := am_up_eq
theorem sAJ_ne (h : AH) {a b : Nat} (f : Nat → Int64) (e : b ≠ a) : hAJ (sAJ h a f) b = hAJ h b := am_up_ne e
theorem sEJ_e (h : AH) (a i : Nat) (v : Int64) : sEJ h a i v = sAJ h a (vp_updL (hAJ h a) i v) := rfl
theorem r_clr27 {d a : Nat} : ∀ k j, j + k = 21 → ∀ h : AH, PoSh h a → am_R PG (d + 1) 47 27 [some (.ref a), some (.int (nI j))] [] h = am_R PG (d + 1) 47 27 [some (.ref a), some (.int (nI 21))] [] (sAJ h (a + 1) (filJ (hAJ h (a + 1)) j 20 0))
  | 0, j, hj, h, _ => by
    rw [filJ_0 _ _ (by omega), sAJ_self, show j = 21 by omega]
  | k + 1, j, hj, h, s => by
    have ih := r_clr27 (d := d) (a := a) k (j + 1) (by omega) (sEJ h (a + 1) j 0) (PoSh.to (h := h) (rd_hK_sEJ _ _ _ _) (rd_hFR_sEJ _ _ _ _) (rd_hLN_sEJ _ _ _ _) s)
    obtain ⟨⟨p0, pf1, pf2, pf3, pf4, pf5, pf6, pf7, pf8, pf9, pf10, pf11, pf12, pf13, pf14, pf17, pk1, pk2, pk3, pk4, pk5, pk6, pk7, pk8, pk9, pk10, pk11, pk12, pk13, pn1, pn2, pn3, pn4, pn5, pn6, pn7, pn8, pn9, pn10, pn11, pn12, pn13⟩, -, -⟩ := s
    have e5 : (nI j < (21 : Int32)) = True := eq_true (nI_lt (b := 21) (by omega) (by decide))
    have ei : ∀ x, am_in (nI j) 21 x = x := am_inN (by omega) (by decide)
    have ti : Int32.toNatClampNeg (nI j) = j := nI_clamp (by omega)
    rw [sEJ_at, filJ_s _ _ (by omega), sEJ_e, sAJ_sAJ] at ih
    rw [q_X5_clear_27]
    simp only [am_kd, p0, pf1, pk1, pn1, e5, if_true, bR_s, ei, ti, am_let_e, nI_1, sEJ_e]
    exact ih
theorem r_clr48 {d a : Nat} : ∀ k j, j + k = 25 → ∀ h : AH, PoSh h a → am_R PG (d + 1) 47 48 [some (.ref a), some (.int (nI j))] [] h = am_R PG (d + 1) 47 48 [some (.ref a), some (.int (nI 25))] [] (sAI h (a + 2) (filH (hAI h (a + 2)) j 24 0))
  | 0, j, hj, h, _ => by
    rw [filH_0 _ _ (by omega), sAI_self, show j = 25 by omega]
  | k + 1, j, hj, h, s => by
    have ih := r_clr48 (d := d) (a := a) k (j + 1) (by omega) (sEI h (a + 2) j 0) (PoSh.to (h := h) (rd_hK_sEI _ _ _ _) (rd_hFR_sEI _ _ _ _) (rd_hLN_sEI _ _ _ _) s)
    obtain ⟨⟨p0, pf1, pf2, pf3, pf4, pf5, pf6, pf7, pf8, pf9, pf10, pf11, pf12, pf13, pf14, pf17, pk1, pk2, pk3, pk4, pk5, pk6, pk7, pk8, pk9, pk10, pk11, pk12, pk13, pn1, pn2, pn3, pn4, pn5, pn6, pn7, pn8, pn9, pn10, pn11, pn12, pn13⟩, -, -⟩ := s
    have e5 : (nI j < Int32.ofNat 25) = True := eq_true (nI_lt (b := 25) (by omega) (by decide))
    have ei : ∀ x, am_in (nI j) 25 x = x := am_inN (by omega) (by decide)
    have ti : Int32.toNatClampNeg (nI j) = j := nI_clamp (by omega)
    rw [sEI_at, filH_s _ _ (by omega), sEI_e, sAI_sAI] at ih
    rw [q_X5_clear_48]
    simp only [am_kd, p0, pf2, pk2, pn2, e5, if_true, bR_s, ei, ti, am_let_e, nI_1, sEI_e]
    exact ih
theorem r_clr72 {d a : Nat} : ∀ k j, j + k = 24 → ∀ h : AH, PoSh h a → am_R PG (d + 1) 47 72 [some (.ref a), some (.int (nI j))] [] h = am_R PG (d + 1) 47 72 [some (.ref a), some (.int (nI 24))] [] (sAI h (a + 13) (filH (hAI h (a + 13)) j 23 0))
  | 0, j, hj, h, _ => by
    rw [filH_0 _ _ (by omega), sAI_self, show j = 24 by omega]
  | k + 1, j, hj, h, s => by
    have ih := r_clr72 (d := d) (a := a) k (j + 1) (by omega) (sEI h (a + 13) j 0) (PoSh.to (h := h) (rd_hK_sEI _ _ _ _) (rd_hFR_sEI _ _ _ _) (rd_hLN_sEI _ _ _ _) s)
    obtain ⟨⟨p0, pf1, pf2, pf3, pf4, pf5, pf6, pf7, pf8, pf9, pf10, pf11, pf12, pf13, pf14, pf17, pk1, pk2, pk3, pk4, pk5, pk6, pk7, pk8, pk9, pk10, pk11, pk12, pk13, pn1, pn2, pn3, pn4, pn5, pn6, pn7, pn8, pn9, pn10, pn11, pn12, pn13⟩, -, -⟩ := s
    have e5 : (nI j < (24 : Int32)) = True := eq_true (nI_lt (b := 24) (by omega) (by decide))
    have ei : ∀ x, am_in (nI j) 24 x = x := am_inN (by omega) (by decide)
    have ti : Int32.toNatClampNeg (nI j) = j := nI_clamp (by omega)
    rw [sEI_at, filH_s _ _ (by omega), sEI_e, sAI_sAI] at ih
    rw [q_X5_clear_72]
    simp only [am_kd, p0, pf13, pk13, pn13, e5, if_true, bR_s, ei, ti, am_let_e, nI_1, sEI_e]
    exact ih
theorem c_usual {d a : Nat} {h : AH} (s : PoSh h a) : am_C PG (d + 1) 42 [.ref (a + 14)] h = some (none, sFI (sEI (sEI (sEI h (a + 15) 0 (-1)) (a + 15) 1 (-2)) (a + 15) 2 (-10)) 401 (a + 14) 3) := by
  obtain ⟨q1, q2, q3, q4, q5, -⟩ := s.2.1
  have f1 : hFR h 400 (a + 14) = some (a + 15) := q2
  have f2 : hK h (a + 15) = 50 := q4
  have f3 : hLN h (a + 15) = 1000 := q5
  have i0 : ∀ x, am_in (0 : Int32) 1000 x = x := am_inN (i := 0) (by decide) (by decide)
  have i1 : ∀ x, am_in (1 : Int32) 1000 x = x := am_inN (i := 1) (by decide) (by decide)
  have i2 : ∀ x, am_in (2 : Int32) 1000 x = x := am_inN (i := 2) (by decide) (by decide)
  have t1 : Int32.toNatClampNeg (1 : Int32) = 1 := by decide
  have t2 : Int32.toNatClampNeg (2 : Int32) = 2 := by decide
  rw [q_X4_beUsual]
  simp only [am_kd, q1, f1, f2, f3, if_true, bR_s, i0, i1, i2, nI_cl0, t1, t2, am_let_e, rd_hK_sEI, rd_hFR_sEI, rd_hLN_sEI]
theorem c_clr0 {d a : Nat} {h : AH} (ha : 3 < a) (p0 : hK h a = 6) : ∃ h1, am_C PG (d + 2) 47 [.ref a] h = am_R PG (d + 2) 47 27 [some (.ref a), some (.int (nI 0))] [] h1 ∧ CS a h h1 ∧ hFR h1 = hFR h ∧ hFJ h1 = hFJ h ∧ (∀ k x, (x ≠ a ∨ k < 501 ∨ 505 < k) → hFI h1 k x = hFI h k x) ∧ (∀ k, 501 ≤ k → k ≤ 505 → hFI h1 k a = nI 0) ∧ (hAI h1 = hAI h ∧ hAJ h1 = hAJ h ∧ hK h1 = hK h ∧ hLN h1 = hLN h) := by
  refine ⟨sFI (sFI (sFI (sFI (sFI h 501 a 0) 502 a 0) 503 a 0) 504 a 0) 505 a 0, ?_, ?_, by rw [rd_hFR_sFI, rd_hFR_sFI, rd_hFR_sFI, rd_hFR_sFI, rd_hFR_sFI], by rw [rd_hFJ_sFI, rd_hFJ_sFI, rd_hFJ_sFI, rd_hFJ_sFI, rd_hFJ_sFI], fun k x e => ?_, fun k k1 k2 => ?_, by rw [rd_hAI_sFI, rd_hAI_sFI, rd_hAI_sFI, rd_hAI_sFI, rd_hAI_sFI], by rw [rd_hAJ_sFI, rd_hAJ_sFI, rd_hAJ_sFI, rd_hAJ_sFI, rd_hAJ_sFI], by rw [rd_hK_sFI, rd_hK_sFI, rd_hK_sFI, rd_hK_sFI, rd_hK_sFI], by rw [rd_hLN_sFI, rd_hLN_sFI, rd_hLN_sFI, rd_hLN_sFI, rd_hLN_sFI]⟩
  · rw [q_X5_clear]
    simp only [am_kd, rd_hK_sFI, p0, if_true, am_let_e, nI_0]
  · exact ((((CS.fi h 0 (by omega) ha).tr (CS.fi _ 0 (by omega) ha)).tr (CS.fi _ 0 (by omega) ha)).tr (CS.fi _ 0 (by omega) ha)).tr (CS.fi _ 0 (by omega) ha)
  · rw [sFI_o _ _ (by omega), sFI_o _ _ (by omega), sFI_o _ _ (by omega), sFI_o _ _ (by omega), sFI_o _ _ (by omega)]
  · rcases (show k = 501 ∨ k = 502 ∨ k = 503 ∨ k = 504 ∨ k = 505 by omega) with rfl | rfl | rfl | rfl | rfl
    · rw [sFI_o _ _ (by omega), sFI_o _ _ (by omega), sFI_o _ _ (by omega), sFI_o _ _ (by omega), sFI_at, nI_0]
    · rw [sFI_o _ _ (by omega), sFI_o _ _ (by omega), sFI_o _ _ (by omega), sFI_at, nI_0]
    · rw [sFI_o _ _ (by omega), sFI_o _ _ (by omega), sFI_at, nI_0]
    · rw [sFI_o _ _ (by omega), sFI_at, nI_0]
    · rw [sFI_at, nI_0]
/-- a Post cleared -/
def Clr (h : AH) (a : Nat) : Prop := (∀ k, 501 ≤ k → k ≤ 505 → hFI h k a = nI 0) ∧ (∀ i, i < 21 → hAJ h (a + 1) i = 0) ∧ (∀ i, i < 25 → hAI h (a + 2) i = nI 0) ∧ (∀ i, i < 24 → hAI h (a + 13) i = nI 0) ∧ hFI h 401 (a + 14) = nI 3 ∧ hAI h (a + 15) 0 = -1 ∧ hAI h (a + 15) 1 = -2 ∧ hAI h (a + 15) 2 = -10
theorem Clr.to {h g : AH} {a : Nat} (e1 : ∀ k, hFI g k a = hFI h k a) (e2 : hFI g 401 (a + 14) = hFI h 401 (a + 14)) (e3 : hAI g = hAI h) (e4 : hAJ g = hAJ h) (s : Clr h a) : Clr g a := by
  obtain ⟨s1, s2, s3, s4, s5, s6⟩ := s
  exact ⟨fun k h1 h2 => (e1 k).trans (s1 k h1 h2), by rw [e4]; exact s2, by rw [e3]; exact s3, by rw [e3]; exact s4, e2.trans s5, by rw [e3]; exact s6⟩
theorem c_clear {d a : Nat} {h : AH} (ha : 3 < a) (s : PoSh h a) : ∃ g, am_C PG (d + 2) 47 [.ref a] h = some (none, g) ∧ CS a h g ∧ hFR g = hFR h ∧ hFJ g = hFJ h ∧ (∀ k x, (x ≠ a ∨ k < 501 ∨ 505 < k) → (x ≠ a + 14 ∨ k ≠ 401) → hFI g k x = hFI h k x) ∧ Clr g a := by
  have p0 : hK h a = 6 := s.1.1
  have z0 : (0 : Int32) = nI 0 := rfl
  obtain ⟨h1, e1, q1, r1, j1, f1, c1, aj1⟩ := c_clr0 (d := d) ha p0
  obtain ⟨ai1, aj1, hk1, hl1⟩ := aj1
  have s1 : PoSh h1 a := s.to hk1 r1 hl1
  have e2 := r_clr27 (d := d + 1) (a := a) 21 0 rfl h1 s1
  have s2 : PoSh (sAJ h1 (a + 1) (filJ (hAJ h1 (a + 1)) 0 20 0)) a := PoSh.to (h := h1) (rd_hK_sAJ _ _ _) (rd_hFR_sAJ _ _ _) (rd_hLN_sAJ _ _ _) s1
  generalize hh2 : sAJ h1 (a + 1) (filJ (hAJ h1 (a + 1)) 0 20 0) = h2 at e2 s2
  have n2 : (nI 21 < (21 : Int32)) = False := eq_false (by decide)
  have e3 : am_R PG (d + 2) 47 27 [some (.ref a), some (.int (nI 21))] [] h2 = am_R PG (d + 2) 47 48 [some (.ref a), some (.int (nI 0))] [] h2 := by
    rw [q_X5_clear_27]
    simp only [n2, if_false, nI_0]
  have e4 := r_clr48 (d := d + 1) (a := a) 25 0 rfl h2 s2
  have s3 : PoSh (sAI h2 (a + 2) (filH (hAI h2 (a + 2)) 0 24 0)) a := PoSh.to (h := h2) (rd_hK_sAI _ _ _) (rd_hFR_sAI _ _ _) (rd_hLN_sAI _ _ _) s2
  generalize hh3 : sAI h2 (a + 2) (filH (hAI h2 (a + 2)) 0 24 0) = h3 at e4 s3
  have e5 : am_R PG (d + 2) 47 48 [some (.ref a), some (.int (nI 25))] [] h3 = am_R PG (d + 2) 47 72 [some (.ref a), some (.int (nI 0))] [] h3 := by
    obtain ⟨⟨p0, pf1, pf2, pf3, pf4, pf5, pf6, pf7, pf8, pf9, pf10, pf11, pf12, pf13, pf14, pf17, pk1, pk2, pk3, pk4, pk5, pk6, pk7, pk8, pk9, pk10, pk11, pk12, pk13, pn1, pn2, pn3, pn4, pn5, pn6, pn7, pn8, pn9, pn10, pn11, pn12, pn13⟩, -, -⟩ := s3
    have n3 : (nI 25 < Int32.ofNat 25) = False := eq_false (by decide)
    rw [q_X5_clear_48]
    simp only [am_kd, p0, pf2, pk2, pn2, if_true, bR_s, n3, if_false, nI_0]
  have e6 := r_clr72 (d := d + 1) (a := a) 24 0 rfl h3 s3
  have s4 : PoSh (sAI h3 (a + 13) (filH (hAI h3 (a + 13)) 0 23 0)) a := PoSh.to (h := h3) (rd_hK_sAI _ _ _) (rd_hFR_sAI _ _ _) (rd_hLN_sAI _ _ _) s3
  generalize hh4 : sAI h3 (a + 13) (filH (hAI h3 (a + 13)) 0 23 0) = h4 at e6 s4
  have ku := c_usual (d := d) s4
  have e7 : am_R PG (d + 2) 47 72 [some (.ref a), some (.int (nI 24))] [] h4 = some (none, sFI (sEI (sEI (sEI h4 (a + 15) 0 (-1)) (a + 15) 1 (-2)) (a + 15) 2 (-10)) 401 (a + 14) 3) := by
    have k14 : hK h4 (a + 14) = 5 := s4.2.1.1
    obtain ⟨⟨p0, pf1, pf2, pf3, pf4, pf5, pf6, pf7, pf8, pf9, pf10, pf11, pf12, pf13, pf14, pf17, pk1, pk2, pk3, pk4, pk5, pk6, pk7, pk8, pk9, pk10, pk11, pk12, pk13, pn1, pn2, pn3, pn4, pn5, pn6, pn7, pn8, pn9, pn10, pn11, pn12, pn13⟩, -, -⟩ := s4
    have n4 : (nI 24 < (24 : Int32)) = False := eq_false (by decide)
    rw [q_X5_clear_72]
    simp only [am_kd, p0, if_true, n4, if_false, pf14, bR_s, k14, ku, bV_s]
  have v2 : hAI h2 = hAI h ∧ hFI h2 = hFI h1 ∧ hAJ h2 (a + 1) = filJ (hAJ h1 (a + 1)) 0 20 0 ∧ ∀ x, x ≠ a + 1 → hAJ h2 x = hAJ h x := by
    subst hh2
    exact ⟨(rd_hAI_sAJ _ _ _).trans ai1, rd_hFI_sAJ _ _ _, sAJ_at _ _ _, fun x e => (sAJ_ne _ _ e).trans (by rw [aj1])⟩
  have c2 : CS a h1 h2 := by
    subst hh2
    exact ⟨⟨rd_hK_sAJ _ _ _, rd_hLN_sAJ _ _ _, rd_hAR_sAJ _ _ _, rd_hNX_sAJ _ _ _, fun _ _ _ => by rw [rd_hFR_sAJ], fun _ _ _ => by rw [rd_hFJ_sAJ], fun _ _ _ _ _ _ => by rw [rd_hFI_sAJ], fun _ _ => by rw [rd_hAI_sAJ], fun x e => sAJ_ne _ _ e⟩, by rw [rd_hFI_sAJ]⟩
  have c3 : CS a h2 h3 := by
    subst hh3
    exact ⟨⟨rd_hK_sAI _ _ _, rd_hLN_sAI _ _ _, rd_hAR_sAI _ _ _, rd_hNX_sAI _ _ _, fun _ _ _ => by rw [rd_hFR_sAI], fun _ _ _ => by rw [rd_hFJ_sAI], fun _ _ _ _ _ _ => by rw [rd_hFI_sAI], fun x e => sAI_ne _ _ (by omega), fun _ _ => by rw [rd_hAJ_sAI]⟩, by rw [rd_hFI_sAI]⟩
  have c4 : CS a h3 h4 := by
    subst hh4
    exact ⟨⟨rd_hK_sAI _ _ _, rd_hLN_sAI _ _ _, rd_hAR_sAI _ _ _, rd_hNX_sAI _ _ _, fun _ _ _ => by rw [rd_hFR_sAI], fun _ _ _ => by rw [rd_hFJ_sAI], fun _ _ _ _ _ _ => by rw [rd_hFI_sAI], fun x e => sAI_ne _ _ (by omega), fun _ _ => by rw [rd_hAJ_sAI]⟩, by rw [rd_hFI_sAI]⟩
  have c5 : CS a h4 (sFI (sEI (sEI (sEI h4 (a + 15) 0 (-1)) (a + 15) 1 (-2)) (a + 15) 2 (-10)) 401 (a + 14) 3) := (((CS.ei h4 0 (-1) (r := a + 15) (by omega)).tr (CS.ei _ 1 (-2) (r := a + 15) (by omega))).tr (CS.ei _ 2 (-10) (r := a + 15) (by omega))).tr (CS.fi _ 3 (by omega) ha)
  have v3 : hFI h3 = hFI h2 ∧ hAJ h3 = hAJ h2 ∧ hAI h3 (a + 2) = filH (hAI h2 (a + 2)) 0 24 0 ∧ hFR h3 = hFR h2 ∧ hFJ h3 = hFJ h2 := by
    subst hh3
    exact ⟨rd_hFI_sAI _ _ _, rd_hAJ_sAI _ _ _, sAI_at _ _ _, rd_hFR_sAI _ _ _, rd_hFJ_sAI _ _ _⟩
  have v4 : hFI h4 = hFI h3 ∧ hAJ h4 = hAJ h3 ∧ hAI h4 (a + 13) = filH (hAI h3 (a + 13)) 0 23 0 ∧ hAI h4 (a + 2) = hAI h3 (a + 2) ∧ hFR h4 = hFR h3 ∧ hFJ h4 = hFJ h3 := by
    subst hh4
    exact ⟨rd_hFI_sAI _ _ _, rd_hAJ_sAI _ _ _, sAI_at _ _ _, sAI_ne _ _ (by omega), rd_hFR_sAI _ _ _, rd_hFJ_sAI _ _ _⟩
  have w2 : hFR h2 = hFR h1 ∧ hFJ h2 = hFJ h1 := by
    subst hh2
    exact ⟨rd_hFR_sAJ _ _ _, rd_hFJ_sAJ _ _ _⟩
  refine ⟨_, (e1.trans (e2.trans (e3.trans (e4.trans (e5.trans (e6.trans e7)))))), q1.tr (c2.tr (c3.tr (c4.tr c5))), ?_, ?_, fun k x z1 z2 => ?_, fun k k1 k2 => ?_, fun i hi => ?_, fun i hi => ?_, fun i hi => ?_, sFI_at _ _ _ _, ?_, ?_, ?_⟩
  · rw [rd_hFR_sFI, rd_hFR_sEI, rd_hFR_sEI, rd_hFR_sEI, v4.2.2.2.2.1, v3.2.2.2.1, w2.1, r1]
  · rw [rd_hFJ_sFI, rd_hFJ_sEI, rd_hFJ_sEI, rd_hFJ_sEI, v4.2.2.2.2.2, v3.2.2.2.2, w2.2, j1]
  · rw [sFI_o _ _ (by omega), rd_hFI_sEI, rd_hFI_sEI, rd_hFI_sEI, v4.1, v3.1, v2.2.1]
    exact f1 k x z1
  · rw [sFI_o _ _ (by omega), rd_hFI_sEI, rd_hFI_sEI, rd_hFI_sEI, v4.1, v3.1, v2.2.1]
    exact c1 k k1 k2
  · rw [rd_hAJ_sFI, rd_hAJ_sEI, rd_hAJ_sEI, rd_hAJ_sEI, v4.2.1, v3.2.1, v2.2.2.1]
    unfold filJ
    rw [if_pos (by omega)]
  · rw [rd_hAI_sFI, sEI_ne _ _ _ (by omega), sEI_ne _ _ _ (by omega), sEI_ne _ _ _ (by omega), v4.2.2.2.1, v3.2.2.1]
    unfold filH
    rw [if_pos (by omega), nI_0]
  · rw [rd_hAI_sFI, sEI_ne _ _ _ (by omega), sEI_ne _ _ _ (by omega), sEI_ne _ _ _ (by omega), v4.2.2.1]
    unfold filH
    rw [if_pos (by omega), nI_0]
  · rw [rd_hAI_sFI, sEI_at, pk_un (by decide), sEI_at, pk_un (by decide), sEI_at, pk_us]
  · rw [rd_hAI_sFI, sEI_at, pk_un (by decide), sEI_at, pk_us]
  · rw [rd_hAI_sFI, sEI_at, pk_us]
