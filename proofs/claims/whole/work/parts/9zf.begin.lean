/-! The reader: a post begins to be read, both sides. -/
theorem PoSh.fr3 {h g : AH} {a : Nat} (e1 : hK g = hK h) (e2 : ∀ k x, 3 < x → hFR g k x = hFR h k x) (e3 : hLN g = hLN h) (ha : 3 < a) (s : PoSh h a) : PoSh g a := by
  obtain ⟨q1, q2, q3⟩ := s
  refine ⟨?_, ?_, ?_⟩
  · unfold PoSh0 at q1 ⊢
    rw [e1, e3]
    simp only [e2 _ a ha]
    exact q1
  · unfold LwSh at q2 ⊢
    rw [e1, e3]
    simp only [e2 _ (a + 14) (by omega)]
    exact q2
  · unfold StSh at q3 ⊢
    rw [e1, e3]
    simp only [e2 _ (a + 17) (by omega)]
    exact q3
theorem sFR_o (h : AH) {k a j b : Nat} (v : Option Nat) (e : j ≠ k ∨ b ≠ a) : hFR (sFR h k a v) j b = hFR h j b := by
  rw [rd_hFR_sFR]
  unfold am_up2
  rw [if_neg (by omega)]
/-- the class's tape begins: the first token -/
theorem c_tape0 {d n : Nat} {h : AH} {T : Nat → Nat} (hp : Tp h n T) (hw : WdSh h) : ∃ g, am_C PG (d + 4) 114 [.ref 1] h = some (none, g) ∧ TQ h g ∧ TkC g n T (tkB n T 0) := by
  have k1 := hp.1
  have tp : Tp (sFI h 908 1 0) n T := (TQ.fi h 908 0 (by omega)).tp hp
  have tw : WdSh (sFI h 908 1 0) := (TQ.fi h 908 0 (by omega)).wd hw
  have e8 : hFI (sFI h 908 1 0) 908 1 = nI 0 := by rw [sFI_at, nI_0]
  obtain ⟨g, e1, e2, e3⟩ := c_adv (d := d) tp tw e8 (Nat.zero_le n)
  have k1' : hK (sFI h 908 1 0) 1 = 10 := k1
  refine ⟨g, ?_, (TQ.fi h 908 0 (by omega)).tr e2, e3⟩
  rw [q_X9_begin]
  simp only [am_kd, k1, k1', if_true, am_let_e, e1, bV_s]
/-- the class begins to read a post -/
theorem c_readPost0 {d a n : Nat} {h : AH} {T : Nat → Nat} (ha : 3 < a) (ha2 : a ≤ 30) (k3 : hK h 3 = 7) (f6 : hFR h 600 3 = some 1) (s : PoSh h a) (hp : Tp h n T) (hw : WdSh h) : ∃ g, am_C PG (d + 36) 76 [.ref 3, .ref a] h = am_R PG (d + 36) 76 31 [some (.ref 3), none, some (.int (nI 0))] [] g ∧ CQ a (sFR h 601 3 (some a)) g ∧ CX g a n T (tkB n T 0) ∧ Clr g a ∧ hFI g 603 3 = 0 ∧ hFI g 604 3 = 0 := by
  have pa : hK h a = 6 := s.1.1
  have k1 : hK h 1 = 10 := hp.1
  have E1 : ∀ k x, 3 < x → hFR (sFR h 601 3 (some a)) k x = hFR h k x := fun k x e => sFR_o _ _ (by omega)
  have s1 : PoSh (sFR h 601 3 (some a)) a := PoSh.fr3 (rd_hK_sFR _ _ _ _) E1 (rd_hLN_sFR _ _ _ _) ha s
  have f61 : hFR (sFR h 601 3 (some a)) 601 3 = some a := sFR_at _ _ _ _
  have f60 : hFR (sFR h 601 3 (some a)) 600 3 = some 1 := (sFR_o _ _ (by decide)).trans f6
  have f90 : hFR (sFR h 601 3 (some a)) 900 1 = hFR h 900 1 := sFR_o _ _ (by decide)
  have kk : hK (sFR h 601 3 (some a)) = hK h := rd_hK_sFR _ _ _ _
  have kl : hLN (sFR h 601 3 (some a)) = hLN h := rd_hLN_sFR _ _ _ _
  have kr : hAR (sFR h 601 3 (some a)) = hAR h := rd_hAR_sFR _ _ _ _
  have ki : hAI (sFR h 601 3 (some a)) = hAI h := rd_hAI_sFR _ _ _ _
  have kf : hFI (sFR h 601 3 (some a)) = hFI h := rd_hFI_sFR _ _ _ _
  have kj : hFJ (sFR h 601 3 (some a)) = hFJ h := rd_hFJ_sFR _ _ _ _
  have q0 : am_C PG (d + 36) 76 [.ref 3, .ref a] h = _ := q_X6_readPost (d + 35) 3 a h
  generalize hh1 : sFR h 601 3 (some a) = h1 at s1 f61 f60 f90 kk kl kr ki kf kj q0 ⊢
  obtain ⟨h2, e2, c2, r2, j2, f2, z2⟩ := c_clear (d := d + 33) ha s1
  obtain ⟨⟨d1, d2, d3, d4, d5, d6, d7, d8, d9⟩, -⟩ := c2
  -- two numbers of the reader
  obtain ⟨h4, e4, t1, t2, t3, t4, t5, t6, t7, t8, t9, t10, t11⟩ : ∃ h4, sFI (sFI h2 604 3 0) 603 3 0 = h4 ∧ hK h4 = hK h2 ∧ hLN h4 = hLN h2 ∧ hFR h4 = hFR h2 ∧ hAR h4 = hAR h2 ∧ hFJ h4 = hFJ h2 ∧ hAI h4 = hAI h2 ∧ hAJ h4 = hAJ h2 ∧ hNX h4 = hNX h2 ∧ (∀ k x, x ≠ 3 → hFI h4 k x = hFI h2 k x) ∧ hFI h4 603 3 = 0 ∧ hFI h4 604 3 = 0 := by
    refine ⟨_, rfl, ?_, ?_, ?_, ?_, ?_, ?_, ?_, ?_, fun k x e => ?_, ?_, ?_⟩
    · rw [rd_hK_sFI, rd_hK_sFI]
    · rw [rd_hLN_sFI, rd_hLN_sFI]
    · rw [rd_hFR_sFI, rd_hFR_sFI]
    · rw [rd_hAR_sFI, rd_hAR_sFI]
    · rw [rd_hFJ_sFI, rd_hFJ_sFI]
    · rw [rd_hAI_sFI, rd_hAI_sFI]
    · rw [rd_hAJ_sFI, rd_hAJ_sFI]
    · rw [rd_hNX_sFI, rd_hNX_sFI]
    · rw [sFI_o _ _ (by omega), sFI_o _ _ (by omega)]
    · rw [sFI_at]
    · rw [sFI_o _ _ (by decide), sFI_at]
  have c4 : CQ a h1 h4 := by
    rw [← e4]
    exact (CQ.tr ⟨d1, d2, d3, d4, d5, d6, d7, d8, d9⟩ (CQ.fi h2 0 (k := 604) (x := 3) (by omega))).tr (CQ.fi _ 0 (k := 603) (x := 3) (by omega))
  have z4 : Clr h4 a := Clr.to (h := h2) (fun k => t9 k a (by omega)) (t9 _ _ (by omega)) t6 t7 z2
  have tp : Tp h4 n T := by
    refine Tp.to (h := h2) t1 (by rw [t3]) t2 (t9 _ _ (by omega)) t6 ?_
    obtain ⟨y1, y2, y3, y4, y5, y6, y7⟩ := hp
    refine ⟨by rw [d1, kk]; exact y1, by rw [r2, f90]; exact y2, by rw [d1, kk]; exact y3, by rw [d2, kl]; exact y4, y5, by rw [f2 _ _ (by omega) (by omega), kf]; exact y6, ?_⟩
    rw [d8 2 (by omega), ki]
    exact y7
  have tw : WdSh h4 := by
    refine WdSh.to (h := h) (by rw [t1, d1, kk]) (by rw [t4, d3, kr]) (by rw [t2, d2, kl]) (fun k x hx => by rw [t5, j2, kj]) (fun x hx => by rw [t9 _ _ (by omega), f2 _ _ (by omega) (by omega), kf]) hw
  obtain ⟨g, g1, g2, g3⟩ := c_tape0 (d := d + 31) tp tw
  have b0 := g2
  obtain ⟨b1, b2, b3, b4, b5, b6, b7, b8, b9⟩ := g2
  refine ⟨g, ?_, c4.tr (b0.ct.cq a), ⟨?_, ?_, ?_, ?_, b0.wd tw, b0.tp tp, g3, (tkB_le (Nat.zero_le n)).1⟩, ?_, ?_, ?_⟩
  · have v3 : hK h1 3 = 7 := by rw [kk]; exact k3
    have va : hK h1 a = 6 := by rw [kk]; exact pa
    have w3 : hK h2 3 = 7 := by rw [d1]; exact v3
    have w33 : hK (sFI h2 604 3 0) 3 = 7 := by rw [rd_hK_sFI]; exact w3
    have w43 : hK h4 3 = 7 := by rw [t1]; exact w3
    have w41 : hK h4 1 = 10 := by rw [t1, d1, kk]; exact k1
    have w46 : hFR h4 600 3 = some 1 := by rw [t3, r2]; exact f60
    have e2' : am_C PG (d + 35) 47 [.ref a] h1 = some (none, h2) := e2
    have g1' : am_C PG (d + 35) 114 [.ref 1] h4 = some (none, g) := g1
    rw [q0]
    simp only [am_kd, k3, v3, if_true, am_let_e, f61, bR_s, va, e2', bV_s, w3, am_nar4_0, w33, e4, w43, w46, w41, g1', nI_0]
  · rw [b1, t1, d1, kk]; exact k3
  · rw [b7 _ _ (by omega), t3, r2]; exact f60
  · rw [b7 _ _ (by omega), t3, r2]; exact f61
  · refine PoSh.fr3 (h := h) (by rw [b1, t1, d1, kk]) (fun k x e => ?_) (by rw [b2, t2, d2, kl]) ha s
    rw [b7 _ _ (by omega), t3, r2, ← hh1]
    exact E1 k x e
  · exact Clr.to (h := h4) (fun k => b9 k a (by omega)) (b9 _ _ (by omega)) b3 b4 z4
  · rw [b9 _ _ (by omega)]; exact t10
  · rw [b9 _ _ (by omega)]; exact t11
theorem m_ra {d r N t x : Nat} (hx : (x = 2 ∧ r = 350 ∧ N = 10 ∧ t = 9) ∨ (x = 24 ∧ r = 356 ∧ N = 50 ∧ t = 49) ∨ (x = 46 ∧ r = 369 ∧ N = 48 ∧ t = 47)) : ∀ k j, j + k = N → ∀ g : AH, MSh g → am_R PG (d + 1) 197 x [some (.ref 348), some (.int (nI j))] [] g = am_R PG (d + 1) 197 x [some (.ref 348), some (.int (nI N))] [] (sAI g r (filH (hAI g r) j t 0))
  | 0, j, hj, g, _ => by
    rw [filH_0 _ _ (by omega), sAI_self, show j = N by omega]
  | k + 1, j, hj, g, hm => by
    have ih := m_ra (d := d) hx k (j + 1) (by omega) (sEI g r j 0) (MSh.to (h := g) (rd_hK_sEI _ _ _ _) (fun _ => by rw [rd_hFR_sEI]) (rd_hLN_sEI _ _ _ _) hm)
    rw [sEI_at, filH_s _ _ (by omega), sEI_e, sAI_sAI] at ih
    rcases hx with ⟨rfl, rfl, rfl, rfl⟩ | ⟨rfl, rfl, rfl, rfl⟩ | ⟨rfl, rfl, rfl, rfl⟩
    · have hm' := hm
      have m0 := hm'.1
      have f1210 : hFR _ 1210 348 = some 350 := (hm'.2 1 (by decide)).1
      have k350 : hK _ 350 = 50 := (hm'.2 1 (by decide)).2.1
      have n350 : hLN _ 350 = 10 := (hm'.2 1 (by decide)).2.2
      have e5 : (nI j < (10 : Int32)) = True := eq_true (nI_lt (b := 10) (by omega) (by decide))
      have ei : ∀ x, am_in (nI j) 10 x = x := am_inN (by omega) (by decide)
      have ti : Int32.toNatClampNeg (nI j) = j := nI_clamp (by omega)
      rw [q_X12_readsAll_2]
      simp only [am_kd, m0, f1210, k350, n350, e5, if_true, bR_s, ei, ti, am_let_e, nI_1, sEI_e]
      exact ih
    · have hm' := hm
      have m0 := hm'.1
      have f1216 : hFR _ 1216 348 = some 356 := (hm'.2 7 (by decide)).1
      have k356 : hK _ 356 = 50 := (hm'.2 7 (by decide)).2.1
      have n356 : hLN _ 356 = 50 := (hm'.2 7 (by decide)).2.2
      have e5 : (nI j < (50 : Int32)) = True := eq_true (nI_lt (b := 50) (by omega) (by decide))
      have ei : ∀ x, am_in (nI j) 50 x = x := am_inN (by omega) (by decide)
      have ti : Int32.toNatClampNeg (nI j) = j := nI_clamp (by omega)
      rw [q_X12_readsAll_24]
      simp only [am_kd, m0, f1216, k356, n356, e5, if_true, bR_s, ei, ti, am_let_e, nI_1, sEI_e]
      exact ih
    · have hm' := hm
      have m0 := hm'.1
      have f1229 : hFR _ 1229 348 = some 369 := (hm'.2 20 (by decide)).1
      have k369 : hK _ 369 = 50 := (hm'.2 20 (by decide)).2.1
      have n369 : hLN _ 369 = 48 := (hm'.2 20 (by decide)).2.2
      have e5 : (nI j < (48 : Int32)) = True := eq_true (nI_lt (b := 48) (by omega) (by decide))
      have ei : ∀ x, am_in (nI j) 48 x = x := am_inN (by omega) (by decide)
      have ti : Int32.toNatClampNeg (nI j) = j := nI_clamp (by omega)
      rw [q_X12_readsAll_46]
      simp only [am_kd, m0, f1229, k369, n369, e5, if_true, bR_s, ei, ti, am_let_e, nI_1, sEI_e]
      exact ih
/-- only rows of a post under way differ -/
theorem MZ.ai (g : AH) {r j t : Nat} (hr : 350 ≤ r ∧ r ≤ 374) (hj : hf r ≤ j) : MZ g (sAI g r (filH (hAI g r) j t 0)) :=
  ⟨rd_hK_sAI _ _ _, rd_hFR_sAI _ _ _, rd_hLN_sAI _ _ _, rd_hAR_sAI _ _ _, rd_hNX_sAI _ _ _, fun _ _ _ => by rw [rd_hFJ_sAI], fun _ _ _ => by rw [rd_hFI_sAI], fun x i e => by
    by_cases c : x = r
    · subst c
      rw [sAI_at]
      unfold filH
      rw [if_neg (by omega)]
    · rw [sAI_ne _ _ c], fun _ _ _ => by rw [rd_hAJ_sAI]⟩
/-- the model begins to read its tape -/
theorem m_starts {d n : Nat} {g : AH} {T : Nat → Nat} (hm : MSh g) (hn : n ≤ 1000) (e1 : hFI g 1201 348 = nI n) (hT : ∀ i, i < n → T i < 128 ∧ hAI g 349 i = nI (T i)) : ∃ g', am_C PG (d + 3) 196 [.ref 348] g = some (none, g') ∧ MZ (sFI g 1201 348 0) g' ∧ hAI g' = hAI g ∧ hAJ g' = hAJ g ∧ hFI g' 1233 348 = hFI g 1233 348 ∧ MX g' n T (tkB n T 0) := by
  have m0 := hm.1
  -- the heap in which the first token is taken
  obtain ⟨h3, e3, t1, t2, t3, t4, t5, t6, t7, t8, t9⟩ : ∃ h3, sFI (sFI (sFI g 1203 348 (nI n)) 1201 348 0) 1204 348 0 = h3 ∧ hK h3 = hK g ∧ hFR h3 = hFR g ∧ hLN h3 = hLN g ∧ hAI h3 = hAI g ∧ hAJ h3 = hAJ g ∧ MZ (sFI g 1201 348 0) h3 ∧ hFI h3 1203 348 = nI n ∧ hFI h3 1204 348 = nI 0 ∧ hFI h3 1233 348 = hFI g 1233 348 := by
    refine ⟨_, rfl, ?_, ?_, ?_, ?_, ?_, ?_, ?_, ?_, ?_⟩
    · rw [rd_hK_sFI, rd_hK_sFI, rd_hK_sFI]
    · rw [rd_hFR_sFI, rd_hFR_sFI, rd_hFR_sFI]
    · rw [rd_hLN_sFI, rd_hLN_sFI, rd_hLN_sFI]
    · rw [rd_hAI_sFI, rd_hAI_sFI, rd_hAI_sFI]
    · rw [rd_hAJ_sFI, rd_hAJ_sFI, rd_hAJ_sFI]
    · rw [sFI_comm g _ _ (Or.inl (show (1203 : Nat) ≠ 1201 by decide))]
      exact (MZ.fi _ (nI n) (k := 1203) (by omega)).tr (MZ.fi _ 0 (k := 1204) (by omega))
    · rw [sFI_o _ _ (by decide), sFI_o _ _ (by decide), sFI_at]
    · rw [sFI_at, nI_0]
    · rw [sFI_o _ _ (by decide), sFI_o _ _ (by decide), sFI_o _ _ (by decide)]
  have hq : Tq h3 n T := ⟨MSh.to (h := g) t1 (fun k => by rw [t2]) t3 hm, hn, t7, fun i hi => by rw [t4]; exact hT i hi⟩
  obtain ⟨k, k1, k2, k3⟩ := c_mtok (d := d) hq t8 (Nat.zero_le n)
  have ka : hK (sFI g 1203 348 (nI n)) 348 = 13 := by rw [rd_hK_sFI]; exact m0
  have kb : hK (sFI (sFI g 1203 348 (nI n)) 1201 348 0) 348 = 13 := by rw [rd_hK_sFI, rd_hK_sFI]; exact m0
  have kc : hK h3 348 = 13 := by rw [t1]; exact m0
  refine ⟨k, ?_, t6.tr k2.mt.mz, k2.2.2.2.1.trans t4, k2.2.2.2.2.1.trans t5, (k2.2.2.2.2.2.2.2.2 _ _ (by omega)).trans t9, k2.tq hq, k3, (tkB_le (Nat.zero_le n)).1⟩
  rw [q_X12_starts]
  simp only [am_kd, m0, if_true, e1, am_let_e, ka, kb, e3, kc, k1, bV_s]
theorem m_ra48 {d : Nat} {g3 g5 g6 : AH} (hm3 : MSh g3) (e5 : sFI (sEI (sEI g3 370 1 1000) 371 1 1000) 1233 348 1000 = g5) (k5 : hK g5 348 = 13) (s1 : am_C PG (d + 6) 196 [.ref 348] g5 = some (none, g6)) : am_R PG (d + 7) 197 46 [some (.ref 348), some (.int (nI 48))] [] g3 = am_R PG (d + 7) 197 94 [some (.ref 348), none] [] g6 := by
  have n3 : ¬ nI 48 < (48 : Int32) := by decide
  have i1 : ∀ x, am_in (1 : Int32) 2 x = x := am_inN (i := 1) (by decide) (by decide)
  have t1 : Int32.toNatClampNeg (1 : Int32) = 1 := by decide
  have m0 := hm3.1
  have f1230 : hFR _ 1230 348 = some 370 := (hm3.2 21 (by decide)).1
  have k370 : hK _ 370 = 50 := (hm3.2 21 (by decide)).2.1
  have n370 : hLN _ 370 = 2 := (hm3.2 21 (by decide)).2.2
  have f1231 : hFR _ 1231 348 = some 371 := (hm3.2 22 (by decide)).1
  have k371 : hK _ 371 = 50 := (hm3.2 22 (by decide)).2.1
  have n371 : hLN _ 371 = 2 := (hm3.2 22 (by decide)).2.2
  have w1 : hK (sEI g3 370 1 1000) 348 = 13 := by rw [rd_hK_sEI]; exact m0
  have w2 : hFR (sEI g3 370 1 1000) 1231 348 = some 371 := by rw [rd_hFR_sEI]; exact f1231
  have w3 : hK (sEI g3 370 1 1000) 371 = 50 := by rw [rd_hK_sEI]; exact k371
  have w4 : hLN (sEI g3 370 1 1000) 371 = 2 := by rw [rd_hLN_sEI]; exact n371
  have w5 : hK (sEI (sEI g3 370 1 1000) 371 1 1000) 348 = 13 := by rw [rd_hK_sEI]; exact w1
  rw [q_X12_readsAll_46, if_neg n3, am_kd_t m0, f1230, bR_s, am_kd_t k370, n370, i1, am_let_e, t1, am_kd_t w1, w2, bR_s, am_kd_t w3, w4, i1, am_let_e, am_kd_t w5, am_let_e, e5, am_kd_t k5, s1, bV_s]
/-- the model begins to read a post -/
theorem m_readsAll0 {d n : Nat} {g : AH} {T : Nat → Nat} (hm : MSh g) (hn : n ≤ 1000) (e1 : hFI g 1201 348 = nI n) (hT : ∀ i, i < n → T i < 128 ∧ hAI g 349 i = nI (T i)) : ∃ g', am_C PG (d + 7) 197 [.ref 348] g = am_R PG (d + 7) 197 94 [some (.ref 348), none] [] g' ∧ MZ (sFI g 1201 348 0) g' ∧ MX g' n T (tkB n T 0) ∧ (∀ i, 5 ≤ i → i < 10 → hAI g' 350 i = nI 0) ∧ (∀ i, 25 ≤ i → i < 50 → hAI g' 356 i = nI 0) ∧ (∀ i, 24 ≤ i → i < 48 → hAI g' 369 i = nI 0) ∧ hAI g' 370 1 = nI 1000 ∧ hAI g' 371 1 = nI 1000 ∧ hFI g' 1233 348 = nI 1000 := by
  have h350 : hf 350 = 5 := rfl
  have h356 : hf 356 = 25 := rfl
  have h369 : hf 369 = 24 := rfl
  have h370 : hf 370 = 1 := rfl
  have h371 : hf 371 = 1 := rfl
  have a1 := m_ra (d := d + 6) (x := 2) (r := 350) (N := 10) (t := 9) (Or.inl ⟨rfl, rfl, rfl, rfl⟩) 5 5 rfl g hm
  have q1 := MZ.ai g (r := 350) (j := 5) (t := 9) (by decide) (by omega)
  have w1 : hAI (sAI g 350 (filH (hAI g 350) 5 9 0)) 350 = filH (hAI g 350) 5 9 0 := sAI_at _ _ _
  have hm1 : MSh (sAI g 350 (filH (hAI g 350) 5 9 0)) := MSh.to (h := g) (rd_hK_sAI _ _ _) (fun _ => by rw [rd_hFR_sAI]) (rd_hLN_sAI _ _ _) hm
  have x1 : hFI (sAI g 350 (filH (hAI g 350) 5 9 0)) = hFI g := rd_hFI_sAI _ _ _
  have y1 : hAI (sAI g 350 (filH (hAI g 350) 5 9 0)) 349 = hAI g 349 := sAI_ne _ _ (by decide)
  generalize hh1 : sAI g 350 (filH (hAI g 350) 5 9 0) = g1 at a1 q1 w1 hm1 x1 y1
  have n1 : (nI 10 < (10 : Int32)) = False := eq_false (by decide)
  have b1 : am_R PG (d + 7) 197 2 [some (.ref 348), some (.int (nI 10))] [] g1 = am_R PG (d + 7) 197 24 [some (.ref 348), some (.int (nI 25))] [] g1 := by
    rw [q_X12_readsAll_2]
    have z : (25 : Int32) = nI 25 := rfl
    simp only [n1, if_false, z]
  have a2 := m_ra (d := d + 6) (x := 24) (r := 356) (N := 50) (t := 49) (Or.inr (Or.inl ⟨rfl, rfl, rfl, rfl⟩)) 25 25 rfl g1 hm1
  have q2 := MZ.ai g1 (r := 356) (j := 25) (t := 49) (by decide) (by omega)
  have w2 : hAI (sAI g1 356 (filH (hAI g1 356) 25 49 0)) 356 = filH (hAI g1 356) 25 49 0 := sAI_at _ _ _
  have hm2 : MSh (sAI g1 356 (filH (hAI g1 356) 25 49 0)) := MSh.to (h := g1) (rd_hK_sAI _ _ _) (fun _ => by rw [rd_hFR_sAI]) (rd_hLN_sAI _ _ _) hm1
  have x2 : hFI (sAI g1 356 (filH (hAI g1 356) 25 49 0)) = hFI g1 := rd_hFI_sAI _ _ _
  have y2 : hAI (sAI g1 356 (filH (hAI g1 356) 25 49 0)) 349 = hAI g1 349 := sAI_ne _ _ (by decide)
  have v2 : hAI (sAI g1 356 (filH (hAI g1 356) 25 49 0)) 350 = hAI g1 350 := sAI_ne _ _ (by decide)
  generalize hh2 : sAI g1 356 (filH (hAI g1 356) 25 49 0) = g2 at a2 q2 w2 hm2 x2 y2 v2
  have n2 : (nI 50 < (50 : Int32)) = False := eq_false (by decide)
  have b2 : am_R PG (d + 7) 197 24 [some (.ref 348), some (.int (nI 50))] [] g2 = am_R PG (d + 7) 197 46 [some (.ref 348), some (.int (nI 24))] [] g2 := by
    rw [q_X12_readsAll_24]
    have z : (24 : Int32) = nI 24 := rfl
    simp only [n2, if_false, z]
  have a3 := m_ra (d := d + 6) (x := 46) (r := 369) (N := 48) (t := 47) (Or.inr (Or.inr ⟨rfl, rfl, rfl, rfl⟩)) 24 24 rfl g2 hm2
  have q3 := MZ.ai g2 (r := 369) (j := 24) (t := 47) (by decide) (by omega)
  have w3 : hAI (sAI g2 369 (filH (hAI g2 369) 24 47 0)) 369 = filH (hAI g2 369) 24 47 0 := sAI_at _ _ _
  have hm3 : MSh (sAI g2 369 (filH (hAI g2 369) 24 47 0)) := MSh.to (h := g2) (rd_hK_sAI _ _ _) (fun _ => by rw [rd_hFR_sAI]) (rd_hLN_sAI _ _ _) hm2
  have x3 : hFI (sAI g2 369 (filH (hAI g2 369) 24 47 0)) = hFI g2 := rd_hFI_sAI _ _ _
  have y3 : ∀ r, r ≠ 369 → hAI (sAI g2 369 (filH (hAI g2 369) 24 47 0)) r = hAI g2 r := fun r hr => sAI_ne _ _ hr
  generalize hh3 : sAI g2 369 (filH (hAI g2 369) 24 47 0) = g3 at a3 q3 w3 hm3 x3 y3
  -- the law's line, empty
  obtain ⟨g5, e5, u1, u2, u3, u4, u5, u6, u7⟩ : ∃ g5, sFI (sEI (sEI g3 370 1 1000) 371 1 1000) 1233 348 1000 = g5 ∧ MZ g3 g5 ∧ MSh g5 ∧ (∀ r, r ≠ 370 → r ≠ 371 → hAI g5 r = hAI g3 r) ∧ hAI g5 370 1 = nI 1000 ∧ hAI g5 371 1 = nI 1000 ∧ hFI g5 1233 348 = nI 1000 ∧ hFI g5 1201 348 = nI n := by
    refine ⟨_, rfl, ((MZ.ei g3 (r := 370) (i := 1) 1000 (by decide) (by omega)).tr (MZ.ei _ (r := 371) (i := 1) 1000 (by decide) (by omega))).tr (MZ.fi _ 1000 (k := 1233) (by omega)), MSh.to (h := g3) ?_ (fun k => ?_) ?_ hm3, fun r h1 h2 => ?_, ?_, ?_, ?_, ?_⟩
    · rw [rd_hK_sFI, rd_hK_sEI, rd_hK_sEI]
    · rw [rd_hFR_sFI, rd_hFR_sEI, rd_hFR_sEI]
    · rw [rd_hLN_sFI, rd_hLN_sEI, rd_hLN_sEI]
    · rw [rd_hAI_sFI, sEI_ne _ _ _ h2, sEI_ne _ _ _ h1]
    · rw [rd_hAI_sFI, sEI_ne _ _ _ (by decide), sEI_at, pk_us]; rfl
    · rw [rd_hAI_sFI, sEI_at, pk_us]; rfl
    · rw [sFI_at]; rfl
    · rw [sFI_o _ _ (by decide), rd_hFI_sEI, rd_hFI_sEI, x3, x2, x1]; exact e1
  obtain ⟨g6, s1, s2, s3, s4, s5, s6⟩ := m_starts (d := d + 3) u2 hn u7 (fun i hi => by rw [u3 349 (by decide) (by decide), y3 349 (by decide), y2, y1]; exact hT i hi)
  have b3 := m_ra48 (d := d) hm3 e5 u2.1 s1
  have m2' : MZ (sFI g 1201 348 0) (sFI g5 1201 348 0) := by
    obtain ⟨p1, p2, p3, p4, p5, p6, p7, p8, p9⟩ := ((q1.tr q2).tr q3).tr u1
    refine ⟨?_, ?_, ?_, ?_, ?_, fun k x e => ?_, fun k x e => ?_, fun r i e => ?_, fun r i e => ?_⟩
    · rw [rd_hK_sFI, rd_hK_sFI, p1]
    · rw [rd_hFR_sFI, rd_hFR_sFI, p2]
    · rw [rd_hLN_sFI, rd_hLN_sFI, p3]
    · rw [rd_hAR_sFI, rd_hAR_sFI, p4]
    · rw [rd_hNX_sFI, rd_hNX_sFI, p5]
    · rw [rd_hFJ_sFI, rd_hFJ_sFI, p6 k x e]
    · by_cases z : k = 1201 ∧ x = 348
      · obtain ⟨rfl, rfl⟩ := z
        rw [sFI_at, sFI_at]
      · rw [sFI_o _ _ (by omega), sFI_o _ _ (by omega), p7 k x e]
    · rw [rd_hAI_sFI, rd_hAI_sFI, p8 r i e]
    · rw [rd_hAJ_sFI, rd_hAJ_sFI, p9 r i e]
  refine ⟨g6, ?_, m2'.tr s2, s6, fun i h1 h2 => ?_, fun i h1 h2 => ?_, fun i h1 h2 => ?_, by rw [s3]; exact u4, by rw [s3]; exact u5, s5.trans u6⟩
  · have z0 : am_C PG (d + 7) 197 [.ref 348] g = am_R PG (d + 7) 197 2 [some (.ref 348), some (.int (nI 5))] [] g := by
      have z : (5 : Int32) = nI 5 := rfl
      rw [q_X12_readsAll, z]
    exact z0.trans (a1.trans (b1.trans (a2.trans (b2.trans (a3.trans b3)))))
  · rw [s3, u3 350 (by decide) (by decide), y3 350 (by decide), v2, w1]
    unfold filH
    rw [if_pos (by omega), nI_0]
  · rw [s3, u3 356 (by decide) (by decide), y3 356 (by decide), w2]
    unfold filH
    rw [if_pos (by omega), nI_0]
  · rw [s3, u3 369 (by decide) (by decide), w3]
    unfold filH
    rw [if_pos (by omega), nI_0]
