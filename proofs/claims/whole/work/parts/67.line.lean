/-! A line of days: Days.follow against the reference's goes. -/
def DaSh (h : AH) (a : Nat) : Prop := hK h a = 3 ∧ hFR h 201 a = some (a + 1) ∧ hFR h 202 a = some (a + 2) ∧ hFR h 203 a = some (a + 3) ∧ hFR h 204 a = some (a + 4) ∧ hK h (a + 1) = 50 ∧ hK h (a + 2) = 50 ∧ hK h (a + 3) = 50 ∧ hK h (a + 4) = 50 ∧ hLN h (a + 1) = 40 ∧ hLN h (a + 2) = 40 ∧ hLN h (a + 3) = 40 ∧ hLN h (a + 4) = 40
theorem DaSh.to {h g : AH} {a : Nat} (e1 : hK g = hK h) (e2 : hFR g = hFR h) (e3 : hLN g = hLN h) (s : DaSh h a) : DaSh g a := by
  unfold DaSh at s ⊢
  rw [e1, e2, e3]
  exact s
/-- a line of the class (deed, whose, whither, size) and of the reference (what, a, b, n) tell the same -/
def LR (np nc ne : Nat) (d1 d2 d3 d4 m1 m2 m3 m4 : Int32) : Prop :=
  (d1 = 0 ∧ m1 = 0 ∧ d4 = m4 ∧ ∃ n, n ≤ 24 ∧ m4 = nI n) ∨
  (d1 = 1 ∧ m1 = 1 ∧ (∃ e, e < ne ∧ d2 = nI e ∧ m2 = nI e) ∧ (∃ c, c < nc ∧ d3 = nI c ∧ m3 = nI c) ∧ d4 = m4 ∧ ¬ m4 < 1 ∧ ¬ 999 < m4) ∨
  (d1 = 2 ∧ m1 = 2 ∧ (∃ e, e < ne ∧ d2 = nI e ∧ m2 = nI e) ∧ d4 = m4 ∧ ¬ m4 < 1 ∧ ¬ 999 < m4) ∨
  (d1 = 3 ∧ m1 = 3 ∧ (∃ e, e < ne ∧ d2 = nI e ∧ m2 = nI e) ∧ ∃ t, t < np ∧ d3 = nI t ∧ m3 = nI t) ∨
  (d1 = 4 ∧ m1 = 4 ∧ (∃ c, c < nc ∧ d3 = nI c ∧ m2 = nI c) ∧ d4 = m4 ∧ ¬ m4 < 1 ∧ ¬ 999 < m4)
/-- the single steps alike -/
def StepR (P M : Nat → Nat → Int32) : Prop := ∀ a b, a < 5 → b < 5 → P 2 (5 * a + b) = M 356 (5 * a + b) ∧ ∃ k, k ≤ 9 ∧ M 356 (5 * a + b) = nI k
theorem c_line {d d2 p t da np nc ne nw len n hr k : Nat} {W : Int32 → Int32 → Int32 → Int32 → Int32} {g g2 : AH} {R : SV} {Q : MQv} {ρ : Nat → Nat → Int32} {w : M4} (hp : PoC g p np nc ne nw) (hl : PoL g p len W) (ht : PoT g p nw) (hs : StSh g t) (hd : Dj p t) (hda : DaSh g da) (hdt : da + 4 ≤ t ∨ t + 8 < da + 1)
    (hm : MSh g2) (hml : MoL g2 n W) (hmn : MoC g2 nc ne nw) (hP : PRow (rowsP g p) (hAI g2) np nc ne nw) (hst : StepR (rowsP g p) (hAI g2)) (hS : SR (hAI g2) np nc ne nw hr R Q) (hh : hr + 24 < 2 ^ 31) (hk : k < 40)
    (hL : LR np nc ne (hAI g (da + 1) k) (hAI g (da + 2) k) (hAI g (da + 3) k) (hAI g (da + 4) k) (hAI g2 387 k) (hAI g2 388 k) (hAI g2 389 k) (hAI g2 390 k)) :
    ∃ ans f R' Q' τ y hr', hr ≤ hr' ∧ hr' ≤ hr + 24 ∧ SR (hAI g2) np nc ne nw hr' R' Q' ∧ (ans = 0 ∨ ans = 1) ∧ am_C PG (d + 6) 33 [.ref da, .ref p, .ref t, .int (nI k)] (putS g t R) = some (some (.int ans), putS (sAI g (p + 16) f) t R') ∧
      am_C PG (d2 + 9) 236 [.ref 348, .int (nI k)] (HM g2 (enc Q) ρ w) = some (some (.int ans), HM g2 (enc Q') τ y) := by
  have p0 := hp.1.1.1
  have hm0 := hm
  have hP0 := hP
  obtain ⟨r1, r2, r3, r4, r5, r6, r7, r8, r9, r10, r11⟩ := hP
  have hS0 := hS
  obtain ⟨s1, s2, s3, s4, s5, s6, s7, s8, s9, s10, s11, s12, s13, s14, s15⟩ := hS
  obtain ⟨a0, f1, f2, f3, f4, k1, k2, k3, k4, n1, n2, n3, n4⟩ := hda
  have e1 : ∀ x, am_in (nI k) 40 x = x := am_inN hk (by decide)
  have t1 : Int32.toNatClampNeg (nI k) = k := nI_clamp (by omega)
  have w1 : hAI (putS g t R) (da + 1) = hAI g (da + 1) := pS_far g R (by omega)
  have w2 : hAI (putS g t R) (da + 2) = hAI g (da + 2) := pS_far g R (by omega)
  have w3 : hAI (putS g t R) (da + 3) = hAI g (da + 3) := pS_far g R (by omega)
  have w4 : hAI (putS g t R) (da + 4) = hAI g (da + 4) := pS_far g R (by omega)
  have b1 : ∀ x, am_in (nI k) 240 x = x := am_inN (by omega) (by decide)
  have o : ∀ a, 384 < a → a ≠ 397 → hAI (HM g2 (enc Q) ρ w) a = hAI g2 a := fun a ha hb => hm_o _ _ _ _ hb (Or.inr ha)
  have o1 := o 387 (by decide) (by decide)
  have o2 := o 388 (by decide) (by decide)
  have o3 := o 389 (by decide) (by decide)
  have o4 := o 390 (by decide) (by decide)
  have self : putS g t R = putS (sAI g (p + 16) (hAI g (p + 16))) t R := by rw [sAI_self]
  have i10 : (Int32.toInt 1 = (0 : Int)) = False := eq_false (by decide)
  have i20 : (Int32.toInt 2 = (0 : Int)) = False := eq_false (by decide)
  have i21 : (Int32.toInt 2 = (1 : Int)) = False := eq_false (by decide)
  have i30 : (Int32.toInt 3 = (0 : Int)) = False := eq_false (by decide)
  have i31 : (Int32.toInt 3 = (1 : Int)) = False := eq_false (by decide)
  have i32 : (Int32.toInt 3 = (2 : Int)) = False := eq_false (by decide)
  have i40 : (Int32.toInt 4 = (0 : Int)) = False := eq_false (by decide)
  have i41 : (Int32.toInt 4 = (1 : Int)) = False := eq_false (by decide)
  have i42 : (Int32.toInt 4 = (2 : Int)) = False := eq_false (by decide)
  have i43 : (Int32.toInt 4 = (3 : Int)) = False := eq_false (by decide)
  have i00 : (Int32.toInt 0 = (0 : Int)) = True := eq_true (by decide)
  have i11 : (Int32.toInt 1 = (1 : Int)) = True := eq_true (by decide)
  have i22 : (Int32.toInt 2 = (2 : Int)) = True := eq_true (by decide)
  have i33 : (Int32.toInt 3 = (3 : Int)) = True := eq_true (by decide)
  have j10 : ((1 : Int32) = 0) = False := eq_false (by decide)
  have j20 : ((2 : Int32) = 0) = False := eq_false (by decide)
  have j21 : ((2 : Int32) = 1) = False := eq_false (by decide)
  have j30 : ((3 : Int32) = 0) = False := eq_false (by decide)
  have j31 : ((3 : Int32) = 1) = False := eq_false (by decide)
  have j32 : ((3 : Int32) = 2) = False := eq_false (by decide)
  have j40 : ((4 : Int32) = 0) = False := eq_false (by decide)
  have j41 : ((4 : Int32) = 1) = False := eq_false (by decide)
  have j42 : ((4 : Int32) = 2) = False := eq_false (by decide)
  have j43 : ((4 : Int32) = 3) = False := eq_false (by decide)
  have hmA := hm
  have m0 := hmA.1
  have f1249 : hFR _ 1249 348 = some 387 := (hmA.2 38 (by decide)).1
  have k387 : hK _ 387 = 50 := (hmA.2 38 (by decide)).2.1
  have n387 : hLN _ 387 = 240 := (hmA.2 38 (by decide)).2.2
  have f1250 : hFR _ 1250 348 = some 388 := (hmA.2 39 (by decide)).1
  have k388 : hK _ 388 = 50 := (hmA.2 39 (by decide)).2.1
  have n388 : hLN _ 388 = 240 := (hmA.2 39 (by decide)).2.2
  have f1251 : hFR _ 1251 348 = some 389 := (hmA.2 40 (by decide)).1
  have k389 : hK _ 389 = 50 := (hmA.2 40 (by decide)).2.1
  have n389 : hLN _ 389 = 240 := (hmA.2 40 (by decide)).2.2
  have f1252 : hFR _ 1252 348 = some 390 := (hmA.2 41 (by decide)).1
  have k390 : hK _ 390 = 50 := (hmA.2 41 (by decide)).2.1
  have n390 : hLN _ 390 = 240 := (hmA.2 41 (by decide)).2.2
  have f1259 : hFR _ 1259 348 = some 397 := (hmA.2 48 (by decide)).1
  have k397 : hK _ 397 = 50 := (hmA.2 48 (by decide)).2.1
  have n397 : hLN _ 397 = 43 := (hmA.2 48 (by decide)).2.2
  rcases hL with ⟨x1, y1, x4, m, hm24, y4⟩ | ⟨x1, y1, ⟨e, he, x2, y2⟩, ⟨c, hc, x3, y3⟩, x4, z1, z2⟩ | ⟨x1, y1, ⟨e, he, x2, y2⟩, x4, z1, z2⟩ | ⟨x1, y1, ⟨e, he, x2, y2⟩, ⟨q, hq, x3, y3⟩⟩ | ⟨x1, y1, ⟨c, hc, x3, y3⟩, x4, z1, z2⟩
  · -- hours
    obtain ⟨f, q1⟩ := c_hours (d := d) (n := m) hp hl ht hs hd (show hr + m < 2 ^ 31 by omega) s1
    obtain ⟨τ, y, q2⟩ := c_mhours (dp := d2 + 1) (ρ := ρ) (w := w) hm hml hmn hP0 hS0 (show hr + m < 2 ^ 31 by omega)
    refine ⟨1, f, _, _, τ, y, hr + m, by omega, by omega, SR_hours (W := W) hP0 hS0 m, Or.inr rfl, ?_, ?_⟩
    · rw [q_X2_follow]
      simp only [rd_hK_putS, rd_hFR_putS, rd_hLN_putS, rd_hFJ_putS, rd_hAJ_putS, rd_hAR_putS, rd_hNX_putS, am_kd, a0, f1, f2, f3, f4, k1, k2, k3, k4, n1, n2, n3, n4, p0, if_true, bR_s, e1, t1, w1, w4, x1, x4, y4, i00, q1, bV_s, am_nar4_1]
    · rw [q_X12_goes]
      simp only [hm_K, hm_R, hm_L, hm_at, hm_E, hm_5, hm_6, hm_7, hm_8, hm_s5, hm_s6, hm_s7, hm_s8, am_kd, m0, f1249, k387, n387, f1250, k388, n388, f1251, k389, n389, f1252, k390, n390, f1259, k397, n397, if_true, bR_s, b1, t1, o1, o2, o3, o4, y1, y4, q2, bV_s, am_nar4_1]
  · -- pour
    have q1 := c_pour_ok (d := d + 3) (R := R) hp hs hd he hc (hAI g2 390 k) z1 z2
    have q2 := c_mcanPour (dp := d2 + 7) (Q := Q) (ρ := ρ) (w := w) hm (show e < 4 by omega) (show c < 6 by omega) (hAI g2 390 k)
    have q3 := c_mpours (dp := d2 + 7) (Q := Q) (ρ := ρ) (w := w) hm (show e < 4 by omega) (show c < 6 by omega) (hAI g2 390 k)
    obtain ⟨a1, a2, a3⟩ := s4 e he
    have a4 : R.2.1 c = Q.1.2.1 c := congrArg Prod.fst (s3 c hc)
    have a5 : hAI g (p + 5) c = hAI g2 358 c := (r1 c hc).2.1
    have a6 : hAI g (p + 6) c = hAI g2 359 c := (r1 c hc).2.2.1
    rw [a1, a2, a4, a5, a6] at q1
    by_cases gd : Q.1.2.2.2.2.1 e = hAI g2 358 c ∧ ¬ Q.1.2.2.2.2.2.1 e < hAI g2 390 k ∧ ¬ hAI g2 359 c < Q.1.2.1 c + hAI g2 390 k
    · rw [if_pos gd] at q1
      rw [b2i_t gd] at q2
      refine ⟨1, hAI g (p + 16), xpour e c (hAI g2 390 k) R, _, ρ, w, hr, Nat.le_refl _, by omega, SR_pour hS0 (r5 c hc).2.2.2 he hc z1 z2 gd.2.1 gd.2.2, Or.inr rfl, ?_, ?_⟩
      · rw [q_X2_follow, sAI_self]
        simp only [rd_hK_putS, rd_hFR_putS, rd_hLN_putS, rd_hFJ_putS, rd_hAJ_putS, rd_hAR_putS, rd_hNX_putS, am_kd, a0, f1, f2, f3, f4, k1, k2, k3, k4, n1, n2, n3, n4, p0, if_true, if_false, bR_s, e1, t1, w1, w2, w3, w4, x1, x2, x3, x4, i10, i11, q1, bI_s, am_nar4_1]
      · rw [q_X12_goes]
        simp only [hm_K, hm_R, hm_L, hm_at, hm_E, hm_5, hm_6, hm_7, hm_8, hm_s5, hm_s6, hm_s7, hm_s8, am_kd, m0, f1249, k387, n387, f1250, k388, n388, f1251, k389, n389, f1252, k390, n390, f1259, k397, n397, if_true, if_false, bR_s, b1, t1, o1, o2, o3, o4, y1, y2, y3, j10, q2, bI_s]
        rw [q_X12_goes_116]
        simp only [hm_K, hm_R, hm_L, hm_at, hm_E, hm_5, hm_6, hm_7, hm_8, hm_s5, hm_s6, hm_s7, hm_s8, am_kd, m0, if_true, if_false, j10, q3, bV_s, am_nar4_1]
    · rw [if_neg gd] at q1
      rw [b2i_f gd] at q2
      refine ⟨0, hAI g (p + 16), R, Q, ρ, w, hr, Nat.le_refl _, by omega, hS0, Or.inl rfl, ?_, ?_⟩
      · rw [q_X2_follow, sAI_self]
        simp only [rd_hK_putS, rd_hFR_putS, rd_hLN_putS, rd_hFJ_putS, rd_hAJ_putS, rd_hAR_putS, rd_hNX_putS, am_kd, a0, f1, f2, f3, f4, k1, k2, k3, k4, n1, n2, n3, n4, p0, if_true, if_false, bR_s, e1, t1, w1, w2, w3, w4, x1, x2, x3, x4, i10, i11, q1, bI_s, am_nar4_0]
      · rw [q_X12_goes]
        simp only [hm_K, hm_R, hm_L, hm_at, hm_E, hm_5, hm_6, hm_7, hm_8, hm_s5, hm_s6, hm_s7, hm_s8, am_kd, m0, f1249, k387, n387, f1250, k388, n388, f1251, k389, n389, f1252, k390, n390, f1259, k397, n397, if_true, if_false, bR_s, b1, t1, o1, o2, o3, o4, y1, y2, y3, j10, q2, bI_s]
        rw [q_X12_goes_116, if_pos rfl, am_nar4_0]
  · -- draw
    obtain ⟨⟨q, hq, a0'⟩, a00⟩ := s9 e he
    obtain ⟨a1, a2, a3⟩ := s4 e he
    have q1 := c_draw_ok (d := d + 3) (R := R) hp hs he (hAI g2 390 k) z1 z2 (show q < 5 by omega) (a1.trans a0')
    have q2 := c_mcanDraw (dp := d2 + 7) (Q := Q) (ρ := ρ) (w := w) hm (show e < 4 by omega) (show q < 5 by omega) a0' (hAI g2 390 k)
    have q3 := c_mdraws (dp := d2 + 7) (Q := Q) (ρ := ρ) (w := w) hm (show e < 4 by omega) (show q < 5 by omega) a0' (hAI g2 390 k)
    rw [a2, s5 q hq] at q1
    by_cases gd : Q.1.2.2.2.2.2.2.2.1 q < hAI g2 390 k ∨ 999 < Q.1.2.2.2.2.2.1 e + hAI g2 390 k
    · rw [if_pos gd] at q1
      rw [b2i_f (fun z => z gd)] at q2
      refine ⟨0, hAI g (p + 16), R, Q, ρ, w, hr, Nat.le_refl _, by omega, hS0, Or.inl rfl, ?_, ?_⟩
      · rw [q_X2_follow, sAI_self]
        simp only [rd_hK_putS, rd_hFR_putS, rd_hLN_putS, rd_hFJ_putS, rd_hAJ_putS, rd_hAR_putS, rd_hNX_putS, am_kd, a0, f1, f2, f3, f4, k1, k2, k3, k4, n1, n2, n3, n4, p0, if_true, if_false, bR_s, e1, t1, w1, w2, w3, w4, x1, x2, x4, i20, i21, i22, q1, bI_s, am_nar4_0]
      · rw [q_X12_goes]
        simp only [hm_K, hm_R, hm_L, hm_at, hm_E, hm_5, hm_6, hm_7, hm_8, hm_s5, hm_s6, hm_s7, hm_s8, am_kd, m0, f1249, k387, n387, f1250, k388, n388, f1251, k389, n389, f1252, k390, n390, f1259, k397, n397, if_true, if_false, bR_s, b1, t1, o1, o2, o3, o4, y1, y2, j20, j21, q2, bI_s]
        rw [q_X12_goes_116, if_pos rfl, am_nar4_0]
    · rw [if_neg gd] at q1
      rw [b2i_t gd] at q2
      refine ⟨1, hAI g (p + 16), xdraw e q (hAI g2 390 k) R, _, ρ, w, hr, Nat.le_refl _, by omega, SR_draw hS0 he hq z1 z2 (fun z => gd (Or.inl z)) (fun z => gd (Or.inr z)), Or.inr rfl, ?_, ?_⟩
      · rw [q_X2_follow, sAI_self]
        simp only [rd_hK_putS, rd_hFR_putS, rd_hLN_putS, rd_hFJ_putS, rd_hAJ_putS, rd_hAR_putS, rd_hNX_putS, am_kd, a0, f1, f2, f3, f4, k1, k2, k3, k4, n1, n2, n3, n4, p0, if_true, if_false, bR_s, e1, t1, w1, w2, w3, w4, x1, x2, x4, i20, i21, i22, q1, bI_s, am_nar4_1]
      · rw [q_X12_goes]
        simp only [hm_K, hm_R, hm_L, hm_at, hm_E, hm_5, hm_6, hm_7, hm_8, hm_s5, hm_s6, hm_s7, hm_s8, am_kd, m0, f1249, k387, n387, f1250, k388, n388, f1251, k389, n389, f1252, k390, n390, f1259, k397, n397, if_true, if_false, bR_s, b1, t1, o1, o2, o3, o4, y1, y2, j20, j21, q2, bI_s]
        rw [q_X12_goes_116]
        simp only [hm_K, hm_R, hm_L, hm_at, hm_E, hm_5, hm_6, hm_7, hm_8, hm_s5, hm_s6, hm_s7, hm_s8, am_kd, m0, if_true, if_false, j10, j21, q3, bV_s, am_nar4_1]
  · -- go
    obtain ⟨⟨u, hu, a0'⟩, a00⟩ := s9 e he
    obtain ⟨a1, a2, a3⟩ := s4 e he
    obtain ⟨st1, m, hm9, st2⟩ := hst u q (by omega) (by omega)
    have st3 : hAI g (p + 2) (5 * u + q) = nI m := st1.trans st2
    obtain ⟨q1, q1'⟩ := c_walk_ok (d := d) (R := R) hp hl ht hs hd (show hr + m < 2 ^ 31 by omega) s1 he hq (show u < 5 by omega) (a1.trans a0') st3
    have q2 := c_mstep (dp := d2 + 7) (Q := Q) (ρ := ρ) (w := w) hm (show e < 4 by omega) (show u < 5 by omega) (show q < 5 by omega) a0'
    rw [st2] at q2
    by_cases gd : 0 < m
    · obtain ⟨f, q1⟩ := q1' gd
      obtain ⟨τ, y, q3⟩ := c_mwalk (dp := d2) (ρ := ρ) (w := w) hm hml hmn hP0 hS0 (show hr + m < 2 ^ 31 by omega) (show e < 4 by omega) (show u < 5 by omega) (show q < 5 by omega) a0' st2
      have g0 : ((0 : Int32) < nI m) = True := eq_true (nI_lt (a := 0) gd (by omega))
      refine ⟨1, f, _, _, τ, y, hr + m, by omega, by omega, SR_go (SR_hours (W := W) hP0 hS0 m) he hq, Or.inr rfl, ?_, ?_⟩
      · rw [q_X2_follow]
        simp only [rd_hK_putS, rd_hFR_putS, rd_hLN_putS, rd_hFJ_putS, rd_hAJ_putS, rd_hAR_putS, rd_hNX_putS, am_kd, a0, f1, f2, f3, f4, k1, k2, k3, k4, n1, n2, n3, n4, p0, if_true, if_false, bR_s, e1, t1, w1, w2, w3, w4, x1, x2, x3, i30, i31, i32, i33, q1, bI_s, am_nar4_1]
      · rw [q_X12_goes]
        simp only [hm_K, hm_R, hm_L, hm_at, hm_E, hm_5, hm_6, hm_7, hm_8, hm_s5, hm_s6, hm_s7, hm_s8, am_kd, m0, f1249, k387, n387, f1250, k388, n388, f1251, k389, n389, f1252, k390, n390, f1259, k397, n397, if_true, if_false, bR_s, b1, t1, o1, o2, o3, o4, y1, y2, y3, j30, j31, j32, q2, bI_s, g0]
        rw [q_X12_goes_116]
        simp only [hm_K, hm_R, hm_L, hm_at, hm_E, hm_5, hm_6, hm_7, hm_8, hm_s5, hm_s6, hm_s7, hm_s8, am_kd, m0, if_true, if_false, j10, j31, j32, q3, bV_s, am_nar4_1]
    · have hm00 : m = 0 := by omega
      have q1 := q1 hm00
      have g0 : ((0 : Int32) < nI m) = False := eq_false (by rw [hm00]; decide)
      refine ⟨0, hAI g (p + 16), R, Q, ρ, w, hr, Nat.le_refl _, by omega, hS0, Or.inl rfl, ?_, ?_⟩
      · rw [q_X2_follow, sAI_self]
        simp only [rd_hK_putS, rd_hFR_putS, rd_hLN_putS, rd_hFJ_putS, rd_hAJ_putS, rd_hAR_putS, rd_hNX_putS, am_kd, a0, f1, f2, f3, f4, k1, k2, k3, k4, n1, n2, n3, n4, p0, if_true, if_false, bR_s, e1, t1, w1, w2, w3, w4, x1, x2, x3, i30, i31, i32, i33, q1, bI_s, am_nar4_0]
      · rw [q_X12_goes]
        simp only [hm_K, hm_R, hm_L, hm_at, hm_E, hm_5, hm_6, hm_7, hm_8, hm_s5, hm_s6, hm_s7, hm_s8, am_kd, m0, f1249, k387, n387, f1250, k388, n388, f1251, k389, n389, f1252, k390, n390, f1259, k397, n397, if_true, if_false, bR_s, b1, t1, o1, o2, o3, o4, y1, y2, y3, j30, j31, j32, q2, bI_s, g0]
        rw [q_X12_goes_116, if_pos rfl, am_nar4_0]
  · -- steal
    have q1 := c_rob_ok (d := d + 3) (R := R) hp hs hc (hAI g2 390 k) z1 z2
    have a4 : R.2.1 c = Q.1.2.1 c := congrArg Prod.fst (s3 c hc)
    have c6 : c < 6 := by omega
    have a6 : (6 : Int32) + nI c = nI (6 + c) := nI_add 6 c
    have e6 : ∀ x, am_in (nI (6 + c)) 43 x = x := am_inN (by omega) (by decide)
    have t6 : Int32.toNatClampNeg (nI (6 + c)) = 6 + c := nI_clamp (by omega)
    rw [a4] at q1
    by_cases gd : Q.1.2.1 c < hAI g2 390 k
    · rw [if_pos gd] at q1
      refine ⟨0, hAI g (p + 16), R, Q, ρ, w, hr, Nat.le_refl _, by omega, hS0, Or.inl rfl, ?_, ?_⟩
      · rw [q_X2_follow, sAI_self]
        simp only [rd_hK_putS, rd_hFR_putS, rd_hLN_putS, rd_hFJ_putS, rd_hAJ_putS, rd_hAR_putS, rd_hNX_putS, am_kd, a0, f1, f2, f3, f4, k1, k2, k3, k4, n1, n2, n3, n4, p0, if_true, if_false, bR_s, e1, t1, w1, w2, w3, w4, x1, x3, x4, i40, i41, i42, i43, q1, bI_s, am_nar4_0]
      · rw [q_X12_goes]
        simp only [hm_K, hm_R, hm_L, hm_at, hm_E, hm_5, hm_6, hm_7, hm_8, hm_s5, hm_s6, hm_s7, hm_s8, am_kd, m0, f1249, k387, n387, f1250, k388, n388, f1251, k389, n389, f1252, k390, n390, f1259, k397, n397, if_true, if_false, bR_s, b1, t1, o1, o2, o3, o4, y1, y3, j40, j41, j42, j43, a6, e6, t6, enc_h _ c6, gd]
        rw [q_X12_goes_116, if_pos rfl, am_nar4_0]
    · rw [if_neg gd] at q1
      refine ⟨1, hAI g (p + 16), xrob c (hAI g2 390 k) R, _, ρ, w, hr, Nat.le_refl _, by omega, SR_rob hS0 (r5 c hc).2.2.2 hc z1 z2 gd, Or.inr rfl, ?_, ?_⟩
      · rw [q_X2_follow, sAI_self]
        simp only [rd_hK_putS, rd_hFR_putS, rd_hLN_putS, rd_hFJ_putS, rd_hAJ_putS, rd_hAR_putS, rd_hNX_putS, am_kd, a0, f1, f2, f3, f4, k1, k2, k3, k4, n1, n2, n3, n4, p0, if_true, if_false, bR_s, e1, t1, w1, w2, w3, w4, x1, x3, x4, i40, i41, i42, i43, q1, bI_s, am_nar4_1]
      · rw [q_X12_goes]
        simp only [hm_K, hm_R, hm_L, hm_at, hm_E, hm_5, hm_6, hm_7, hm_8, hm_s5, hm_s6, hm_s7, hm_s8, am_kd, m0, f1249, k387, n387, f1250, k388, n388, f1251, k389, n389, f1252, k390, n390, f1259, k397, n397, if_true, if_false, bR_s, b1, t1, o1, o2, o3, o4, y1, y3, j40, j41, j42, j43, a6, e6, t6, enc_h _ c6, gd]
        rw [q_X12_goes_116]
        simp only [hm_K, hm_R, hm_L, hm_at, hm_E, hm_5, hm_6, hm_7, hm_8, hm_s5, hm_s6, hm_s7, hm_s8, am_kd, m0, f1249, k387, n387, f1250, k388, n388, f1251, k389, n389, f1252, k390, n390, f1259, k397, n397, if_true, if_false, bR_s, j10, j41, j42, j43, a6, e6, t6, enc_h _ c6, am_let_e, enu_h _ c6, am_nar4_1]
        rfl
