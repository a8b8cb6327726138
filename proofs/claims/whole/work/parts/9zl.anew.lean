/-! The class begins anew; the reference behind a post read. -/
theorem r_anew57 {d : Nat} : ∀ k j, j + k = 4 → ∀ h : AH, hK h 0 = 12 → hFR h 1107 0 = some 82 → hK h 82 = 52 → hLN h 82 = 4 → am_R PG (d + 1) 128 57 [some (.ref 0), some (.int (nI j))] [] h = some (none, sAI h 82 (filH (hAI h 82) j 3 0))
  | 0, j, hj, h, k0, f1, k1, n1 => by
    rw [filH_0 _ _ (by omega), sAI_self, q_X11_beginAnew_57, if_neg (show ¬ nI j < (4 : Int32) from nI_nlt (b := 4) (by omega) (by omega))]
  | k + 1, j, hj, h, k0, f1, k1, n1 => by
    have ih := r_anew57 (d := d) k (j + 1) (by omega) (sEI h 82 j 0) (by rw [rd_hK_sEI]; exact k0) (by rw [rd_hFR_sEI]; exact f1) (by rw [rd_hK_sEI]; exact k1) (by rw [rd_hLN_sEI]; exact n1)
    have e5 : (nI j < (4 : Int32)) = True := eq_true (nI_lt (b := 4) (by omega) (by decide))
    have ei : ∀ x, am_in (nI j) 4 x = x := am_inN (by omega) (by decide)
    have ti : Int32.toNatClampNeg (nI j) = j := nI_clamp (by omega)
    rw [sEI_at, filH_s _ _ (by omega), sEI_e, sAI_sAI] at ih
    rw [q_X11_beginAnew_57]
    simp only [am_kd, k0, f1, k1, n1, e5, if_true, bR_s, ei, ti, am_nar4_0, am_let_e, nI_1, sEI_e]
    exact ih
theorem c_anew1 {d : Nat} {y y4 : AH} (k0 : hK y 0 = 12) (f5 : hFR y 1105 0 = some 61) (o0 : hK y 61 = 9) (o2 : hFR y 801 61 = some 71) (o3 : hFR y 802 61 = some 76) (d0 : hK y 71 = 3) (h0 : hK y 76 = 4) (e4 : sFI (sFI (sFI (sFI y 200 71 0) 300 76 0) 303 76 0) 1110 0 0 = y4) : (am_kd y 0 12 (bR (hFR y 1105 0) fun r6 => am_kd y r6 9 (bR (hFR y 801 r6) fun r7 => am_kd y r7 3 (am_let (sFI y 200 r7 (0 : Int32)) fun h8 => am_kd h8 0 12 (bR (hFR h8 1105 0) fun r9 => am_kd h8 r9 9 (bR (hFR h8 802 r9) fun r10 => am_kd h8 r10 4 (am_let (sFI h8 300 r10 (0 : Int32)) fun h11 => am_kd h11 0 12 (bR (hFR h11 1105 0) fun r12 => am_kd h11 r12 9 (bR (hFR h11 802 r12) fun r13 => am_kd h11 r13 4 (am_let (sFI h11 303 r13 (0 : Int32)) fun h14 => am_kd h14 0 12 (am_let (sFI h14 1110 0 (0 : Int32)) fun h15 => am_R PG (d + 1) 128 57 [some (.ref 0), some (.int ((0 : Int32)))] [] h15)))))))))) : Option Res) = am_R PG (d + 1) 128 57 [some (.ref 0), some (.int (nI 0))] [] y4 := by
  obtain ⟨a, ea, a1, a2⟩ : ∃ a, sFI y 200 71 0 = a ∧ hK a = hK y ∧ hFR a = hFR y := ⟨_, rfl, rd_hK_sFI _ _ _ _, rd_hFR_sFI _ _ _ _⟩
  rw [ea] at e4
  obtain ⟨b, eb, b1, b2⟩ : ∃ b, sFI a 300 76 0 = b ∧ hK b = hK y ∧ hFR b = hFR y := ⟨_, rfl, by rw [rd_hK_sFI, a1], by rw [rd_hFR_sFI, a2]⟩
  rw [eb] at e4
  obtain ⟨c, ec, c1, c2⟩ : ∃ c, sFI b 303 76 0 = c ∧ hK c = hK y ∧ hFR c = hFR y := ⟨_, rfl, by rw [rd_hK_sFI, b1], by rw [rd_hFR_sFI, b2]⟩
  rw [ec] at e4
  have p0 : hK a 0 = 12 := by rw [a1]; exact k0
  have p1 : hK b 0 = 12 := by rw [b1]; exact k0
  have p2 : hK c 0 = 12 := by rw [c1]; exact k0
  have p3 : hFR a 1105 0 = some 61 := by rw [a2]; exact f5
  have p4 : hFR b 1105 0 = some 61 := by rw [b2]; exact f5
  have p5 : hK a 61 = 9 := by rw [a1]; exact o0
  have p6 : hK b 61 = 9 := by rw [b1]; exact o0
  have p7 : hFR a 802 61 = some 76 := by rw [a2]; exact o3
  have p8 : hFR b 802 61 = some 76 := by rw [b2]; exact o3
  have p9 : hK a 76 = 4 := by rw [a1]; exact h0
  have p10 : hK b 76 = 4 := by rw [b1]; exact h0
  rw [am_kd_t k0, f5, bR_s, am_kd_t o0, o2, bR_s, am_kd_t d0, am_let_e, ea, am_kd_t p0, p3, bR_s, am_kd_t p5, p7, bR_s, am_kd_t p9, am_let_e, eb, am_kd_t p1, p4, bR_s, am_kd_t p6, p8, bR_s, am_kd_t p10, am_let_e, ec, am_kd_t p2, am_let_e, e4, nI_0]
theorem c_anew {d p : Nat} {x : AH} (k0 : hK x 0 = 12) (f5 : hFR x 1105 0 = some 61) (f2 : hFR x 1102 0 = some p) (f7 : hFR x 1107 0 = some 82) (so : StoSh x 61) (kp : hK x p = 6) (fp : hFR x 519 p = some (p + 17)) (sp : StSh x (p + 17)) (k82 : hK x 82 = 52) (n82 : hLN x 82 = 4) (hp : p ≤ 30) : ∃ g, am_C PG (d + 2) 128 [.ref 0] x = some (none, g) ∧ (hK g = hK x ∧ hFR g = hFR x ∧ hLN g = hLN x ∧ hAR g = hAR x ∧ hNX g = hNX x ∧ hAJ g = hAJ x ∧ hFJ g = hFJ x) ∧ (∀ a, (a < 63 ∨ 70 < a) → a ≠ 82 → hAI g a = hAI x a) ∧ (∀ k a, (a ≠ 62 ∨ k ≠ 700) → (a ≠ 71 ∨ k ≠ 200) → (a ≠ 76 ∨ (k ≠ 300 ∧ k ≠ 303)) → (a ≠ 0 ∨ k ≠ 1110) → hFI g k a = hFI x k a) ∧ getS g 62 = cpS (getS x (p + 17)) (getS x 62) ∧ hFI g 200 71 = 0 ∧ hFI g 300 76 = 0 ∧ hFI g 303 76 = 0 ∧ hFI g 1110 0 = 0 ∧ ∀ i, i < 4 → hAI g 82 i = 0 := by
  obtain ⟨o0, o1, o2, o3, o4, o5, o6⟩ := so
  have k62 : hK x 62 = 8 := o4.1
  have kc := c_copy (d := d) (R := getS x 62) o4 sp (Or.inr (by omega))
  rw [putS_get] at kc
  obtain ⟨y, ey, y1, y2, y3, y4, y5, y6, y7, y8, y9, y10⟩ : ∃ y, putS x 62 (cpS (getS x (p + 17)) (getS x 62)) = y ∧ hK y = hK x ∧ hFR y = hFR x ∧ hLN y = hLN x ∧ hAR y = hAR x ∧ hNX y = hNX x ∧ hAJ y = hAJ x ∧ hFJ y = hFJ x ∧ (∀ a, (a < 63 ∨ 70 < a) → hAI y a = hAI x a) ∧ (∀ k a, (a ≠ 62 ∨ k ≠ 700) → hFI y k a = hFI x k a) ∧ getS y 62 = cpS (getS x (p + 17)) (getS x 62) :=
    ⟨_, rfl, rd_hK_putS _ _ _, rd_hFR_putS _ _ _, rd_hLN_putS _ _ _, rd_hAR_putS _ _ _, rd_hNX_putS _ _ _, rd_hAJ_putS _ _ _, rd_hFJ_putS _ _ _, fun a e => pS_far _ _ (by omega), fun k a e => pS_fi _ _ (by omega), getS_put _ _ _⟩
  rw [ey] at kc
  obtain ⟨z, ez, z1, z2, z3, z4, z5, z6, z7, z8, z9, z10, z11, z12, z13⟩ : ∃ z, sFI (sFI (sFI (sFI y 200 71 0) 300 76 0) 303 76 0) 1110 0 0 = z ∧ hK z = hK x ∧ hFR z = hFR x ∧ hLN z = hLN x ∧ hAR z = hAR x ∧ hNX z = hNX x ∧ hAJ z = hAJ x ∧ hFJ z = hFJ x ∧ hAI z = hAI y ∧ (∀ k a, (a ≠ 71 ∨ k ≠ 200) → (a ≠ 76 ∨ (k ≠ 300 ∧ k ≠ 303)) → (a ≠ 0 ∨ k ≠ 1110) → hFI z k a = hFI y k a) ∧ hFI z 200 71 = 0 ∧ hFI z 300 76 = 0 ∧ hFI z 303 76 = 0 ∧ hFI z 1110 0 = 0 := by
    refine ⟨_, rfl, ?_, ?_, ?_, ?_, ?_, ?_, ?_, ?_, fun k a e1 e2 e3 => ?_, ?_, ?_, ?_, ?_⟩
    · rw [rd_hK_sFI, rd_hK_sFI, rd_hK_sFI, rd_hK_sFI, y1]
    · rw [rd_hFR_sFI, rd_hFR_sFI, rd_hFR_sFI, rd_hFR_sFI, y2]
    · rw [rd_hLN_sFI, rd_hLN_sFI, rd_hLN_sFI, rd_hLN_sFI, y3]
    · rw [rd_hAR_sFI, rd_hAR_sFI, rd_hAR_sFI, rd_hAR_sFI, y4]
    · rw [rd_hNX_sFI, rd_hNX_sFI, rd_hNX_sFI, rd_hNX_sFI, y5]
    · rw [rd_hAJ_sFI, rd_hAJ_sFI, rd_hAJ_sFI, rd_hAJ_sFI, y6]
    · rw [rd_hFJ_sFI, rd_hFJ_sFI, rd_hFJ_sFI, rd_hFJ_sFI, y7]
    · rw [rd_hAI_sFI, rd_hAI_sFI, rd_hAI_sFI, rd_hAI_sFI]
    · rw [sFI_o _ _ (by omega), sFI_o _ _ (by omega), sFI_o _ _ (by omega), sFI_o _ _ (by omega)]
    · rw [sFI_o _ _ (by decide), sFI_o _ _ (by decide), sFI_o _ _ (by decide), sFI_at]
    · rw [sFI_o _ _ (by decide), sFI_o _ _ (by decide), sFI_at]
    · rw [sFI_o _ _ (by decide), sFI_at]
    · rw [sFI_at]
  have kn := c_anew1 (d := d + 1) (y := y) (by rw [y1]; exact k0) (by rw [y2]; exact f5) (by rw [y1]; exact o0) (by rw [y2]; exact o2) (by rw [y2]; exact o3) (by rw [y1]; exact o5.1) (by rw [y1]; exact o6.1) ez
  have kl := r_anew57 (d := d + 1) 4 0 rfl z (by rw [z1]; exact k0) (by rw [z2]; exact f7) (by rw [z1]; exact k82) (by rw [z3]; exact n82)
  refine ⟨sAI z 82 (filH (hAI z 82) 0 3 0), ?_, ⟨?_, ?_, ?_, ?_, ?_, ?_, ?_⟩, fun a e1 e2 => ?_, fun k a e1 e2 e3 e4 => ?_, ?_, ?_, ?_, ?_, ?_, fun i hi => ?_⟩
  · rw [q_X11_beginAnew, am_kd_t k0, f5, bR_s, am_kd_t o0, o1, bR_s, am_kd_t k0, f2, bR_s, am_kd_t kp, fp, bR_s, am_kd_t k62, kc, bV_s]
    exact kn.trans kl
  · rw [rd_hK_sAI, z1]
  · rw [rd_hFR_sAI, z2]
  · rw [rd_hLN_sAI, z3]
  · rw [rd_hAR_sAI, z4]
  · rw [rd_hNX_sAI, z5]
  · rw [rd_hAJ_sAI, z6]
  · rw [rd_hFJ_sAI, z7]
  · rw [sAI_ne _ _ e2, z8, y8 a e1]
  · rw [rd_hFI_sAI, z9 k a e2 e3 e4, y9 k a e1]
  · rw [← y10]
    exact getS_fr (by rw [rd_hFI_sAI, z9 _ _ (by decide) (by decide) (by decide)]) (fun k h1 h2 => by rw [sAI_ne _ _ (by omega), z8])
  · rw [rd_hFI_sAI, z10]
  · rw [rd_hFI_sAI, z11]
  · rw [rd_hFI_sAI, z12]
  · rw [rd_hFI_sAI, z13]
  · rw [sAI_at]
    unfold filH
    exact if_pos (by omega)
/-! the reference behind -/
theorem r_mpost53 {d : Nat} : ∀ k j, j + k = 4 → ∀ g : AH, MSh g → am_R PG (d + 1) 207 53 [some (.ref 348), some (.int (nI j))] [] g = some (some (.int 0), sAI g 401 (filH (hAI g 401) j 3 0))
  | 0, j, hj, g, hm => by
    rw [filH_0 _ _ (by omega), sAI_self, q_X12_post_53, if_neg (show ¬ nI j < (4 : Int32) from nI_nlt (b := 4) (by omega) (by omega))]
  | k + 1, j, hj, g, hm => by
    have ih := r_mpost53 (d := d) k (j + 1) (by omega) (sEI g 401 j 0) (MSh.to (h := g) (rd_hK_sEI _ _ _ _) (fun _ => by rw [rd_hFR_sEI]) (rd_hLN_sEI _ _ _ _) hm)
    rw [sEI_at, filH_s _ _ (by omega), sEI_e, sAI_sAI] at ih
    have hm' := hm
    have m0 := hm'.1
    have f1263 : hFR _ 1263 348 = some 401 := (hm'.2 52 (by decide)).1
    have k401 : hK _ 401 = 52 := (hm'.2 52 (by decide)).2.1
    have n401 : hLN _ 401 = 4 := (hm'.2 52 (by decide)).2.2
    have e5 : (nI j < (4 : Int32)) = True := eq_true (nI_lt (b := 4) (by omega) (by decide))
    have ei : ∀ x, am_in (nI j) 4 x = x := am_inN (by omega) (by decide)
    have ti : Int32.toNatClampNeg (nI j) = j := nI_clamp (by omega)
    rw [q_X12_post_53]
    simp only [am_kd, m0, f1263, k401, n401, e5, if_true, bR_s, ei, ti, am_nar4_0, am_let_e, nI_1, sEI_e]
    exact ih
theorem m_fin1 {d : Nat} {y : AH} (hm : MSh y) : ∃ z, (am_kd y 348 13 (bR (hFR y 1248 348) fun r6 => am_kd y r6 50 (am_in (0 : Int32) (hLN y r6) (am_let (sEI y r6 (Int32.toNatClampNeg (0 : Int32)) (0 : Int32)) fun h7 => am_kd h7 348 13 (bR (hFR h7 1253 348) fun r8 => am_kd h7 r8 50 (am_in (0 : Int32) (hLN h7 r8) (am_let (sEI h7 r8 (Int32.toNatClampNeg (0 : Int32)) (0 : Int32)) fun h9 => am_kd h9 348 13 (bR (hFR h9 1256 348) fun r10 => am_kd h9 r10 50 (am_in (0 : Int32) (hLN h9 r10) (am_let (sEI h9 r10 (Int32.toNatClampNeg (0 : Int32)) (0 : Int32)) fun h11 => am_kd h11 348 13 (am_let (sFI h11 1264 348 (0 : Int32)) fun h12 => am_R PG (d + 1) 207 53 [some (.ref 348), some (.int ((0 : Int32)))] [] h12)))))))))) : Option Res) = am_R PG (d + 1) 207 53 [some (.ref 348), some (.int (nI 0))] [] z ∧ (hK z = hK y ∧ hFR z = hFR y ∧ hLN z = hLN y ∧ hAR z = hAR y ∧ hNX z = hNX y ∧ hAJ z = hAJ y ∧ hFJ z = hFJ y) ∧ (∀ a, a ≠ 386 → a ≠ 391 → a ≠ 394 → hAI z a = hAI y a) ∧ (∀ k a, (a ≠ 348 ∨ k ≠ 1264) → hFI z k a = hFI y k a) ∧ hAI z 386 0 = 0 ∧ hAI z 391 0 = 0 ∧ hAI z 394 0 = 0 ∧ hFI z 1264 348 = 0 := by
  have m0 := hm.1
  have f1248 : hFR _ 1248 348 = some 386 := (hm.2 37 (by decide)).1
  have k386 : hK _ 386 = 50 := (hm.2 37 (by decide)).2.1
  have n386 : hLN _ 386 = 6 := (hm.2 37 (by decide)).2.2
  have f1253 : hFR _ 1253 348 = some 391 := (hm.2 42 (by decide)).1
  have k391 : hK _ 391 = 50 := (hm.2 42 (by decide)).2.1
  have n391 : hLN _ 391 = 5 := (hm.2 42 (by decide)).2.2
  have f1256 : hFR _ 1256 348 = some 394 := (hm.2 45 (by decide)).1
  have k394 : hK _ 394 = 50 := (hm.2 45 (by decide)).2.1
  have n394 : hLN _ 394 = 5 := (hm.2 45 (by decide)).2.2
  have i0 : ∀ x, am_in (0 : Int32) 6 x = x := am_inN (i := 0) (by decide) (by decide)
  have i5 : ∀ x, am_in (0 : Int32) 5 x = x := am_inN (i := 0) (by decide) (by decide)
  obtain ⟨a, ea, a1, a2, a3⟩ : ∃ a, sEI y 386 0 0 = a ∧ hK a = hK y ∧ hFR a = hFR y ∧ hLN a = hLN y := ⟨_, rfl, rd_hK_sEI _ _ _ _, rd_hFR_sEI _ _ _ _, rd_hLN_sEI _ _ _ _⟩
  obtain ⟨b, eb, b1, b2, b3⟩ : ∃ b, sEI a 391 0 0 = b ∧ hK b = hK y ∧ hFR b = hFR y ∧ hLN b = hLN y := ⟨_, rfl, by rw [rd_hK_sEI, a1], by rw [rd_hFR_sEI, a2], by rw [rd_hLN_sEI, a3]⟩
  obtain ⟨c, ec, c1⟩ : ∃ c, sEI b 394 0 0 = c ∧ hK c = hK y := ⟨_, rfl, by rw [rd_hK_sEI, b1]⟩
  have p0 : hK a 348 = 13 := by rw [a1]; exact m0
  have p1 : hFR a 1253 348 = some 391 := by rw [a2]; exact f1253
  have p2 : hK a 391 = 50 := by rw [a1]; exact k391
  have p3 : hLN a 391 = 5 := by rw [a3]; exact n391
  have p4 : hK b 348 = 13 := by rw [b1]; exact m0
  have p5 : hFR b 1256 348 = some 394 := by rw [b2]; exact f1256
  have p6 : hK b 394 = 50 := by rw [b1]; exact k394
  have p7 : hLN b 394 = 5 := by rw [b3]; exact n394
  have p8 : hK c 348 = 13 := by rw [c1]; exact m0
  refine ⟨sFI c 1264 348 0, ?_, ⟨?_, ?_, ?_, ?_, ?_, ?_, ?_⟩, fun q e1 e2 e3 => ?_, fun k q e => ?_, ?_, ?_, ?_, ?_⟩
  · rw [am_kd_t m0, f1248, bR_s, am_kd_t k386, n386, i0, am_let_e, nI_cl0, ea, am_kd_t p0, p1, bR_s, am_kd_t p2, p3, i5, am_let_e, eb, am_kd_t p4, p5, bR_s, am_kd_t p6, p7, i5, am_let_e, ec, am_kd_t p8, am_let_e, nI_0]
  · rw [rd_hK_sFI, c1]
  · rw [rd_hFR_sFI, ← ec, rd_hFR_sEI, b2]
  · rw [rd_hLN_sFI, ← ec, rd_hLN_sEI, b3]
  · rw [rd_hAR_sFI, ← ec, rd_hAR_sEI, ← eb, rd_hAR_sEI, ← ea, rd_hAR_sEI]
  · rw [rd_hNX_sFI, ← ec, rd_hNX_sEI, ← eb, rd_hNX_sEI, ← ea, rd_hNX_sEI]
  · rw [rd_hAJ_sFI, ← ec, rd_hAJ_sEI, ← eb, rd_hAJ_sEI, ← ea, rd_hAJ_sEI]
  · rw [rd_hFJ_sFI, ← ec, rd_hFJ_sEI, ← eb, rd_hFJ_sEI, ← ea, rd_hFJ_sEI]
  · rw [rd_hAI_sFI, ← ec, sEI_ne _ _ _ e3, ← eb, sEI_ne _ _ _ e2, ← ea, sEI_ne _ _ _ e1]
  · rw [sFI_o _ _ (by omega), ← ec, rd_hFI_sEI, ← eb, rd_hFI_sEI, ← ea, rd_hFI_sEI]
  · rw [rd_hAI_sFI, ← ec, sEI_ne _ _ _ (by decide), ← eb, sEI_ne _ _ _ (by decide), ← ea, sEI_at, pk_us]
  · rw [rd_hAI_sFI, ← ec, sEI_ne _ _ _ (by decide), ← eb, sEI_at, pk_us]
  · rw [rd_hAI_sFI, ← ec, sEI_at, pk_us]
  · rw [sFI_at]
theorem HM_e (g : AH) (f : Nat → Int32) : HM g f (hAI g) (hFI g 1265 348, hFI g 1266 348, hFI g 1267 348, hFI g 1268 348) = sAI g 397 f := by
  have e : mV (sAI g 397 f) (hAI g) = mV (sAI g 397 f) (hAI (sAI g 397 f)) := by
    refine AH_ext rfl rfl rfl rfl rfl ?_ rfl rfl rfl
    funext b
    rw [rd_hAI_mV, rd_hAI_mV]
    dsimp only
    by_cases c : 375 ≤ b ∧ b ≤ 384
    · rw [if_pos c, if_pos c, sAI_ne _ _ (by omega)]
    · rw [if_neg c, if_neg c]
  have m := mF_self (sAI g 397 f)
  rw [rd_hFI_sAI] at m
  unfold HM
  rw [e, mV_self]
  exact m
theorem m_post1 {d np nc ne nw : Nat} {G g2 : AH} {S : Nat → Nat → Nat} (k0 : hK G 348 = 13) (kr : am_C PG (d + 7) 197 [.ref 348] (sFI G 1200 348 0) = some (some (.int 1), g2)) (hm : MSh g2) (hS : ∀ i j, i < 5 → j < 5 → hAI g2 356 (25 + (5 * i + j)) = nI (S i j)) (h9 : ∀ i j, S i j ≤ 9) (h0 : ∀ i j, (5 ≤ i ∨ 5 ≤ j) → S i j = 0) (n0 : hAI g2 350 5 = nI np) (n2 : hAI g2 350 7 = nI nc) (n3 : hAI g2 350 8 = nI ne) (n4 : hAI g2 350 9 = nI nw) (l1 : np ≤ 5) (l2 : nc ≤ 6) (l3 : ne ≤ 4) (l4 : nw ≤ 6) : ∃ g g4, am_C PG (d + 8) 207 [.ref 348] G = some (some (.int 0), g) ∧ LY g2 g4 S ∧ (hK g = hK g2 ∧ hFR g = hFR g2 ∧ hLN g = hLN g2 ∧ hAR g = hAR g2 ∧ hNX g = hNX g2 ∧ hFJ g = hFJ g2) ∧ hAJ g = hAJ g4 ∧ (∀ a, a ≠ 397 → a ≠ 386 → a ≠ 391 → a ≠ 394 → a ≠ 401 → hAI g a = hAI g4 a) ∧ hAI g 397 = enc (FQ (hAI g4) np nc ne (hAI g4 397)) ∧ (∀ k a, (a ≠ 348 ∨ k ≠ 1264) → hFI g k a = hFI g2 k a) ∧ hAI g 386 0 = 0 ∧ hAI g 391 0 = 0 ∧ hAI g 394 0 = 0 ∧ hFI g 1264 348 = 0 ∧ ∀ i, i < 4 → hAI g 401 i = 0 := by
  obtain ⟨g4, e4, y⟩ := m_lays (d := d + 5) hm hS h9 h0
  have y0 := y
  obtain ⟨y1, y2, y3, y4, y5, y6, y7, y8, y9, y10⟩ := y0
  have hm4 : MSh g4 := MSh.to (h := g2) y1 (fun k => by rw [y2]) y3 hm
  have x350 : ∀ i, i < 5 → hAI g4 350 i = hAI g2 350 (5 + i) := fun i hi => by
    rw [y8 350 (by decide), if_neg (by decide), if_pos ⟨by decide, by decide⟩]
    exact if_pos hi
  have mc : MoC g4 nc ne nw := ⟨by rw [x350 2 (by decide)]; exact n2, by rw [x350 3 (by decide)]; exact n3, by rw [x350 4 (by decide)]; exact n4, l2, l3, l4⟩
  have kf := c_fresh (d := d + 6) (g := g4) (f := hAI g4 397) (ρ := hAI g4) (w := (hFI g4 1265 348, hFI g4 1266 348, hFI g4 1267 348, hFI g4 1268 348)) hm4 (by rw [x350 0 (by decide)]; exact n0) mc l1
  rw [hm_self, HM_e] at kf
  obtain ⟨g5, e5, z1, z2, z3, z4, z5, z6, z7, z8⟩ : ∃ g5, sAI g4 397 (enc (FQ (hAI g4) np nc ne (hAI g4 397))) = g5 ∧ hK g5 = hK g4 ∧ hFR g5 = hFR g4 ∧ hLN g5 = hLN g4 ∧ hAR g5 = hAR g4 ∧ hNX g5 = hNX g4 ∧ hFJ g5 = hFJ g4 ∧ hAJ g5 = hAJ g4 ∧ hFI g5 = hFI g4 := ⟨_, rfl, rd_hK_sAI _ _ _, rd_hFR_sAI _ _ _, rd_hLN_sAI _ _ _, rd_hAR_sAI _ _ _, rd_hNX_sAI _ _ _, rd_hFJ_sAI _ _ _, rd_hAJ_sAI _ _ _, rd_hFI_sAI _ _ _⟩
  have a5 : hAI g5 397 = enc (FQ (hAI g4) np nc ne (hAI g4 397)) := by rw [← e5, sAI_at]
  have b5 : ∀ a, a ≠ 397 → hAI g5 a = hAI g4 a := fun a e => by rw [← e5, sAI_ne _ _ e]
  rw [e5] at kf
  have hm5 : MSh g5 := MSh.to (h := g4) z1 (fun k => by rw [z2]) z3 hm4
  obtain ⟨z, fz, ⟨w1, w2, w3, w4, w5, w6, w7⟩, w8, w9, w10, w11, w12, w13⟩ := m_fin1 (d := d + 7) hm5
  have hmz : MSh z := MSh.to (h := g5) w1 (fun k => by rw [w2]) w3 hm5
  have kl := r_mpost53 (d := d + 7) 4 0 rfl z hmz
  refine ⟨sAI z 401 (filH (hAI z 401) 0 3 0), g4, ?_, y, ⟨?_, ?_, ?_, ?_, ?_, ?_⟩, ?_, fun a e1 e2 e3 e6 e7 => ?_, ?_, fun k a e => ?_, ?_, ?_, ?_, ?_, fun i hi => ?_⟩
  · have p0 : hK (sFI G 1200 348 0) 348 = 13 := by rw [rd_hK_sFI]; exact k0
    have p2 : hK g2 348 = 13 := hm.1
    have p4 : hK g4 348 = 13 := hm4.1
    rw [q_X12_post, am_kd_t k0, am_let_e, am_kd_t p0, kr, bI_s, if_neg (by decide), am_kd_t p2, e4, bV_s, am_kd_t p4, kf, bV_s]
    exact fz.trans kl
  · rw [rd_hK_sAI, w1, z1, y1]
  · rw [rd_hFR_sAI, w2, z2, y2]
  · rw [rd_hLN_sAI, w3, z3, y3]
  · rw [rd_hAR_sAI, w4, z4, y4]
  · rw [rd_hNX_sAI, w5, z5, y5]
  · rw [rd_hFJ_sAI, w7, z6, y7]
  · rw [rd_hAJ_sAI, w6, z7]
  · rw [sAI_ne _ _ e7, w8 a e2 e3 e6, b5 a e1]
  · rw [sAI_ne _ _ (by decide), w8 _ (by decide) (by decide) (by decide), a5]
  · rw [rd_hFI_sAI, w9 k a e, z8, y6]
  · rw [sAI_ne _ _ (by decide), w10]
  · rw [sAI_ne _ _ (by decide), w11]
  · rw [sAI_ne _ _ (by decide), w12]
  · rw [rd_hFI_sAI, w13]
  · rw [sAI_at]
    unfold filH
    exact if_pos (by omega)
theorem m_post0 {d : Nat} {G g2 : AH} (k0 : hK G 348 = 13) (kr : am_C PG (d + 7) 197 [.ref 348] (sFI G 1200 348 0) = some (some (.int 0), g2)) (k2 : hK g2 348 = 13) : am_C PG (d + 8) 207 [.ref 348] G = some (some (.int (hFI g2 1209 348)), g2) := by
  have p0 : hK (sFI G 1200 348 0) 348 = 13 := by rw [rd_hK_sFI]; exact k0
  rw [q_X12_post, am_kd_t k0, am_let_e, am_kd_t p0, kr, bI_s, if_pos rfl, am_kd_t k2]
