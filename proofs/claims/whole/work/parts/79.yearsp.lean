/-! years, both sides whole. -/
theorem asd_fj (g : AH) (f : Nat → Int32) (k a : Nat) (v : Int64) : asd (sFJ g k a v) f = sFJ (asd g f) k a v := AH_ext rfl rfl rfl rfl rfl rfl rfl rfl rfl
theorem sFI_sFJ (g : AH) (k a j b : Nat) (v : Int64) (x : Int32) : sFJ (sFI g j b x) k a v = sFI (sFJ g k a v) j b x := AH_ext rfl rfl rfl rfl rfl rfl rfl rfl rfl
theorem pr_years {d d2 p np nc ne nw len n hr s0 m : Nat} {W : Int32 → Int32 → Int32 → Int32 → Int32} {g g2 : AH} {a : Int32} {Q : MQv} {ρ : Nat → Nat → Int32} {w : M4} (L : Lk g g2 p np nc ne nw len n W) (ha : AhSh g 93 94) (h62 : StSh g 62) (hpb : p ≤ 30) (hS : SR (hAI g2) np nc ne nw hr (getS g 62) Q) (hs0 : s0 ≤ 9999) (hm1 : 1 ≤ m) (hm2 : m ≤ 400) (hh : hr + m < 2 ^ 31) (ha1 : ¬ a < 0) (ha2 : ¬ 2 < a) :
    ∃ r x z f T τ y u, am_C PG (d + 5) 12 [.ref 93, .ref p, .ref 62, .int (nI s0), .int (nI m), .int a] g = some (some (.int r), putS (sAI (sFJ g 2 93 x) (p + 16) f) 94 T) ∧ am_C PG (d2 + 8) 266 [.ref 348, .int (nI s0), .int (nI m), .int a] (HM g2 (enc Q) ρ w) = some (some (.int r), HM (sFJ (asd g2 (enc Q)) 1281 348 z) (cp 43 (enc Q) u) τ y) := by
  have L2 := L.asd (f := enc Q)
  have p0 := L.1.1.1.1
  have hm := L.2.2.2.1
  have hbd : np ≤ 5 ∧ nc ≤ 6 ∧ ne ≤ 4 ∧ nw ≤ 6 := ⟨L.1.2.2.2.2.2.1, L.1.2.2.2.2.2.2⟩
  have o : ∀ a, a ≠ 398 → hAI (asd g2 (enc Q)) a = hAI g2 a := fun a h => asd_o _ _ h
  have S0 : SR (hAI (asd g2 (enc Q))) np nc ne nw hr (getS g 62) Q := SR_M (o _ (by decide)) (o _ (by decide)) hS
  have kc := c_copy (d := d + 3) (R := getS g 94) ha.2.2 h62 (by decide)
  rw [putS_get] at kc
  have ks := c_aside (d := d2 + 6) (g := sFJ g2 1281 348 (lN s0)) (f := enc Q) (ρ := ρ) (w := w) (hm.to rfl (fun _ => rfl) rfl)
  rw [asd_fj] at ks
  obtain ⟨u, T, τ, y, S1, k1, k2⟩ := pr_years0 (d := d) (d2 := d2) (f := hAI (sFJ g 2 93 (lN s0)) (p + 16)) (ρ := ρ) (w := w) (a := a) L2 ha hpb (SR_cpS (T := getS g 94) hbd S0) hh (show s0 < 2147483648 by omega) m (Nat.le_refl _)
  rw [sAI_self] at k1
  generalize ysn nc s0 m = sm at k1 k2
  generalize yQs W (hAI (asd g2 (enc Q))) nc ne nw hr s0 Q m = Q' at S1 k2
  have ei : (nI s0).toInt64 = lN s0 := nI_l (by omega)
  have hmm := hm
  have m0 := hmm.1
  have f1259 : hFR _ 1259 348 = some 397 := (hmm.2 48 (by decide)).1
  have k397 : hK _ 397 = 50 := (hmm.2 48 (by decide)).2.1
  have n397 : hLN _ 397 = 43 := (hmm.2 48 (by decide)).2.2
  have f1260 : hFR _ 1260 348 = some 398 := (hmm.2 49 (by decide)).1
  have k398 : hK _ 398 = 50 := (hmm.2 49 (by decide)).2.1
  have n398 : hLN _ 398 = 43 := (hmm.2 49 (by decide)).2.2
  obtain ⟨a1, a2, a3⟩ := ha
  have st0 := a3.1
  have v1 : b2i (¬ nI s0 < 0 ∧ ¬ 9999 < nI s0) = 1 := b2i_t ⟨nI_pos (by omega), nI_nlt (a := 9999) hs0 (by decide)⟩
  have v2 : b2i (¬ nI m < 1 ∧ ¬ 400 < nI m) = 1 := b2i_t ⟨nI_nlt (b := 1) hm1 (by omega), nI_nlt (a := 400) hm2 (by decide)⟩
  have v3 : b2i (¬ a < 0 ∧ ¬ 2 < a) = 1 := b2i_t ⟨ha1, ha2⟩
  have z1 : ((1 : Int32) = 0) = False := eq_false (by decide)
  have kA : am_C PG (d + 5) 12 [.ref 93, .ref p, .ref 62, .int (nI s0), .int (nI m), .int a] g = am_R PG (d + 5) 12 17 [some (.ref 93), some (.ref p), some (.ref 62), none, some (.int (nI m)), some (.int a), some (.int (nI m)), none, none] [] (putS (sAI (sFJ g 2 93 (lN sm)) (p + 16) u) 94 T) := by
    rw [← k1, q_X0_drawnYears]
    simp only [rd_hK_putS, rd_hFR_putS, rd_hLN_putS, rd_hFJ_putS, rd_hAJ_putS, rd_hAR_putS, rd_hNX_putS, am_kd, a1, a2, st0, if_true, bR_s, kc, bV_s, am_let_e, ei, sFJ_putS]
  have kB : am_C PG (d2 + 8) 266 [.ref 348, .int (nI s0), .int (nI m), .int a] (HM g2 (enc Q) ρ w) = am_R PG (d2 + 8) 266 60 [some (.ref 348), none, some (.int (nI m)), some (.int a), some (.int (nI m))] [] (HM (sFJ (asd g2 (enc Q)) 1281 348 (lN sm)) (enc Q') τ y) := by
    rw [← k2, q_X12_years]
    simp only [hm_K, am_kd, m0, if_true, am_let_e]
    rw [hm_sFI _ _ _ _ _ (Or.inr (Or.inl (by decide)))]
    simp only [c_within, bI_s, v1, v2, v3, z1, if_false, hm_K, hm_R, rd_hK_sFI, rd_hFR_sFI, rd_hK_sFJ, rd_hFR_sFJ, rd_hLN_sFJ, rd_hAI_sFJ, rd_hK_sAI, rd_hFR_sAI, rd_hLN_sAI, ei, sFJ_HM, sFI_sFJ, m0, f1259, k397, n397, f1260, k398, n398, if_true, bR_s, ks, bV_s]
  have nm : ¬ nI m < nI m := nI_nlt (Nat.le_refl _) (by omega)
  have kb := c_back (d := d2 + 6) (g := sFJ g2 1281 348 (lN sm)) (f := enc Q) (u := enc Q') (ρ := τ) (w := y) (hm.to rfl (fun _ => rfl) rfl)
  rw [asd_fj] at kb
  generalize lN sm = xs at kA kB kb
  have o8 : hAI (HM (sFJ (asd g2 (enc Q)) 1281 348 xs) (enc Q') τ y) 398 = cp 43 (enc Q) (hAI g2 398) := by rw [hm_o _ _ _ _ (by decide) (by decide), rd_hAI_sFJ, asd_398]
  have hpo : PoC (putS (sAI (sFJ g 2 93 xs) (p + 16) u) 94 T) p np nc ne nw := PoC.put ((L.fj (k := 2) (a := 93) (v := xs)).scr (f := u)).1
  have t94 : StSh (putS (sAI (sFJ g 2 93 xs) (p + 16) u) 94 T) 94 := a3.to rfl rfl rfl
  have t62 : StSh (putS (sAI (sFJ g 2 93 xs) (p + 16) u) 94 T) 62 := h62.to rfl rfl rfl
  have far : ∀ j, j ≤ 94 → j ≠ p + 16 → hAI (putS (sAI (sFJ g 2 93 xs) (p + 16) u) 94 T) j = hAI g j := fun j h1 h2 => by rw [pS_far _ _ (Or.inl h1), sAI_ne _ _ h2, rd_hAI_sFJ]
  rw [kA, kB, q_X0_drawnYears_17, if_neg nm, q_X12_years_60, if_neg nm]
  by_cases c0 : a = 0
  · have q1 := c_paid (d := d + 3) (a := 94) hpo t94
    have q2 := c_paid (d := d + 3) (a := 62) hpo t62
    rw [pS_8, far _ (by omega) (by omega)] at q1
    rw [far _ (by omega) (by omega), far _ (by omega) (by omega)] at q2
    have r1 : sumN (fun w => if T.2.2.2.2.2.2.2.2 w = 1 then hAI g (p + 12) w else 0) nw = Q'.2 42 := SR_paid (P := rowsP g p) L2.2.2.2.2.2.2.2.1 S1
    have r2 : sumN (fun w => if hAI g (62 + 8) w = 1 then hAI g (p + 12) w else 0) nw = Q.2 42 := SR_paid (P := rowsP g p) L2.2.2.2.2.2.2.2.1 S0
    rw [r1] at q1
    rw [r2] at q2
    have e42 : ∀ x, am_in (42 : Int32) 43 x = x := am_inN (i := 42) (by decide) (by decide)
    have t42 : Int32.toNatClampNeg 42 = 42 := by decide
    refine ⟨Q'.2 42 - Q.2 42, xs, xs, u, T, τ, y, enc Q', ?_, ?_⟩
    · simp only [if_pos c0, rd_hK_putS, rd_hFR_putS, rd_hLN_putS, rd_hFJ_putS, rd_hAJ_putS, rd_hAR_putS, rd_hNX_putS, rd_hK_sFJ, rd_hFR_sFJ, rd_hLN_sFJ, rd_hAI_sFJ, rd_hK_sAI, rd_hFR_sAI, rd_hLN_sAI, am_kd, a1, a2, p0, if_true, bR_s, q1, q2, bI_s]
    · simp only [if_pos c0, hm_K, hm_R, hm_L, hm_at, rd_hK_sFJ, rd_hFR_sFJ, rd_hLN_sFJ, rd_hAI_sFJ, rd_hK_sAI, rd_hFR_sAI, rd_hLN_sAI, asd_K, asd_R, asd_L, am_kd, m0, f1259, k397, n397, f1260, k398, n398, if_true, bR_s, e42, t42, o8, cp_in (show 42 < 43 by decide), enc_z Q (Nat.le_refl 42), enc_z Q' (Nat.le_refl 42), kb, bV_s]
  · by_cases c1 : a = 1
    · have q1 := c_dry (d := d + 3) (a := 94) hpo t94
      have q2 := c_dry (d := d + 3) (a := 62) hpo t62
      rw [pS_6] at q1
      rw [far _ (by omega) (by omega)] at q2
      have r1 := SR_drysum hbd.2.2.1 S1
      have r2 := SR_drysum hbd.2.2.1 S0
      have j1 := c_msum (d := d2 + 6) (r := 397) (a := 32) (n := 4) (len := 43) (h := HM (sFJ (asd g2 (enc Q)) 1281 348 xs) (enc Q') τ y) (by rw [hm_K, rd_hK_sFJ, asd_K]; exact k397) (by rw [hm_L, rd_hLN_sFJ, asd_L]; exact n397) (by decide) (by decide)
      have j2 := c_msum (d := d2 + 6) (r := 398) (a := 32) (n := 4) (len := 43) (h := HM (sFJ (asd g2 (enc Q)) 1281 348 xs) (enc Q') τ y) (by rw [hm_K, rd_hK_sFJ, asd_K]; exact k398) (by rw [hm_L, rd_hLN_sFJ, asd_L]; exact n398) (by decide) (by decide)
      rw [hm_at, r1] at j1
      rw [o8, sumN_congr (g := fun i => enc Q (32 + i)) 4 (fun i hi => cp_in (by omega)), r2] at j2
      have e32 : (32 : Int32) = nI 32 := rfl
      have e4 : (4 : Int32) = nI 4 := rfl
      rw [← e32, ← e4] at j1 j2
      refine ⟨sumN T.2.2.2.2.2.2.1 ne - sumN (getS g 62).2.2.2.2.2.2.1 ne, xs, xs, u, T, τ, y, enc Q', ?_, ?_⟩
      · simp only [if_neg c0, if_pos c1, rd_hK_putS, rd_hFR_putS, rd_hLN_putS, rd_hFJ_putS, rd_hAJ_putS, rd_hAR_putS, rd_hNX_putS, rd_hK_sFJ, rd_hFR_sFJ, rd_hLN_sFJ, rd_hAI_sFJ, rd_hK_sAI, rd_hFR_sAI, rd_hLN_sAI, am_kd, a1, a2, p0, if_true, bR_s, q1, q2, bI_s]
        rfl
      · simp only [if_neg c0, if_pos c1, hm_K, hm_R, hm_L, hm_at, rd_hK_sFJ, rd_hFR_sFJ, rd_hLN_sFJ, rd_hAI_sFJ, rd_hK_sAI, rd_hFR_sAI, rd_hLN_sAI, asd_K, asd_R, asd_L, am_kd, m0, f1259, k397, n397, f1260, k398, n398, if_true, bR_s, j1, j2, bI_s, kb, bV_s]
    · have q1 := c_stillOnes (d := d + 3) hpo ⟨a1, a2, t94⟩
      have e97 : hAI (putS (sAI (sFJ g 2 93 xs) (p + 16) u) 94 T) 97 = T.2.2.2.1 := pS_3 _ 94 _
      rw [e97] at q1
      have r1 := SR_stillsum hbd.2.1 S1
      have j1 := c_msum (d := d2 + 6) (r := 397) (a := 18) (n := 6) (len := 43) (h := HM (sFJ (asd g2 (enc Q)) 1281 348 xs) (enc Q') τ y) (by rw [hm_K, rd_hK_sFJ, asd_K]; exact k397) (by rw [hm_L, rd_hLN_sFJ, asd_L]; exact n397) (by decide) (by decide)
      rw [hm_at, r1] at j1
      have e18 : (18 : Int32) = nI 18 := rfl
      have e6 : (6 : Int32) = nI 6 := rfl
      rw [← e18, ← e6] at j1
      refine ⟨sumN T.2.2.2.1 nc, xs, xs, u, T, τ, y, enc Q', ?_, ?_⟩
      · simp only [if_neg c0, if_neg c1, rd_hK_putS, rd_hFR_putS, rd_hLN_putS, rd_hFJ_putS, rd_hAJ_putS, rd_hAR_putS, rd_hNX_putS, rd_hK_sFJ, rd_hFR_sFJ, rd_hLN_sFJ, rd_hAI_sFJ, rd_hK_sAI, rd_hFR_sAI, rd_hLN_sAI, am_kd, a1, if_true, q1, bI_s]
      · simp only [if_neg c0, if_neg c1, hm_K, hm_R, hm_L, hm_at, rd_hK_sFJ, rd_hFR_sFJ, rd_hLN_sFJ, rd_hAI_sFJ, rd_hK_sAI, rd_hFR_sAI, rd_hLN_sAI, asd_K, asd_R, am_kd, m0, f1259, k397, n397, f1260, k398, n398, if_true, bR_s, j1, bI_s, kb, bV_s]
