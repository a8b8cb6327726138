/-! judged, both sides whole; the reference's row set aside and taken back. -/
/-- the reference's heap with the row set aside -/
def asd (g : AH) (f : Nat → Int32) : AH := sAI (sFI g 1200 348 0) 398 (cp 43 f (hAI g 398))
theorem asd_o (g : AH) (f : Nat → Int32) {a : Nat} (h : a ≠ 398) : hAI (asd g f) a = hAI g a := by
  unfold asd
  rw [sAI_ne _ _ h, rd_hAI_sFI]
theorem asd_K (g : AH) (f : Nat → Int32) : hK (asd g f) = hK g := rfl
theorem asd_R (g : AH) (f : Nat → Int32) : hFR (asd g f) = hFR g := rfl
theorem asd_L (g : AH) (f : Nat → Int32) : hLN (asd g f) = hLN g := rfl
theorem asd_398 (g : AH) (f : Nat → Int32) : hAI (asd g f) 398 = cp 43 f (hAI g 398) := by unfold asd; exact sAI_at _ _ _
theorem c_aside {d : Nat} {g : AH} {f : Nat → Int32} {ρ : Nat → Nat → Int32} {w : M4} (hm : MSh g) : am_C PG (d + 1) 201 [.ref 397, .int 0, .ref 398, .int 0] (HM (sFI g 1200 348 0) f ρ w) = some (none, HM (asd g f) f ρ w) := by
  have m0 := hm.1
  have f1259 : hFR _ 1259 348 = some 397 := (hm.2 48 (by decide)).1
  have k397 : hK _ 397 = 50 := (hm.2 48 (by decide)).2.1
  have n397 : hLN _ 397 = 43 := (hm.2 48 (by decide)).2.2
  have f1260 : hFR _ 1260 348 = some 398 := (hm.2 49 (by decide)).1
  have k398 : hK _ 398 = 50 := (hm.2 49 (by decide)).2.1
  have n398 : hLN _ 398 = 43 := (hm.2 49 (by decide)).2.2
  have k := c_copies (d := d) (r1 := 397) (r2 := 398) (n1 := 43) (n2 := 43) (a := 0) (b := 0) (h := HM (sFI g 1200 348 0) f ρ w) (by decide) (by rw [hm_K, rd_hK_sFI]; exact k397) (by rw [hm_K, rd_hK_sFI]; exact k398) (by rw [hm_L, rd_hLN_sFI]; exact n397) (by rw [hm_L, rd_hLN_sFI]; exact n398) (by decide) (by decide) (by decide) (by decide)
  rw [hm_at, hm_o _ _ _ _ (by decide) (by decide), rd_hAI_sFI, am_cpy0, hm_sAI _ _ _ _ _ (by decide) (by decide)] at k
  exact k
/-- taken back: the first 43 as they were -/
theorem c_back {d : Nat} {g : AH} {f u : Nat → Int32} {ρ : Nat → Nat → Int32} {w : M4} (hm : MSh g) : am_C PG (d + 1) 201 [.ref 398, .int 0, .ref 397, .int 0] (HM (asd g f) u ρ w) = some (none, HM (asd g f) (cp 43 f u) ρ w) := by
  have m0 := hm.1
  have f1259 : hFR _ 1259 348 = some 397 := (hm.2 48 (by decide)).1
  have k397 : hK _ 397 = 50 := (hm.2 48 (by decide)).2.1
  have n397 : hLN _ 397 = 43 := (hm.2 48 (by decide)).2.2
  have f1260 : hFR _ 1260 348 = some 398 := (hm.2 49 (by decide)).1
  have k398 : hK _ 398 = 50 := (hm.2 49 (by decide)).2.1
  have n398 : hLN _ 398 = 43 := (hm.2 49 (by decide)).2.2
  have k := c_copies (d := d) (r1 := 398) (r2 := 397) (n1 := 43) (n2 := 43) (a := 0) (b := 0) (h := HM (asd g f) u ρ w) (by decide) (by rw [hm_K, asd_K]; exact k398) (by rw [hm_K, asd_K]; exact k397) (by rw [hm_L, asd_L]; exact n398) (by rw [hm_L, asd_L]; exact n397) (by decide) (by decide) (by decide) (by decide)
  rw [hm_at, hm_o _ _ _ _ (by decide) (by decide), asd_398, am_cpy0, hm_397] at k
  have e : cp 43 (cp 43 f (hAI g 398)) u = cp 43 f u := by
    funext k
    unfold cp
    by_cases c : k < 43
    · rw [if_pos c, if_pos c, if_pos c]
    · rw [if_neg c, if_neg c]
  rw [e] at k
  exact k
theorem Lk.asd {g g2 : AH} {p np nc ne nw len n : Nat} {W : Int32 → Int32 → Int32 → Int32 → Int32} {f : Nat → Int32} (h : Lk g g2 p np nc ne nw len n W) : Lk g (asd g2 f) p np nc ne nw len n W := h.ref (asd_K _ _) (asd_R _ _) (asd_L _ _) (fun a ha => asd_o _ _ (by omega))
/-- both answer the same; the class's trial State and stack, the reference's working rows are used; the reference's row is what it was -/
theorem pr_judge {d d2 p np nc ne nw len n m : Nat} {W : Int32 → Int32 → Int32 → Int32 → Int32} {g g2 : AH} {a : Int32} {Q : MQv} {ρ : Nat → Nat → Int32} {w : M4} (L : Lk g g2 p np nc ne nw len n W) (ha : AhSh g 93 94) (hda : DaSh g 71) (hpb : p ≤ 30) (hc : hFI g 200 71 = nI m) (hc2 : hAI g2 386 0 = nI m) (hm40 : m ≤ 40)
    (hL : ∀ k, k < m → LR np nc ne (hAI g 72 k) (hAI g 73 k) (hAI g 74 k) (hAI g 75 k) (hAI g2 387 k) (hAI g2 388 k) (hAI g2 389 k) (hAI g2 390 k)) (hF : ∀ f, SR (hAI g2) np nc ne nw 0 (getS g (p + 17)) (FQ (hAI g2) np nc ne f)) (ha1 : ¬ a < 0) (ha2 : ¬ 2 < a) :
    ∃ r f T τ y u, am_C PG (d + 7) 1 [.ref 93, .ref p, .ref 71, .int a] g = some (some (.int r), putS (sAI g (p + 16) f) 94 T) ∧ am_C PG (d2 + 10) 237 [.ref 348, .int a] (HM g2 (enc Q) ρ w) = some (some (.int r), HM (asd g2 (enc Q)) (cp 43 (enc Q) u) τ y) := by
  have L2 := L.asd (f := enc Q)
  have hp17 : StSh g (p + 17) := L.1.1.2.2
  have h519 : hFR g 519 p = some (p + 17) := by
    obtain ⟨⟨⟨p0, pf1, pf2, pf3, pf4, pf5, pf6, pf7, pf8, pf9, pf10, pf11, pf12, pf13, pf14, pf17, pk1, pk2, pk3, pk4, pk5, pk6, pk7, pk8, pk9, pk10, pk11, pk12, pk13, pn1, pn2, pn3, pn4, pn5, pn6, pn7, pn8, pn9, pn10, pn11, pn12, pn13⟩, _, _⟩, _⟩ := L.1
    exact pf17
  have p0 := L.1.1.1.1
  have hm := L.2.2.2.1
  have hMC := L.2.2.2.2.2.1
  have h350 := L.2.2.2.2.2.2.1
  have hPR := L.2.2.2.2.2.2.2.1
  have hbd : np ≤ 5 ∧ nc ≤ 6 ∧ ne ≤ 4 ∧ nw ≤ 6 := ⟨L.1.2.2.2.2.2.1, L.1.2.2.2.2.2.2⟩
  have o : ∀ a, a ≠ 398 → hAI (asd g2 (enc Q)) a = hAI g2 a := fun a h => asd_o _ _ h
  have eF : FQ (hAI (asd g2 (enc Q))) np nc ne (enc Q) = FQ (hAI g2) np nc ne (enc Q) := FQ_M (o _ (by decide)) (o _ (by decide)) (o _ (by decide)) (o _ (by decide))
  have S0 : SR (hAI (asd g2 (enc Q))) np nc ne nw 0 (cpS (getS g (p + 17)) (getS g 94)) (FQ (hAI g2) np nc ne (enc Q)) := SR_M (o _ (by decide)) (o _ (by decide)) (SR_cpS hbd (hF (enc Q)))
  obtain ⟨a1, a2, a3⟩ := ha
  have s0 := a3.1
  have kc := c_copy (d := d + 5) (R := getS g 94) a3 hp17 (by omega)
  rw [putS_get] at kc
  have kf := c_fresh (d := d2 + 8) (f := enc Q) (ρ := ρ) (w := w) (L2.2.2.2.1) (L2.2.2.2.2.2.2.1) L2.2.2.2.2.2.1 hbd.1
  rw [eF] at kf
  have ks := c_aside (d := d2 + 8) (f := enc Q) (ρ := ρ) (w := w) hm
  obtain ⟨can, bad, f, T, Q', τ, y, hr, h1, h2, h3, h4⟩ := pr_judge0 (d := d) (d2 := d2) (a := a) (f0 := hAI g (p + 16)) (ρ := ρ) (w := w) L2 ⟨a1, a2, a3⟩ hda hpb hc (by rw [o _ (by decide)]; exact hc2) hm40 (fun k hk => by rw [o _ (by decide), o _ (by decide), o _ (by decide), o _ (by decide)]; exact hL k hk) S0 m (Nat.le_refl _)
  rw [sAI_self] at h3
  have hmm := hm
  have m0 := hmm.1
  have f1248 : hFR _ 1248 348 = some 386 := (hmm.2 37 (by decide)).1
  have k386 : hK _ 386 = 50 := (hmm.2 37 (by decide)).2.1
  have n386 : hLN _ 386 = 6 := (hmm.2 37 (by decide)).2.2
  have f1259 : hFR _ 1259 348 = some 397 := (hmm.2 48 (by decide)).1
  have k397 : hK _ 397 = 50 := (hmm.2 48 (by decide)).2.1
  have n397 : hLN _ 397 = 43 := (hmm.2 48 (by decide)).2.2
  have f1260 : hFR _ 1260 348 = some 398 := (hmm.2 49 (by decide)).1
  have k398 : hK _ 398 = 50 := (hmm.2 49 (by decide)).2.1
  have n398 : hLN _ 398 = 43 := (hmm.2 49 (by decide)).2.2
  have e0 : ∀ x, am_in (0 : Int32) 6 x = x := am_inN (i := 0) (by decide) (by decide)
  have e42 : ∀ x, am_in (42 : Int32) 43 x = x := am_inN (i := 42) (by decide) (by decide)
  have t42 : Int32.toNatClampNeg 42 = 42 := by decide
  have e6 : (nI m < nI m) = False := eq_false (nI_nlt (Nat.le_refl _) (by omega))
  have y0 : hFI (putS (sAI g (p + 16) f) 94 T) 200 71 = nI m := by rw [pS_fi _ _ (Or.inl (by decide)), rd_hFI_sAI, hc]
  have o0 : hAI (HM (asd g2 (enc Q)) (enc Q') τ y) 386 = hAI g2 386 := by rw [hm_o _ _ _ _ (by decide) (by decide), o _ (by decide)]
  have kb := c_back (d := d2 + 8) (f := enc Q) (u := enc Q') (ρ := τ) (w := y) hm
  have kp := c_paid (d := d + 5) (a := 94) (h := putS (sAI g (p + 16) f) 94 T) (PoC.put (L.scr (f := f)).1) (a3.to rfl rfl rfl)
  rw [pS_8, pS_far _ _ (by omega), sAI_ne _ _ (by omega)] at kp
  have hpd : sumN (fun w => if T.2.2.2.2.2.2.2.2 w = 1 then hAI g (p + 12) w else 0) nw = Q'.2 42 := SR_paid (P := rowsP g p) L2.2.2.2.2.2.2.2.1 h2
  rw [hpd] at kp
  have v1 : b2i (¬ a < 0 ∧ ¬ 2 < a) = 1 := b2i_t ⟨ha1, ha2⟩
  have z1 : ((1 : Int32) = 0) = False := eq_false (by decide)
  have a0 := hda.1
  have kc2 : am_C PG (d + 7) 1 [.ref 93, .ref p, .ref 71, .int a] g = am_R PG (d + 7) 1 20 [some (.ref 93), some (.ref p), some (.ref 71), some (.int a), some (.int can), some (.int bad), some (.int (nI m))] [] (putS (sAI g (p + 16) f) 94 T) := by
    rw [← h3, q_X0_judge]
    simp only [am_kd, a1, a2, p0, h519, s0, if_true, bR_s, kc, bV_s]
  have km2 : am_C PG (d2 + 10) 237 [.ref 348, .int a] (HM g2 (enc Q) ρ w) = am_R PG (d2 + 10) 237 41 [some (.ref 348), some (.int a), some (.int can), some (.int bad), some (.int (nI m))] [] (HM (asd g2 (enc Q)) (enc Q') τ y) := by
    rw [← h4, q_X12_judged]
    simp only [hm_K, am_kd, m0, if_true, am_let_e]
    rw [hm_sFI _ _ _ _ _ (Or.inr (Or.inl (by decide)))]
    simp only [c_within, bI_s, v1, z1, if_false, hm_K, hm_R, rd_hK_sFI, rd_hFR_sFI, asd_K, m0, f1248, k386, n386, f1259, k397, n397, f1260, k398, n398, if_true, bR_s, ks, bV_s, kf]
  rw [kc2, km2, q_X0_judge_20, q_X12_judged_41]
  simp only [rd_hK_putS, rd_hFR_putS, rd_hLN_putS, rd_hFJ_putS, rd_hAJ_putS, rd_hAR_putS, rd_hNX_putS, hm_K, hm_R, hm_L, hm_at, hm_E, hm_5, hm_6, hm_7, hm_8, hm_s5, hm_s6, hm_s7, hm_s8, asd_K, asd_R, asd_L, rd_hK_sAI, rd_hFR_sAI, am_kd, m0, f1248, k386, n386, f1259, k397, n397, f1260, k398, n398, a1, a2, a0, p0, if_true, if_false, y0, o0, hc2, e6, bR_s, e0, e42, t42, nI_cl0, kb, kp, bV_s, bI_s, enc_z Q' (Nat.le_refl 42)]
  by_cases c0 : a = 0
  · exact ⟨can, f, T, τ, y, enc Q', by rw [if_pos c0], by rw [if_pos c0]⟩
  · by_cases c1 : a = 1
    · exact ⟨bad, f, T, τ, y, enc Q', by rw [if_neg c0, if_pos c1], by rw [if_neg c0, if_pos c1]⟩
    · exact ⟨Q'.2 42, f, T, τ, y, enc Q', by rw [if_neg c0, if_neg c1], by rw [if_neg c0, if_neg c1]⟩
