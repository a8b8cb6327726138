/-! years: an hour of the drawn years on both sides. -/
theorem c_mhourJ {d p np nc ne nw len n hr : Nat} {W : Int32 → Int32 → Int32 → Int32 → Int32} {g g2 : AH} {R : SV} {Q : MQv} {ρ : Nat → Nat → Int32} {w : M4} {v : Int64} (L : Lk g g2 p np nc ne nw len n W) (hS : SR (hAI g2) np nc ne nw hr R Q) (hh : hr < 2 ^ 31) : ∃ τ y, am_C PG (d + 6) 215 [.ref 348] (HM (sFJ g2 1281 348 v) (enc Q) ρ w) = some (none, HM (sFJ g2 1281 348 v) (enc (mhour W (hAI g2) nc ne nw hr Q)) τ y) := by
  obtain ⟨h1, h2, h3, h4, h5, h6, h7, h8, h9⟩ := L
  obtain ⟨u1, u2, u3⟩ := SR_cap h8 hS
  exact c_mhour (dp := d) (g := sFJ g2 1281 348 v) (ρ := ρ) (w := w) (h4.to rfl (fun _ => rfl) rfl) (h5.to rfl rfl rfl) h6 (PRow_T h8) hh u1 u2 u3
theorem dlot_lt (n : Nat) : dlot n < 20 := by
  unfold dlot
  exact Nat.mod_lt _ (by decide)
theorem dcl_lt {nc : Nat} (n : Nat) (h : 0 < nc) : dcl nc n < nc := by
  unfold dcl
  exact Nat.mod_lt _ h
theorem c_mdr20 {d sd : Nat} {g2 : AH} {f : Nat → Int32} {ρ : Nat → Nat → Int32} {w : M4} (m0 : hK g2 348 = 13) (hsd : sd < 2147483648) : am_C PG (d + 1) 263 [.ref 348, .int 20] (HM (sFJ g2 1281 348 (lN sd)) f ρ w) = some (some (.int (nI (dlot sd))), HM (sFJ g2 1281 348 (lN (dN sd))) f ρ w) := by
  have kd := c_mdraw (d := d) (n := sd) (m := 20) (h := HM (sFJ g2 1281 348 (lN sd)) f ρ w) (by rw [hm_K, rd_hK_sFJ]; exact m0) (by rw [hm_J, sFJ_at]) hsd (by decide) (by decide)
  rw [sFJ_HM, sFJ_sFJ] at kd
  have e : (20 : Int32) = nI 20 := rfl
  unfold dlot
  rw [e]
  exact kd
theorem c_mdrc {d sd nc : Nat} {g2 : AH} {f : Nat → Int32} {ρ : Nat → Nat → Int32} {w : M4} (m0 : hK g2 348 = 13) (h0 : 0 < nc) (h6 : nc ≤ 6) : am_C PG (d + 1) 263 [.ref 348, .int (nI nc)] (HM (sFJ g2 1281 348 (lN (dN sd))) f ρ w) = some (some (.int (nI (dcl nc sd))), HM (sFJ g2 1281 348 (lN (dN (dN sd)))) f ρ w) := by
  have kd := c_mdraw (d := d) (n := dN sd) (m := nc) (h := HM (sFJ g2 1281 348 (lN (dN sd))) f ρ w) (by rw [hm_K, rd_hK_sFJ]; exact m0) (by rw [hm_J, sFJ_at]) (dN_lt _) h0 (by omega)
  rw [sFJ_HM, sFJ_sFJ] at kd
  unfold dcl
  exact kd
theorem c_mlv_none {d p np nc ne nw len n hr lot : Nat} {x0 x1 : Int64} {W : Int32 → Int32 → Int32 → Int32 → Int32} {g g2 : AH} {R : SV} {Q : MQv} {ρ : Nat → Nat → Int32} {w : M4} (L : Lk g g2 p np nc ne nw len n W) (hS : SR (hAI g2) np nc ne nw hr R Q) (hh : hr < 2 ^ 31) (kd : am_C PG (d + 6) 263 [.ref 348, .int 20] (HM (sFJ g2 1281 348 x0) (enc Q) ρ w) = some (some (.int (nI lot)), HM (sFJ g2 1281 348 x1) (enc Q) ρ w)) (hd20 : lot < 20) (c0 : ¬ lot = 0) (c1 : ¬ (lot = 1 ∧ 0 < nc)) :
    ∃ τ y, am_C PG (d + 7) 264 [.ref 348] (HM (sFJ g2 1281 348 (x0)) (enc Q) ρ w) = some (none, HM (sFJ g2 1281 348 x1) (enc (mhour W (hAI g2) nc ne nw hr Q)) τ y) := by
  have hm := L.2.2.2.1
  obtain ⟨n2, n3, n4, c2, c3, c4⟩ := L.2.2.2.2.2.1
  have m0 := hm.1
  have f1210 : hFR _ 1210 348 = some 350 := (hm.2 1 (by decide)).1
  have k350 : hK _ 350 = 50 := (hm.2 1 (by decide)).2.1
  have n350 : hLN _ 350 = 10 := (hm.2 1 (by decide)).2.2
  have f1219 : hFR _ 1219 348 = some 359 := (hm.2 10 (by decide)).1
  have k359 : hK _ 359 = 50 := (hm.2 10 (by decide)).2.1
  have n359 : hLN _ 359 = 12 := (hm.2 10 (by decide)).2.2
  have f1259 : hFR _ 1259 348 = some 397 := (hm.2 48 (by decide)).1
  have k397 : hK _ 397 = 50 := (hm.2 48 (by decide)).2.1
  have n397 : hLN _ 397 = 43 := (hm.2 48 (by decide)).2.2
  have i2 : Int32.toNatClampNeg 2 = 2 := by decide
  have x2 : ∀ x, am_in (2 : Int32) 10 x = x := am_inN (i := 2) (by decide) (by decide)
  have o0 : ∀ G u ρ w, hAI (HM G u ρ w) 350 = hAI G 350 := fun G u ρ w => hm_o _ _ _ _ (by decide) (by decide)
  have o9 : ∀ G u ρ w, hAI (HM G u ρ w) 359 = hAI G 359 := fun G u ρ w => hm_o _ _ _ _ (by decide) (by decide)
  have z0 : (nI (lot) = (0 : Int32)) = False := eq_false (nI_ne0 (by omega) (by omega))
  obtain ⟨τ, y, kh⟩ := c_mhourJ (d := d) (ρ := ρ) (w := w) (v := x1) L hS hh
  refine ⟨τ, y, ?_⟩
  rw [q_X12_livesHour]
  by_cases c5 : lot = 1
  · have z1 : (nI (lot) = (1 : Int32)) = True := eq_true (by rw [c5]; rfl)
    have zn : ((0 : Int32) < nI nc) = False := eq_false (by
      have : nc = 0 := by
        by_cases q : 0 < nc
        · exact absurd ⟨c5, q⟩ c1
        · omega
      rw [this]
      decide)
    simp only [hm_K, hm_R, hm_L, hm_at, hm_E, hm_5, hm_6, hm_7, hm_8, hm_s5, hm_s6, hm_s7, hm_s8, rd_hK_sFJ, rd_hFR_sFJ, rd_hLN_sFJ, rd_hAI_sFJ, am_kd, m0, f1210, k350, n350, f1219, k359, n359, f1259, k397, n397, if_true, if_false, kd, bI_s, z0, z1, bR_s, x2, i2, o0, n2, zn, kh, bV_s]
  · have z1 : (nI (lot) = (1 : Int32)) = False := eq_false (fun z => c5 ((nI_eq (b := 1) (by omega) (by decide)).1 z))
    simp only [hm_K, hm_R, hm_L, hm_at, hm_E, hm_5, hm_6, hm_7, hm_8, hm_s5, hm_s6, hm_s7, hm_s8, rd_hK_sFJ, rd_hFR_sFJ, rd_hLN_sFJ, rd_hAI_sFJ, am_kd, m0, f1210, k350, n350, f1219, k359, n359, f1259, k397, n397, if_true, if_false, kd, bI_s, z0, z1, kh, bV_s]
theorem c_mlv_half {d p np nc ne nw len n hr lot c : Nat} {x0 x1 v2 : Int64} {W : Int32 → Int32 → Int32 → Int32 → Int32} {g g2 : AH} {R : SV} {Q : MQv} {ρ : Nat → Nat → Int32} {w : M4} (L : Lk g g2 p np nc ne nw len n W) (hS : SR (hAI g2) np nc ne nw hr R Q) (hh : hr < 2 ^ 31) (kd : am_C PG (d + 6) 263 [.ref 348, .int 20] (HM (sFJ g2 1281 348 x0) (enc Q) ρ w) = some (some (.int (nI lot)), HM (sFJ g2 1281 348 x1) (enc Q) ρ w)) (hd20 : lot < 20) (c1 : lot = 1) (hpos : 0 < nc) (hc : c < nc) (kd2 : am_C PG (d + 6) 263 [.ref 348, .int (nI nc)] (HM (sFJ g2 1281 348 x1) (enc Q) ρ w) = some (some (.int (nI c)), HM (sFJ g2 1281 348 v2) (enc Q) ρ w)) (S1 : ∃ R, SR (hAI g2) np nc ne nw hr R (xhas (c) (Q.1.2.1 (c) - Q.1.2.1 (c) / 2) Q.1, Q.2)) :
    ∃ τ y, am_C PG (d + 7) 264 [.ref 348] (HM (sFJ g2 1281 348 (x0)) (enc Q) ρ w) = some (none, HM (sFJ g2 1281 348 v2) (enc (mhour W (hAI g2) nc ne nw hr (xhas (c) (Q.1.2.1 (c) - Q.1.2.1 (c) / 2) Q.1, Q.2))) τ y) := by
  have hm := L.2.2.2.1
  obtain ⟨n2, n3, n4, c2, c3, c4⟩ := L.2.2.2.2.2.1
  have m0 := hm.1
  have f1210 : hFR _ 1210 348 = some 350 := (hm.2 1 (by decide)).1
  have k350 : hK _ 350 = 50 := (hm.2 1 (by decide)).2.1
  have n350 : hLN _ 350 = 10 := (hm.2 1 (by decide)).2.2
  have f1219 : hFR _ 1219 348 = some 359 := (hm.2 10 (by decide)).1
  have k359 : hK _ 359 = 50 := (hm.2 10 (by decide)).2.1
  have n359 : hLN _ 359 = 12 := (hm.2 10 (by decide)).2.2
  have f1259 : hFR _ 1259 348 = some 397 := (hm.2 48 (by decide)).1
  have k397 : hK _ 397 = 50 := (hm.2 48 (by decide)).2.1
  have n397 : hLN _ 397 = 43 := (hm.2 48 (by decide)).2.2
  have i2 : Int32.toNatClampNeg 2 = 2 := by decide
  have x2 : ∀ x, am_in (2 : Int32) 10 x = x := am_inN (i := 2) (by decide) (by decide)
  have o0 : ∀ G u ρ w, hAI (HM G u ρ w) 350 = hAI G 350 := fun G u ρ w => hm_o _ _ _ _ (by decide) (by decide)
  have o9 : ∀ G u ρ w, hAI (HM G u ρ w) 359 = hAI G 359 := fun G u ρ w => hm_o _ _ _ _ (by decide) (by decide)
  have c0 : ¬ lot = 0 := by rw [c1]; decide
  have z0 : (nI (lot) = (0 : Int32)) = False := eq_false (nI_ne0 (by omega) (by omega))
  obtain ⟨R1, S1⟩ := S1
  obtain ⟨τ, y, kh⟩ := c_mhourJ (d := d) (ρ := ρ) (w := w) (v := v2) L S1 hh
  refine ⟨τ, y, ?_⟩
  have z1 : (nI (lot) = (1 : Int32)) = True := eq_true (by rw [c1]; rfl)
  have zn : ((0 : Int32) < nI nc) = True := eq_true (nI_lt (a := 0) hpos (by omega))
  have a1 : (6 : Int32) + nI c = nI (6 + c) := nI_add 6 c
  have e2 : ∀ x, am_in (nI (6 + c)) 43 x = x := am_inN (by omega) (by decide)
  have t2 : Int32.toNatClampNeg (nI (6 + c)) = 6 + c := nI_clamp (by omega)
  have d2 : ∀ x, am_dz (2 : Int32) x = x := fun x => am_dz_t (by decide) x
  have ex : enc (xhas c (Q.1.2.1 c - Q.1.2.1 c / 2) Q.1, Q.2) = upd (enc Q) (6 + c) (Q.1.2.1 c - Q.1.2.1 c / 2) := (enu_h Q (show c < 6 by omega) _).symm
  rw [ex] at kh
  rw [q_X12_livesHour]
  simp only [hm_K, hm_R, hm_L, hm_at, hm_E, hm_5, hm_6, hm_7, hm_8, hm_s5, hm_s6, hm_s7, hm_s8, rd_hK_sFJ, rd_hFR_sFJ, rd_hLN_sFJ, rd_hAI_sFJ, am_kd, m0, f1210, k350, n350, f1219, k359, n359, f1259, k397, n397, if_true, if_false, kd, bI_s, z0, z1, bR_s, x2, i2, o0, n2, zn, kd2, a1, e2, t2, d2, enc_h Q (show c < 6 by omega), am_let_e, kh, bV_s]
theorem c_mlv_rain {d p np nc ne nw len n hr lot : Nat} {x0 x1 : Int64} {W : Int32 → Int32 → Int32 → Int32 → Int32} {g g2 : AH} {R : SV} {Q : MQv} {ρ : Nat → Nat → Int32} {w : M4} (L : Lk g g2 p np nc ne nw len n W) (hS : SR (hAI g2) np nc ne nw hr R Q) (hh : hr < 2 ^ 31) (kd : am_C PG (d + 6) 263 [.ref 348, .int 20] (HM (sFJ g2 1281 348 x0) (enc Q) ρ w) = some (some (.int (nI lot)), HM (sFJ g2 1281 348 x1) (enc Q) ρ w)) (hd20 : lot < 20) (c0 : lot = 0) (S1 : ∃ R, SR (hAI g2) np nc ne nw hr R (xrain nc (hAI g2 359) Q.1, Q.2)) :
    ∃ τ y, am_C PG (d + 7) 264 [.ref 348] (HM (sFJ g2 1281 348 (x0)) (enc Q) ρ w) = some (none, HM (sFJ g2 1281 348 x1) (enc (mhour W (hAI g2) nc ne nw hr (xrain nc (hAI g2 359) Q.1, Q.2))) τ y) := by
  have hm := L.2.2.2.1
  obtain ⟨n2, n3, n4, c2, c3, c4⟩ := L.2.2.2.2.2.1
  have m0 := hm.1
  have f1210 : hFR _ 1210 348 = some 350 := (hm.2 1 (by decide)).1
  have k350 : hK _ 350 = 50 := (hm.2 1 (by decide)).2.1
  have n350 : hLN _ 350 = 10 := (hm.2 1 (by decide)).2.2
  have f1219 : hFR _ 1219 348 = some 359 := (hm.2 10 (by decide)).1
  have k359 : hK _ 359 = 50 := (hm.2 10 (by decide)).2.1
  have n359 : hLN _ 359 = 12 := (hm.2 10 (by decide)).2.2
  have f1259 : hFR _ 1259 348 = some 397 := (hm.2 48 (by decide)).1
  have k397 : hK _ 397 = 50 := (hm.2 48 (by decide)).2.1
  have n397 : hLN _ 397 = 43 := (hm.2 48 (by decide)).2.2
  have i2 : Int32.toNatClampNeg 2 = 2 := by decide
  have x2 : ∀ x, am_in (2 : Int32) 10 x = x := am_inN (i := 2) (by decide) (by decide)
  have o0 : ∀ G u ρ w, hAI (HM G u ρ w) 350 = hAI G 350 := fun G u ρ w => hm_o _ _ _ _ (by decide) (by decide)
  have o9 : ∀ G u ρ w, hAI (HM G u ρ w) 359 = hAI G 359 := fun G u ρ w => hm_o _ _ _ _ (by decide) (by decide)
  obtain ⟨R1, S1⟩ := S1
  obtain ⟨τ, y, kh⟩ := c_mhourJ (d := d) (ρ := ρ) (w := w) (v := x1) L S1 hh
  refine ⟨τ, y, ?_⟩
  rw [c0] at kd
  have z0 : (nI 0 = (0 : Int32)) = True := eq_true rfl
  have lp : ∀ i, i ≤ nc → am_C PG (d + 7) 264 [.ref 348] (HM (sFJ g2 1281 348 (x0)) (enc Q) ρ w) = am_R PG (d + 7) 264 13 [some (.ref 348), some (.int (nI 0)), some (.int (nI i))] [] (HM (sFJ g2 1281 348 x1) (enc (xrain i (hAI g2 359) Q.1, Q.2)) ρ w) := by
    intro i
    induction i with
    | zero =>
      intro _
      unfold xrain
      rw [q_X12_livesHour, cp_0]
      simp only [hm_K, hm_R, hm_L, hm_at, hm_E, hm_5, hm_6, hm_7, hm_8, hm_s5, hm_s6, hm_s7, hm_s8, rd_hK_sFJ, rd_hFR_sFJ, rd_hLN_sFJ, rd_hAI_sFJ, am_kd, m0, if_true, kd, bI_s, z0]
      rfl
    | succ i ih =>
      intro hi
      have e5 : (nI i < nI nc) = True := eq_true (nI_lt (by omega) (by omega))
      have e1 : ∀ x, am_in (nI i) 12 x = x := am_inN (by omega) (by decide)
      have t1 : Int32.toNatClampNeg (nI i) = i := nI_clamp (by omega)
      have a1 : (6 : Int32) + nI i = nI (6 + i) := nI_add 6 i
      have e2 : ∀ x, am_in (nI (6 + i)) 43 x = x := am_inN (by omega) (by decide)
      have t2 : Int32.toNatClampNeg (nI (6 + i)) = 6 + i := nI_clamp (by omega)
      rw [ih (by omega), q_X12_livesHour_13]
      simp only [hm_K, hm_R, hm_L, hm_at, hm_E, hm_5, hm_6, hm_7, hm_8, hm_s5, hm_s6, hm_s7, hm_s8, rd_hK_sFJ, rd_hFR_sFJ, rd_hLN_sFJ, rd_hAI_sFJ, am_kd, m0, f1210, k350, n350, f1219, k359, n359, f1259, k397, n397, if_true, i2, o0, n2, e5, bR_s, x2, e1, t1, a1, e2, t2, o9, am_let_e, enu_h _ (show i < 6 by omega), nI_1]
      unfold xrain
      rw [← cp_succ]
  have e6 : (nI nc < nI nc) = False := eq_false (nI_nlt (Nat.le_refl _) (by omega))
  have z1 : (nI 0 = (1 : Int32)) = False := eq_false (by decide)
  rw [lp nc (Nat.le_refl _), q_X12_livesHour_13]
  simp only [hm_K, hm_R, hm_L, hm_at, hm_E, hm_5, hm_6, hm_7, hm_8, hm_s5, hm_s6, hm_s7, hm_s8, rd_hK_sFJ, rd_hFR_sFJ, rd_hLN_sFJ, rd_hAI_sFJ, am_kd, m0, f1210, k350, n350, f1219, k359, n359, f1259, k397, n397, if_true, if_false, i2, o0, n2, e6, bR_s, x2, z1, kh, bV_s]
