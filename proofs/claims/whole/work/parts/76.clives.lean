/-! The class's hour of the drawn years. -/
theorem Lk.fj {g g2 : AH} {p np nc ne nw len n k a : Nat} {v : Int64} {W : Int32 → Int32 → Int32 → Int32 → Int32} (h : Lk g g2 p np nc ne nw len n W) : Lk (sFJ g k a v) g2 p np nc ne nw len n W := by
  obtain ⟨⟨q1, q2⟩, h2, h3, h4⟩ := h
  exact ⟨⟨q1.to rfl rfl rfl, q2⟩, h2, h3, h4⟩
theorem c_drJ {d sd m p : Nat} {g : AH} {f : Nat → Int32} {T : SV} (hk : hK g 93 = 1) (hsd : sd < 2147483648) (h0 : 0 < m) (h1 : m < 2147483648) : am_C PG (d + 1) 11 [.ref 93, .int (nI m)] (putS (sAI (sFJ g 2 93 (lN sd)) (p + 16) f) 94 T) = some (some (.int (nI (dN sd / 65536 % m))), putS (sAI (sFJ g 2 93 (lN (dN sd))) (p + 16) f) 94 T) := by
  have kd := c_drawB (d := d) (n := sd) (m := m) (h := putS (sAI (sFJ g 2 93 (lN sd)) (p + 16) f) 94 T) (by rw [rd_hK_putS, rd_hK_sAI, rd_hK_sFJ]; exact hk) (by rw [rd_hFJ_putS, rd_hFJ_sAI, sFJ_at]) hsd h0 h1
  rw [sFJ_putS, sFJ_sAI, sFJ_sFJ] at kd
  exact kd
/-- the hour itself, on the trial State -/
theorem c_hourJ {d p np nc ne nw len n hr : Nat} {W : Int32 → Int32 → Int32 → Int32 → Int32} {g g2 : AH} {T : SV} {f : Nat → Int32} {v : Int64} (L : Lk g g2 p np nc ne nw len n W) (ha : AhSh g 93 94) (hpb : p ≤ 30) (hh : hr < 2 ^ 31) (hT : T.1 = nI hr) : ∃ u, am_C PG (d + 4) 60 [.ref p, .ref 94] (putS (sAI (sFJ g 2 93 v) (p + 16) f) 94 T) = some (none, putS (sAI (sFJ g 2 93 v) (p + 16) u) 94 (xhour W (rowsP g p) nc ne nw hr T)) := by
  obtain ⟨l1, l2, l3, _⟩ := (L.fj (k := 2) (a := 93) (v := v)).scr (f := f)
  obtain ⟨u, k⟩ := c_hour (d := d) (a := 94) (R := T) l1 l2 l3 (ha.2.2.to rfl rfl rfl) (Or.inr (by omega)) hh hT
  rw [sAI_sAI] at k
  refine ⟨u, ?_⟩
  rw [k, xhour_P (P' := rowsP g p) (fun k hk => (rowsP_scr (sFJ g 2 93 v) p f hk).trans rfl)]
theorem c_clv_none {d p np nc ne nw len n hr lot : Nat} {x0 x1 : Int64} {W : Int32 → Int32 → Int32 → Int32 → Int32} {g g2 : AH} {T : SV} {f : Nat → Int32} {l4 l5 l6 : Int32} (L : Lk g g2 p np nc ne nw len n W) (ha : AhSh g 93 94) (hpb : p ≤ 30) (hh : hr < 2 ^ 31) (hT : T.1 = nI hr) (hl : l6 < l4) (kd : am_C PG (d + 4) 11 [.ref 93, .int 20] (putS (sAI (sFJ g 2 93 x0) (p + 16) f) 94 T) = some (some (.int (nI lot)), putS (sAI (sFJ g 2 93 x1) (p + 16) f) 94 T)) (hd20 : lot < 20) (c0 : ¬ lot = 0) (c1 : ¬ (lot = 1 ∧ 0 < nc)) :
    ∃ u, am_R PG (d + 5) 12 17 [some (.ref 93), some (.ref p), some (.ref 62), none, some (.int l4), some (.int l5), some (.int l6), none, none] [] (putS (sAI (sFJ g 2 93 x0) (p + 16) f) 94 T) = am_R PG (d + 5) 12 17 [some (.ref 93), some (.ref p), some (.ref 62), none, some (.int l4), some (.int l5), some (.int (l6 + 1)), none, none] [] (putS (sAI (sFJ g 2 93 x1) (p + 16) u) 94 (xhour W (rowsP g p) nc ne nw hr T)) := by
  obtain ⟨u, kh⟩ := c_hourJ (d := d) (f := f) (v := x1) L ha hpb hh hT
  refine ⟨u, ?_⟩
  have p0 := L.1.1.1.1
  obtain ⟨a1, a2, a3⟩ := ha
  have z0 : (nI lot = (0 : Int32)) = False := eq_false (nI_ne0 (by omega) (by omega))
  have w0 : ∀ v f R, hFI (putS (sAI (sFJ g 2 93 v) (p + 16) f) 94 R) 503 p = nI nc := fun v f R => by rw [pS_fi _ _ (Or.inl (by decide)), rd_hFI_sAI, rd_hFI_sFJ, L.1.2.2.1]
  rw [q_X0_drawnYears_17, if_pos hl]
  by_cases c5 : lot = 1
  · have z1 : (nI lot = (1 : Int32)) = True := eq_true (by rw [c5]; rfl)
    have zn : ((0 : Int32) < nI nc) = False := eq_false (by
      have : nc = 0 := by
        by_cases q : 0 < nc
        · exact absurd ⟨c5, q⟩ c1
        · omega
      rw [this]
      decide)
    simp only [rd_hK_putS, rd_hFR_putS, rd_hLN_putS, rd_hFJ_putS, rd_hAJ_putS, rd_hAR_putS, rd_hNX_putS, pS_1, pS_2, pS_3, pS_4, pS_5, pS_6, pS_7, pS_8, pS_hr, pE_1, pE_2, pE_3, pE_4, pE_5, pE_6, pE_7, pE_8, putS_sFI, rd_hK_sFJ, rd_hFR_sFJ, rd_hLN_sFJ, rd_hAI_sFJ, rd_hK_sAI, rd_hFR_sAI, rd_hLN_sAI, am_kd, a1, a2, p0, if_true, if_false, kd, bI_s, z0, z1, w0, zn, bR_s, kh, bV_s]
  · have z1 : (nI lot = (1 : Int32)) = False := eq_false (fun z => c5 ((nI_eq (b := 1) (by omega) (by decide)).1 z))
    simp only [rd_hK_putS, rd_hFR_putS, rd_hLN_putS, rd_hFJ_putS, rd_hAJ_putS, rd_hAR_putS, rd_hNX_putS, pS_1, pS_2, pS_3, pS_4, pS_5, pS_6, pS_7, pS_8, pS_hr, pE_1, pE_2, pE_3, pE_4, pE_5, pE_6, pE_7, pE_8, putS_sFI, rd_hK_sFJ, rd_hFR_sFJ, rd_hLN_sFJ, rd_hAI_sFJ, rd_hK_sAI, rd_hFR_sAI, rd_hLN_sAI, am_kd, a1, a2, p0, if_true, if_false, kd, bI_s, z0, z1, bR_s, kh, bV_s]
theorem c_clv_rain {d p np nc ne nw len n hr lot : Nat} {x0 x1 : Int64} {W : Int32 → Int32 → Int32 → Int32 → Int32} {g g2 : AH} {T : SV} {f : Nat → Int32} {l4 l5 l6 : Int32} (L : Lk g g2 p np nc ne nw len n W) (ha : AhSh g 93 94) (hpb : p ≤ 30) (hh : hr < 2 ^ 31) (hT : T.1 = nI hr) (hl : l6 < l4) (kd : am_C PG (d + 4) 11 [.ref 93, .int 20] (putS (sAI (sFJ g 2 93 x0) (p + 16) f) 94 T) = some (some (.int (nI lot)), putS (sAI (sFJ g 2 93 x1) (p + 16) f) 94 T)) (c0 : lot = 0) :
    ∃ u, am_R PG (d + 5) 12 17 [some (.ref 93), some (.ref p), some (.ref 62), none, some (.int l4), some (.int l5), some (.int l6), none, none] [] (putS (sAI (sFJ g 2 93 x0) (p + 16) f) 94 T) = am_R PG (d + 5) 12 17 [some (.ref 93), some (.ref p), some (.ref 62), none, some (.int l4), some (.int l5), some (.int (l6 + 1)), none, none] [] (putS (sAI (sFJ g 2 93 x1) (p + 16) u) 94 (xhour W (rowsP g p) nc ne nw hr (xrain nc (hAI g (p + 6)) T))) := by
  obtain ⟨u, kh⟩ := c_hourJ (d := d) (f := f) (v := x1) (T := xrain nc (hAI g (p + 6)) T) L ha hpb hh hT
  have kr := c_rain (d := d + 3) (R := T) ((L.fj (k := 2) (a := 93) (v := x1)).scr (f := f)).1 ⟨ha.1, ha.2.1, ha.2.2.to rfl rfl rfl⟩ hpb
  rw [sAI_ne _ _ (by omega), rd_hAI_sFJ] at kr
  refine ⟨u, ?_⟩
  have p0 := L.1.1.1.1
  obtain ⟨a1, a2, a3⟩ := ha
  have z0 : (nI lot = (0 : Int32)) = True := eq_true (by rw [c0]; rfl)
  rw [q_X0_drawnYears_17, if_pos hl]
  simp only [rd_hK_putS, rd_hFR_putS, rd_hLN_putS, rd_hFJ_putS, rd_hAJ_putS, rd_hAR_putS, rd_hNX_putS, pS_1, pS_2, pS_3, pS_4, pS_5, pS_6, pS_7, pS_8, pS_hr, pE_1, pE_2, pE_3, pE_4, pE_5, pE_6, pE_7, pE_8, putS_sFI, rd_hK_sFJ, rd_hFR_sFJ, rd_hLN_sFJ, rd_hAI_sFJ, rd_hK_sAI, rd_hFR_sAI, rd_hLN_sAI, am_kd, a1, a2, p0, if_true, kd, bI_s, z0, kr, bR_s, kh, bV_s]
theorem c_clv_half {d p np nc ne nw len n hr lot c : Nat} {x0 x1 v2 : Int64} {W : Int32 → Int32 → Int32 → Int32 → Int32} {g g2 : AH} {T : SV} {f : Nat → Int32} {l4 l5 l6 : Int32} (L : Lk g g2 p np nc ne nw len n W) (ha : AhSh g 93 94) (hpb : p ≤ 30) (hh : hr < 2 ^ 31) (hT : T.1 = nI hr) (hl : l6 < l4) (kd : am_C PG (d + 4) 11 [.ref 93, .int 20] (putS (sAI (sFJ g 2 93 x0) (p + 16) f) 94 T) = some (some (.int (nI lot)), putS (sAI (sFJ g 2 93 x1) (p + 16) f) 94 T)) (kd2 : am_C PG (d + 4) 11 [.ref 93, .int (nI nc)] (putS (sAI (sFJ g 2 93 x1) (p + 16) f) 94 T) = some (some (.int (nI c)), putS (sAI (sFJ g 2 93 v2) (p + 16) f) 94 T)) (c1 : lot = 1) (hpos : 0 < nc) (hc : c < nc) :
    ∃ u, am_R PG (d + 5) 12 17 [some (.ref 93), some (.ref p), some (.ref 62), none, some (.int l4), some (.int l5), some (.int l6), none, none] [] (putS (sAI (sFJ g 2 93 x0) (p + 16) f) 94 T) = am_R PG (d + 5) 12 17 [some (.ref 93), some (.ref p), some (.ref 62), none, some (.int l4), some (.int l5), some (.int (l6 + 1)), none, none] [] (putS (sAI (sFJ g 2 93 v2) (p + 16) u) 94 (xhour W (rowsP g p) nc ne nw hr (xhas c (T.2.1 c - T.2.1 c / 2) T))) := by
  obtain ⟨u, kh⟩ := c_hourJ (d := d) (f := f) (v := v2) (T := xhas c (T.2.1 c - T.2.1 c / 2) T) L ha hpb hh hT
  refine ⟨u, ?_⟩
  have p0 := L.1.1.1.1
  have h6 : nc ≤ 6 := L.1.2.2.2.2.2.2.1
  obtain ⟨a1, a2, a3⟩ := ha
  obtain ⟨s0, sf1, sf2, sf3, sf4, sf5, sf6, sf7, sf8, sk1, sk2, sk3, sk4, sk5, sk6, sk7, sk8, sn1, sn2, sn3, sn4, sn5, sn6, sn7, sn8⟩ := a3
  have z0 : (nI lot = (0 : Int32)) = False := eq_false (by rw [c1]; decide)
  have z1 : (nI lot = (1 : Int32)) = True := eq_true (by rw [c1]; rfl)
  have zn : ((0 : Int32) < nI nc) = True := eq_true (nI_lt (a := 0) hpos (by omega))
  have w0 : ∀ v f R, hFI (putS (sAI (sFJ g 2 93 v) (p + 16) f) 94 R) 503 p = nI nc := fun v f R => by rw [pS_fi _ _ (Or.inl (by decide)), rd_hFI_sAI, rd_hFI_sFJ, L.1.2.2.1]
  have e1 : ∀ x, am_in (nI c) 6 x = x := am_inN (by omega) (by decide)
  have t1 : Int32.toNatClampNeg (nI c) = c := nI_clamp (by omega)
  have d2 : ∀ x, am_dz (2 : Int32) x = x := fun x => am_dz_t (by decide) x
  unfold xhas at kh ⊢
  rw [q_X0_drawnYears_17, if_pos hl]
  simp only [rd_hK_putS, rd_hFR_putS, rd_hLN_putS, rd_hFJ_putS, rd_hAJ_putS, rd_hAR_putS, rd_hNX_putS, pS_1, pS_2, pS_3, pS_4, pS_5, pS_6, pS_7, pS_8, pS_hr, pE_1, pE_2, pE_3, pE_4, pE_5, pE_6, pE_7, pE_8, putS_sFI, rd_hK_sFJ, rd_hFR_sFJ, rd_hLN_sFJ, rd_hAI_sFJ, rd_hK_sAI, rd_hFR_sAI, rd_hLN_sAI, am_kd, a1, a2, p0, s0, sf1, sf2, sf3, sf4, sf5, sf6, sf7, sf8, sk1, sk2, sk3, sk4, sk5, sk6, sk7, sk8, sn1, sn2, sn3, sn4, sn5, sn6, sn7, sn8, if_true, if_false, kd, kd2, bI_s, z0, z1, w0, zn, bR_s, e1, t1, d2, am_let_e, kh, bV_s]
