/-! The deeds: draw, pour, steal. -/
theorem selfQ (g : AH) : HM g (enc (dec (hAI g 397))) (hAI g) (hFI g 1265 348, hFI g 1266 348, hFI g 1267 348, hFI g 1268 348) = g := by
  rw [enc_dec, hm_self]
theorem hnx_HM (g : AH) (f : Nat → Int32) (τ : Nat → Nat → Int32) (y : M4) : hNX (HM g f τ y) = hNX g := by unfold HM; simp only [rd_hNX_mF, rd_hNX_mV, rd_hNX_sAI]
theorem st_draw {B L d : Nat} {xs : Nat → Int32} {h : AH} (I : Inv B L xs h) (a b : Int32) : Stq B L xs h (fun h => am_C PG (d + 20) 136 [.ref 0, .int a, .int b] h) (fun h => am_C PG (d + 20) 226 [.ref 348, .int a, .int b] h) := by
  obtain ⟨k0, f61, f84, k61, f62, S62, S84, hm, p, dp, np, nc, ne, nw, len, n, W, hp4, f1102, IQ, NW, U⟩ := I.dd
  have m0 := hm.1
  have z1 : ((1 : Int32) = 0) = False := eq_false (by decide)
  have s84 := S84.1
  have s62 := S62.1
  obtain ⟨hr, hrB, S⟩ := NW
  have NW : NowI B h np nc ne nw := ⟨hr, hrB, S⟩
  obtain ⟨Lk0, -⟩ := IQ.2.2.2.2.2.2.2.2.2.1
  have p0 := Lk0.1.1.1.1
  have PR := Lk0.2.2.2.2.2.2.2.1
  have hn5 : np ≤ 5 := Lk0.1.2.2.2.2.2.1
  have hn6 : nc ≤ 6 := Lk0.1.2.2.2.2.2.2.1
  have hn4 : ne ≤ 4 := Lk0.1.2.2.2.2.2.2.2.1
  have kc := c_copy (d := d + 18) (R := getS h 84) S84 S62 (Or.inr (by decide))
  rw [putS_get] at kc
  have e62 : getS (putS h 84 (cpS (getS h 62) (getS h 84))) 62 = getS h 62 := getS_far _ _ (by decide)
  have P1 : PoC (putS h 84 (cpS (getS h 62) (getS h 84))) p np nc ne nw := Lk0.1.put
  have T1 : StSh (putS h 84 (cpS (getS h 62) (getS h 84))) 62 := S62.to rfl rfl rfl
  have LG : ∀ G, Qt h G → Lk (sFI G 1200 348 0) (sFI G 1200 348 0) p np nc ne nw len n W := fun G q => Lk0.qt (q.tr (th_qt _)) hp4
  have kG : ∀ G, Qt h G → hK G 348 = 13 := fun G q => by rw [q.1]; exact m0
  by_cases hbad : ¬ (¬ a < 0 ∧ a < nI ne) ∨ b < 1 ∨ 999 < b
  · have kd := c_draw_no (d := d + 17) (a := 62) (R := getS (putS h 84 (cpS (getS h 62) (getS h 84))) 62) P1 a b hbad
    rw [putS_get] at kd
    refine deed_no (Z := cpS (getS h 62) (getS h 84)) I ?_ (fun G q => ?_)
    · rw [q_X11_draw]
      simp only [am_kd, k0, f1102, f61, k61, f62, f84, if_true, if_false, bR_s, bI_s, bV_s, s84, s62, p0, rd_hK_putS, rd_hFR_putS, rd_hLN_putS, kc, kd]
    · have km := c_misPerson (d := d + 18) (n := ne) (h := sFI G 1200 348 0) (LG G q).2.2.2.1 (LG G q).2.2.2.2.2.1.2.1 a
      have kw := c_within (d + 18) b 1 999 (sFI G 1200 348 0)
      have hG := kG G q
      by_cases ha : ¬ a < 0 ∧ a < nI ne
      · rw [b2i_t ha] at km
        have hb : ¬ (¬ b < 1 ∧ ¬ 999 < b) := fun z => by
          rcases hbad with y | y | y
          · exact y ha
          · exact z.1 y
          · exact z.2 y
        rw [b2i_f hb] at kw
        rw [q_X12_draw]
        simp only [am_kd, hG, if_true, if_false, am_let_e, rd_hK_sFI, km, kw, bI_s, z1]
      · rw [b2i_f ha] at km
        rw [q_X12_draw]
        simp only [am_kd, hG, if_true, am_let_e, rd_hK_sFI, km, bI_s]
  · have ha : ¬ a < 0 ∧ a < nI ne := Classical.byContradiction (fun z => hbad (Or.inl z))
    have hb1 : ¬ b < 1 := fun z => hbad (Or.inr (Or.inl z))
    have hb2 : ¬ 999 < b := fun z => hbad (Or.inr (Or.inr z))
    obtain ⟨e, he, rfl⟩ := ix_of (by omega) ha
    obtain ⟨⟨q0, hq0, hq1⟩, w1, w2⟩ := S.2.2.2.2.2.2.2.2.1 e he
    obtain ⟨r1, r2, -⟩ := S.2.2.2.1 e he
    have hqc : (getS h 62).2.2.2.2.1 e = nI q0 := r1.trans hq1
    have hwe := S.2.2.2.2.1 q0 hq0
    have kd := c_draw_ok (d := d + 17) (a := 62) (e := e) (q := q0) (R := getS (putS h 84 (cpS (getS h 62) (getS h 84))) 62) P1 T1 he b hb1 hb2 (by omega) (by rw [e62]; exact hqc)
    rw [putS_get, e62, r2, hwe] at kd
    have can : ∀ G, Qt h G ∨ (hK G = hK h ∧ hFR G = hFR h ∧ hLN G = hLN h ∧ hAI G 397 = hAI h 397) → am_C PG (d + 19) 224 [.ref 348, .int (nI e), .int b] (sFI G 1200 348 0) = some (some (.int (b2i (¬ ((dec (hAI h 397)).1.2.2.2.2.2.2.2.1 q0 < b ∨ 999 < (dec (hAI h 397)).1.2.2.2.2.2.1 e + b)))), sFI G 1200 348 0) := fun G q => by
      have hm2 : MSh (sFI G 1200 348 0) := by
        rcases q with q | ⟨x1, x2, x3, -⟩
        · exact (q.tr (th_qt _)).msh hm
        · exact hm.to x1 (fun k => by show hFR G k 348 = _; rw [x2]) x3
      have v : ∀ j, j < 43 → hAI (sFI G 1200 348 0) 397 j = hAI h 397 j := fun j hj => by
        rw [rd_hAI_sFI]
        rcases q with q | ⟨-, -, -, x⟩
        · exact q.q397 hj
        · rw [x]
      have k := c_mcanDraw (dp := d + 18) (e := e) (q := q0) (g := sFI G 1200 348 0) (Q := dec (hAI (sFI G 1200 348 0) 397)) (ρ := hAI (sFI G 1200 348 0)) (w := (hFI (sFI G 1200 348 0) 1265 348, hFI (sFI G 1200 348 0) 1266 348, hFI (sFI G 1200 348 0) 1267 348, hFI (sFI G 1200 348 0) 1268 348)) hm2 (by omega) (by omega) ((v _ (by omega)).trans hq1) b
      rw [selfQ] at k
      have u1 : (dec (hAI (sFI G 1200 348 0) 397)).1.2.2.2.2.2.2.2.1 q0 = (dec (hAI h 397)).1.2.2.2.2.2.2.2.1 q0 := v _ (by omega)
      have u2 : (dec (hAI (sFI G 1200 348 0) 397)).1.2.2.2.2.2.1 e = (dec (hAI h 397)).1.2.2.2.2.2.1 e := v _ (by omega)
      rw [u1, u2] at k
      exact k
    by_cases hcan : (dec (hAI h 397)).1.2.2.2.2.2.2.2.1 q0 < b ∨ 999 < (dec (hAI h 397)).1.2.2.2.2.2.1 e + b
    · rw [if_pos hcan] at kd
      refine deed_no (Z := cpS (getS h 62) (getS h 84)) I ?_ (fun G q => ?_)
      · rw [q_X11_draw]
        simp only [am_kd, k0, f1102, f61, k61, f62, f84, if_true, if_false, bR_s, bI_s, bV_s, s84, s62, p0, rd_hK_putS, rd_hFR_putS, rd_hLN_putS, kc, kd]
      · have km := c_misPerson (d := d + 18) (n := ne) (h := sFI G 1200 348 0) (LG G q).2.2.2.1 (LG G q).2.2.2.2.2.1.2.1 (nI e)
        have kw := c_within (d + 18) b 1 999 (sFI G 1200 348 0)
        have kq := can G (Or.inl q)
        have hG := kG G q
        rw [b2i_t ha] at km
        rw [b2i_t ⟨hb1, hb2⟩] at kw
        rw [b2i_f (fun z => z hcan)] at kq
        rw [q_X12_draw]
        simp only [am_kd, hG, if_true, if_false, am_let_e, rd_hK_sFI, km, kw, kq, bI_s, z1]
    · rw [if_neg hcan] at kd
      have hS := SR_draw S he hq0 hb1 hb2 (fun z => hcan (Or.inl z)) (fun z => hcan (Or.inr z))
      obtain ⟨G1, mn, m1, kk, q1, b1, f1264, nx, g62, IQ2, fin⟩ := deed (d := d + 17) (B' := B + 24) (by omega) IQ NW U (hAI (putS h 84 (cpS (getS h 62) (getS h 84))) (p + 16)) (xdraw e q0 b (getS h 62))
      rw [sAI_self] at kk
      have hm1 : MSh G1 := hm.to q1.1 (fun k => by rw [q1.2.1]) q1.2.2.1
      have km0 := c_keeps1 (d := d + 17) hm1 f1264 m1
      have w397 : hAI G1 397 = hAI h 397 := b1 397 (by decide)
      rw [w397] at km0
      have kq := can G1 (Or.inr ⟨q1.1, q1.2.1, q1.2.2.1, w397⟩)
      rw [b2i_t hcan] at kq
      have km := c_misPerson (d := d + 18) (n := ne) (h := sFI G1 1200 348 0) (hm1.to rfl (fun _ => rfl) rfl) (by rw [rd_hAI_sFI, b1 350 (by decide)]; exact Lk0.2.2.2.2.2.1.2.1) (nI e)
      have kw := c_within (d + 18) b 1 999 (sFI G1 1200 348 0)
      rw [b2i_t ha] at km
      rw [b2i_t ⟨hb1, hb2⟩] at kw
      rw [w397] at fin IQ2
      generalize hGG : sFI (sAI (sFI G1 1200 348 0) 400 (mkp mn (hAI G1 400) (hAI h 397))) 1264 348 (nI (if mn = 16 then 16 else mn + 1)) = G at km0 IQ2 fin
      obtain ⟨Lk2, -⟩ := IQ2.2.2.2.2.2.2.2.2.2.1
      have hm2 := Lk2.2.2.2.1
      have kM := c_mdraws (dp := d + 18) (e := e) (q := q0) (g := G) (Q := dec (hAI h 397)) (ρ := hAI G1) (w := (hFI G1 1265 348, hFI G1 1266 348, hFI G1 1267 348, hFI G1 1268 348)) hm2 (by omega) (by omega) hq1 b
      have hk1 : hK G1 348 = 13 := hm1.1
      have hkG : hK G 348 = 13 := hm2.1
      have g59 : hFR G 1259 348 = some 397 := (hm2.2 48 (by decide)).1
      have g59k : hK G 397 = 50 := (hm2.2 48 (by decide)).2.1
      have g59n : hLN G 397 = 43 := (hm2.2 48 (by decide)).2.2
      have am : (28 : Int32) + nI e = nI (28 + e) := nI_add 28 e
      have ie : ∀ x, am_in (nI (28 + e)) 43 x = x := am_inN (by omega) (by decide)
      have te : Int32.toNatClampNeg (nI (28 + e)) = 28 + e := nI_clamp (by omega)
      have ic : ∀ x, am_in (nI e) 4 x = x := am_inN (by omega) (by decide)
      have tc : Int32.toNatClampNeg (nI e) = e := nI_clamp (by omega)
      obtain ⟨z0, zf1, zf2, zf3, zf4, zf5, zf6, zf7, zf8, zk1, zk2, zk3, zk4, zk5, zk6, zk7, zk8, zn1, zn2, zn3, zn4, zn5, zn6, zn7, zn8⟩ := St62 S62
      have row : hAI G1 67 e = (dec (hAI h 397)).1.2.2.2.2.2.1 e + b := by
        have := congrArg (fun z : SV => z.2.2.2.2.2.1) g62
        have : hAI G1 67 = upd (getS h 62).2.2.2.2.2.1 e ((getS h 62).2.2.2.2.2.1 e + b) := this
        rw [this, pk_us, r2]
      have qG : Qk G1 (HM G (enc (xdraw e q0 b (dec (hAI h 397)).1, (dec (hAI h 397)).2)) (hAI G1) (hFI G1 1265 348, hFI G1 1266 348, hFI G1 1267 348, hFI G1 1268 348)) := by
        rw [← hGG]
        exact (Qk.of (th_qt G1)).tr ((Qk.u4 _ _).tr ((Qk.fi _ 1264 348 _ (by omega)).tr (Qk.hm' _ _ _ _)))
      have hk0 : hK G1 = hK h := q1.1
      have hr0 : hFR G1 = hFR h := q1.2.1
      have hl0 : hLN G1 = hLN h := q1.2.2.1
      have ev : enc (xdraw e q0 b (dec (hAI h 397)).1, (dec (hAI h 397)).2) (28 + e) = (dec (hAI h 397)).1.2.2.2.2.2.1 e + b := by
        rw [enc_p _ (by omega)]
        show upd (dec (hAI h 397)).1.2.2.2.2.2.1 e _ e = _
        rw [pk_us]
      refine ⟨(dec (hAI h 397)).1.2.2.2.2.2.1 e + b, G1, _, ?_, ?_, q1.law, qG.law, by rw [hnx_HM, ← hGG]; exact nx, fin hr _ (hAI G1) (hFI G1 1265 348, hFI G1 1266 348, hFI G1 1267 348, hFI G1 1268 348) (by omega) hS⟩
      · dsimp only
        rw [q_X11_draw]
        simp only [am_kd, k0, f1102, f61, k61, f62, f84, if_true, if_false, bR_s, bI_s, bV_s, s84, s62, p0, rd_hK_putS, rd_hFR_putS, rd_hLN_putS, kc, kd, z1, kk, hk0, hr0, hl0, zf5, zk5, zn5, ic, tc, row]
      · dsimp only
        rw [q_X12_draw]
        simp only [am_kd, hk1, if_true, if_false, am_let_e, rd_hK_sFI, km, kw, kq, bI_s, z1, km0, bV_s, hm_K, hm_R, hm_L, hkG, kM, g59, g59k, g59n, bR_s, am, ie, te, hm_at, ev]
