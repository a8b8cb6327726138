/-! The deeds: go. -/
theorem st_go {B L d : Nat} {xs : Nat → Int32} {h : AH} (I : Inv B L xs h) (hB0 : B < 2 ^ 30) (a b : Int32) : Stq B L xs h (fun h => am_C PG (d + 20) 138 [.ref 0, .int a, .int b] h) (fun h => am_C PG (d + 20) 232 [.ref 348, .int a, .int b] h) := by
  obtain ⟨k0, f61, f84, k61, f62, S62, S84, hm, p, dp, np, nc, ne, nw, len, n, W, hp4, f1102, IQ, NW, U⟩ := I.dd
  have m0 := hm.1
  have z1 : ((1 : Int32) = 0) = False := eq_false (by decide)
  have s84 := S84.1
  have s62 := S62.1
  obtain ⟨hr, hrB, S⟩ := NW
  have NW : NowI B h np nc ne nw := ⟨hr, hrB, S⟩
  obtain ⟨Lk0, -⟩ := IQ.2.2.2.2.2.2.2.2.2.1
  have p0 := Lk0.1.1.1.1
  have PR := Lk0.2.2.2.2.2.2.2.1
  have hn5 : np ≤ 5 := Lk0.1.2.2.2.2.2.1
  have hn4 : ne ≤ 4 := Lk0.1.2.2.2.2.2.2.2.1
  have kc := c_copy (d := d + 18) (R := getS h 84) S84 S62 (Or.inr (by decide))
  rw [putS_get] at kc
  have e62 : getS (putS h 84 (cpS (getS h 62) (getS h 84))) 62 = getS h 62 := getS_far _ _ (by decide)
  have P1 : PoC (putS h 84 (cpS (getS h 62) (getS h 84))) p np nc ne nw := Lk0.1.put
  have T1 : StSh (putS h 84 (cpS (getS h 62) (getS h 84))) 62 := S62.to rfl rfl rfl
  have LG : ∀ G, Qt h G → Lk (sFI G 1200 348 0) (sFI G 1200 348 0) p np nc ne nw len n W := fun G q => Lk0.qt (q.tr (th_qt _)) hp4
  have kG : ∀ G, Qt h G → hK G 348 = 13 := fun G q => by rw [q.1]; exact m0
  have mE : ∀ G x, (hK G = hK h ∧ hFR G = hFR h ∧ hLN G = hLN h ∧ ∀ r, r = 350 → hAI G r = hAI h r) → am_C PG (d + 19) 211 [.ref 348, .int x] (sFI G 1200 348 0) = some (some (.int (b2i (¬ x < 0 ∧ x < nI ne))), sFI G 1200 348 0) := fun G x q =>
    c_misPerson (d := d + 18) (n := ne) (h := sFI G 1200 348 0) (hm.to q.1 (fun k => by show hFR G k 348 = _; rw [q.2.1]) q.2.2.1) (by rw [rd_hAI_sFI, q.2.2.2 _ rfl]; exact Lk0.2.2.2.2.2.1.2.1) x
  have mP : ∀ G x, (hK G = hK h ∧ hFR G = hFR h ∧ hLN G = hLN h ∧ ∀ r, r = 350 → hAI G r = hAI h r) → am_C PG (d + 19) 209 [.ref 348, .int x] (sFI G 1200 348 0) = some (some (.int (b2i (¬ x < 0 ∧ x < nI np))), sFI G 1200 348 0) := fun G x q =>
    c_misPlace (d := d + 18) (n := np) (h := sFI G 1200 348 0) (hm.to q.1 (fun k => by show hFR G k 348 = _; rw [q.2.1]) q.2.2.1) (by rw [rd_hAI_sFI, q.2.2.2 _ rfl]; exact Lk0.2.2.2.2.2.2.1) x
  have sm : ∀ G, Qt h G → (hK G = hK h ∧ hFR G = hFR h ∧ hLN G = hLN h ∧ ∀ r, r = 350 → hAI G r = hAI h r) := fun G q => ⟨q.1, q.2.1, q.2.2.1, fun r hr => by rw [hr]; exact q.row (by unfold cRow; omega)⟩
  by_cases hbad : ¬ (¬ a < 0 ∧ a < nI ne) ∨ ¬ (¬ b < 0 ∧ b < nI np)
  · have kd := c_walk_no (d := d + 17) (a := 62) (R := getS (putS h 84 (cpS (getS h 62) (getS h 84))) 62) P1 a b hbad
    rw [putS_get] at kd
    refine deed_no (Z := cpS (getS h 62) (getS h 84)) I ?_ (fun G q => ?_)
    · rw [q_X11_go]
      simp only [am_kd, k0, f1102, f61, k61, f62, f84, if_true, if_false, bR_s, bI_s, bV_s, s84, s62, p0, rd_hK_putS, rd_hFR_putS, rd_hLN_putS, rd_hK_sAI, rd_hFR_sAI, rd_hLN_sAI, kc, kd]
    · have km := mE G a (sm G q)
      have kw := mP G b (sm G q)
      have hG := kG G q
      by_cases ha : ¬ a < 0 ∧ a < nI ne
      · rw [b2i_t ha] at km
        rw [b2i_f (hbad.resolve_left (fun z => z ha))] at kw
        rw [q_X12_go]
        simp only [am_kd, hG, if_true, if_false, am_let_e, rd_hK_sFI, km, kw, bI_s, z1]
      · rw [b2i_f ha] at km
        rw [q_X12_go]
        simp only [am_kd, hG, if_true, am_let_e, rd_hK_sFI, km, bI_s]
  · have ha : ¬ a < 0 ∧ a < nI ne := Classical.byContradiction (fun z => hbad (Or.inl z))
    have hb : ¬ b < 0 ∧ b < nI np := Classical.byContradiction (fun z => hbad (Or.inr z))
    obtain ⟨e, he, rfl⟩ := ix_of (by omega) ha
    obtain ⟨t, ht, rfl⟩ := ix_of (by omega) hb
    obtain ⟨⟨q0, hq0, hq1⟩, w1, w2⟩ := S.2.2.2.2.2.2.2.2.1 e he
    obtain ⟨r1, r2, -⟩ := S.2.2.2.1 e he
    have hqc : (getS h 62).2.2.2.2.1 e = nI q0 := r1.trans hq1
    obtain ⟨s1, m, hm9, s2⟩ := Lk0.2.2.2.2.2.2.2.2 q0 t (by omega) (by omega)
    have s3 : hAI h (p + 2) (5 * q0 + t) = nI m := s1.trans s2
    obtain ⟨kz, ko⟩ := c_walk_ok (d := d + 14) (a := 62) (e := e) (t := t) (q := q0) (m := m) (hr := hr) (R := getS (putS h 84 (cpS (getS h 62) (getS h 84))) 62) P1 (Lk0.2.1.put (Or.inr (by omega))) (by
      have := Lk0.2.2.1
      unfold PoT at this ⊢
      rw [pS_far _ _ (by omega)]
      exact this) T1 (Or.inr (by omega)) (by omega) (by rw [e62]; exact S.1) he ht (by omega) (by rw [e62]; exact hqc) (by rw [pS_far _ _ (by omega)]; exact s3)
    rw [putS_get] at kz ko
    have st : ∀ G, (hK G = hK h ∧ hFR G = hFR h ∧ hLN G = hLN h) → hAI G 356 (5 * q0 + t) = hAI h 356 (5 * q0 + t) → hAI G 397 (24 + e) = hAI h 397 (24 + e) → am_C PG (d + 19) 230 [.ref 348, .int (nI e), .int (nI t)] (sFI G 1200 348 0) = some (some (.int (nI m)), sFI G 1200 348 0) := fun G q v1 v2 => by
      have hm2 : MSh (sFI G 1200 348 0) := hm.to q.1 (fun k => by show hFR G k 348 = _; rw [q.2.1]) q.2.2
      have k := c_mstep (dp := d + 18) (e := e) (q := q0) (t := t) (g := sFI G 1200 348 0) (Q := dec (hAI (sFI G 1200 348 0) 397)) (ρ := hAI (sFI G 1200 348 0)) (w := (hFI (sFI G 1200 348 0) 1265 348, hFI (sFI G 1200 348 0) 1266 348, hFI (sFI G 1200 348 0) 1267 348, hFI (sFI G 1200 348 0) 1268 348)) hm2 (by omega) (by omega) (by omega) (by
        show hAI (sFI G 1200 348 0) 397 (24 + e) = _
        rw [rd_hAI_sFI, v2]; exact hq1)
      rw [selfQ, rd_hAI_sFI, v1, s2] at k
      exact k
    by_cases hz : m = 0
    · refine deed_no (Z := cpS (getS h 62) (getS h 84)) I ?_ (fun G q => ?_)
      · have kd := kz hz
        rw [q_X11_go]
        simp only [am_kd, k0, f1102, f61, k61, f62, f84, if_true, if_false, bR_s, bI_s, bV_s, s84, s62, p0, rd_hK_putS, rd_hFR_putS, rd_hLN_putS, rd_hK_sAI, rd_hFR_sAI, rd_hLN_sAI, kc, kd]
      · have km := mE G (nI e) (sm G q)
        have kw := mP G (nI t) (sm G q)
        have kq := st G ⟨q.1, q.2.1, q.2.2.1⟩ (by rw [q.row (show cRow 356 by unfold cRow; omega)]) (q.q397 (by omega))
        have hG := kG G q
        rw [b2i_t ha] at km
        rw [b2i_t hb] at kw
        rw [hz] at kq
        rw [q_X12_go]
        simp only [am_kd, hG, if_true, if_false, am_let_e, rd_hK_sFI, km, kw, kq, bI_s, z1, show (nI 0 = 0) = True from eq_true rfl]
    · obtain ⟨f, kd⟩ := ko (by omega)
      rw [e62] at kd
      have eP : xhours W (rowsP (putS h 84 (cpS (getS h 62) (getS h 84))) p) nc ne nw hr m (getS h 62) = xhours W (rowsP h p) nc ne nw hr m (getS h 62) := by
        have : ∀ k, k ≤ 15 → rowsP (putS h 84 (cpS (getS h 62) (getS h 84))) p k = rowsP h p k := fun k hk => pS_far _ _ (by omega)
        have one : ∀ hr R, xhour W (rowsP (putS h 84 (cpS (getS h 62) (getS h 84))) p) nc ne nw hr R = xhour W (rowsP h p) nc ne nw hr R := fun hr R => by
          unfold xhour
          rw [this 4 (by decide), this 6 (by decide), this 7 (by decide), this 13 (by decide), this 8 (by decide), this 9 (by decide), this 10 (by decide), this 11 (by decide)]
        have : ∀ i, xhours W (rowsP (putS h 84 (cpS (getS h 62) (getS h 84))) p) nc ne nw hr i (getS h 62) = xhours W (rowsP h p) nc ne nw hr i (getS h 62) := by
          intro i
          induction i with
          | zero => rfl
          | succ i ih => unfold xhours; rw [ih, one]
        exact this m
      rw [eP] at kd
      have hS := SR_go (SR_hours (W := W) PR S m) he ht
      have hR1 := xhours_1 W (rowsP h p) nc ne nw hr (getS h 62) S.1 m
      obtain ⟨G1, mn, m1, kk, q1, b1, f1264, nx, g62, IQ2, fin⟩ := deed (d := d + 17) (B' := B + 24) (by omega) IQ NW U f (xgo e (nI t) (xhours W (rowsP h p) nc ne nw hr m (getS h 62)))
      have hm1 : MSh G1 := hm.to q1.1 (fun k => by rw [q1.2.1]) q1.2.2.1
      have km0 := c_keeps1 (d := d + 17) hm1 f1264 m1
      have w397 : hAI G1 397 = hAI h 397 := b1 397 (by decide)
      have sm1 : hK G1 = hK h ∧ hFR G1 = hFR h ∧ hLN G1 = hLN h ∧ ∀ r, r = 350 → hAI G1 r = hAI h r := ⟨q1.1, q1.2.1, q1.2.2.1, fun r hr => by rw [hr]; exact b1 350 (by decide)⟩
      have km := mE G1 (nI e) sm1
      have kw := mP G1 (nI t) sm1
      have kq := st G1 ⟨q1.1, q1.2.1, q1.2.2.1⟩ (by rw [b1 356 (by decide)]) (by rw [w397])
      rw [b2i_t ha] at km
      rw [b2i_t hb] at kw
      obtain ⟨Lk2, -⟩ := IQ2.2.2.2.2.2.2.2.2.2.1
      generalize hG : sFI (sAI (sFI G1 1200 348 0) 400 (mkp mn (hAI G1 400) (hAI G1 397))) 1264 348 (nI (if mn = 16 then 16 else mn + 1)) = G at km0 IQ2 fin Lk2
      have eM : ∀ a, 348 < a → a ≠ 400 → hAI G a = hAI h a := fun a z1 z2 => by
        rw [← hG, rd_hAI_sFI, sAI_ne _ _ z2, rd_hAI_sFI]
        exact b1 a z1
      obtain ⟨τ, y, kM⟩ := c_mwalk (dp := d + 11) (g := G) (n := n) (np := np) (W := W) (e := e) (q := q0) (t := t) (k := m) (hr := hr) (P := rowsP G p) (R := getS h 62) (Q := dec (hAI G1 397)) (ρ := hAI G1) (w := (hFI G1 1265 348, hFI G1 1266 348, hFI G1 1267 348, hFI G1 1268 348)) Lk2.2.2.2.1 Lk2.2.2.2.2.1 Lk2.2.2.2.2.2.1 Lk2.2.2.2.2.2.2.2.1 (by
        rw [w397]
        exact SR_M (eM 359 (by decide) (by decide)) (eM 368 (by decide) (by decide)) S) (by omega) (by omega) (by omega) (by omega) (by rw [w397]; exact hq1) (by rw [eM 356 (by decide) (by decide)]; exact s2)
      have eH : mhours W (hAI G) nc ne nw hr m (dec (hAI G1 397)) = mhours W (hAI h) nc ne nw hr m (dec (hAI h 397)) := by
        rw [w397]
        have one : ∀ hr R, mhour W (hAI G) nc ne nw hr R = mhour W (hAI h) nc ne nw hr R := fun hr R => by
          unfold mhour
          rw [eM 357 (by decide) (by decide), eM 359 (by decide) (by decide), eM 361 (by decide) (by decide), eM 363 (by decide) (by decide), eM 365 (by decide) (by decide), eM 366 (by decide) (by decide), eM 367 (by decide) (by decide), eM 368 (by decide) (by decide), eM 369 (by decide) (by decide)]
        have : ∀ i, mhours W (hAI G) nc ne nw hr i (dec (hAI h 397)) = mhours W (hAI h) nc ne nw hr i (dec (hAI h 397)) := by
          intro i
          induction i with
          | zero => rfl
          | succ i ih => unfold mhours; rw [ih, one]
        exact this m
      rw [eH] at kM
      generalize hQ' : (xgo e (nI t) (mhours W (hAI h) nc ne nw hr m (dec (hAI h 397))).1, (mhours W (hAI h) nc ne nw hr m (dec (hAI h 397))).2) = Q' at kM hS
      have hR2 : (xgo e (nI t) (xhours W (rowsP h p) nc ne nw hr m (getS h 62))).1 = nI (hr + m) := hR1
      generalize hR' : xgo e (nI t) (xhours W (rowsP h p) nc ne nw hr m (getS h 62)) = R' at kd kk g62 fin hS hR2
      have hk1 : hK G1 348 = 13 := hm1.1
      have r62 : hFI G1 700 62 = nI (hr + m) := by
        have := congrArg (fun z : SV => z.1) g62
        exact this.trans hR2
      have mz : (nI m = 0) = False := eq_false (nI_ne0 (by omega) (by omega))
      have qG : Qk G1 (HM G (enc Q') τ y) := by
        rw [← hG]
        exact (Qk.of (th_qt G1)).tr ((Qk.u4 _ _).tr ((Qk.fi _ 1264 348 _ (by omega)).tr (Qk.hm' _ _ _ _)))
      have hm2 := Lk2.2.2.2.1
      have hkG : hK G 348 = 13 := hm2.1
      have g59 : hFR G 1259 348 = some 397 := (hm2.2 48 (by decide)).1
      have g59k : hK G 397 = 50 := (hm2.2 48 (by decide)).2.1
      have g59n : hLN G 397 = 43 := (hm2.2 48 (by decide)).2.2
      have e0 : ∀ x, am_in (0 : Int32) 43 x = x := am_inN (i := 0) (by decide) (by decide)
      have hnx : hNX (HM G (enc Q') τ y) = hNX h := by
        rw [hnx_HM, ← hG]
        exact nx
      have hk0 : hK G1 = hK h := q1.1
      have hr0 : hFR G1 = hFR h := q1.2.1
      refine ⟨nI (hr + m), G1, HM G (enc Q') τ y, ?_, ?_, q1.law, qG.law, hnx, fin (hr + m) Q' τ y (by omega) hS⟩
      · dsimp only
        rw [q_X11_go]
        simp only [am_kd, k0, f1102, f61, k61, f62, f84, if_true, if_false, bR_s, bI_s, bV_s, s84, s62, p0, rd_hK_putS, rd_hFR_putS, rd_hLN_putS, rd_hK_sAI, rd_hFR_sAI, rd_hLN_sAI, kc, kd, z1, kk, hk0, hr0, r62]
      · dsimp only
        rw [q_X12_go]
        simp only [am_kd, hk1, if_true, if_false, am_let_e, rd_hK_sFI, km, kw, kq, bI_s, z1, mz, km0, bV_s, hm_K, hm_R, hm_L, hkG, kM, g59, g59k, g59n, bR_s, e0, nI_cl0, hm_at, enc_0, hS.2.1]
