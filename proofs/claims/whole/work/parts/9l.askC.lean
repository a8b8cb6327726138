/-! caravan, theft, cups, round: class and reference one behind the other. -/
/-- an int within bounds, or a test that fails -/
theorem in_rng {x lo hi : Int32} {a b : Nat} (hlo : lo = nI a) (hhi : hi = nI b) (hb : b < 2 ^ 30) (hab : a ≤ b) (h : ¬ x < lo ∧ ¬ hi < x) : ∃ m, a ≤ m ∧ m ≤ b ∧ x = nI m := by
  subst hlo
  subst hhi
  obtain ⟨h1, h2⟩ := h
  rw [i_lt, nI_toInt (by omega)] at h1 h2
  obtain ⟨j, hj, rfl⟩ := nI_of (x := x) (by rw [i_lt, t0]; omega)
  rw [nI_toInt hj] at h1 h2
  exact ⟨j, by omega, by omega, rfl⟩
theorem not_rng {x lo hi : Int32} (h : ¬ (¬ x < lo ∧ ¬ hi < x)) (c : ¬ x < lo) : hi < x := Classical.byContradiction (fun z => h ⟨c, z⟩)
theorem xneed_congr {W : Int32 → Int32 → Int32 → Int32 → Int32} {kd sp he kd' sp' he' : Nat → Int32} {hr c : Nat} {s : Int32} (e1 : kd c = kd' c) (e2 : sp c = sp' c) (e3 : ∀ j, j < 24 → he j = he' j) : ∀ n, xneed W kd sp he c hr s n = xneed W kd' sp' he' c hr s n
  | 0 => rfl
  | n + 1 => by
    rw [xneed_1, xneed_1, xneed_congr e1 e2 e3 n, xth_congr e1 e2 e3, e1]
theorem st_caravan {B L d : Nat} {xs : Nat → Int32} {h : AH} (I : Inv B L xs h) (a b e f : Int32) : Ans h (fun h => am_C PG (d + 20) 150 [.ref 0, .int a, .int b, .int e, .int f] h) (fun h => am_C PG (d + 20) 251 [.ref 348, .int a, .int b, .int e, .int f] h) := by
  obtain ⟨k0, f61, f93, f112, k61, f62, f71, f76, S62, D71, H76, A93, a2, S103, Ch, hm, p, np, nc, ne, nw, len, n, W, hr, hp4, f1102, IP, hB, S, D, H⟩ := I.ex
  have m0 := hm.1
  obtain ⟨Lk0, NE, NM, FS, WY⟩ := IP
  have hpb : p ≤ 30 := by omega
  have p0 := Lk0.1.1.1.1
  have k93 := A93.1
  have PR := Lk0.2.2.2.2.2.2.2.1
  have hn6 : nc ≤ 6 := Lk0.1.2.2.2.2.2.2.1
  have hm0 : MSh (sFI h 1200 348 0) := hm.to rfl (fun _ => rfl) rfl
  have z1 : ((1 : Int32) = 0) = False := eq_false (by decide)
  have kc := c_isClock (d := d + 18) Lk0.1 a
  have km := c_misTimer (d := d + 18) (n := nc) (h := sFI h 1200 348 0) hm0 Lk0.2.2.2.2.2.1.1 a
  have kw1 := c_within (d + 18) b 1 12 (sFI h 1200 348 0)
  have kw2 := c_within (d + 18) e 0 10 (sFI h 1200 348 0)
  have kw3 := c_within (d + 18) f 0 1000000 (sFI h 1200 348 0)
  by_cases ha : ¬ a < 0 ∧ a < nI nc
  · rw [b2i_t ha] at kc km
    by_cases hb : ¬ b < 1 ∧ ¬ 12 < b
    · rw [b2i_t hb] at kw1
      by_cases he : ¬ e < 0 ∧ ¬ 10 < e
      · rw [b2i_t he] at kw2
        by_cases hf : ¬ f < 0 ∧ ¬ 1000000 < f
        · rw [b2i_t hf] at kw3
          obtain ⟨c, hc, rfl⟩ := ix_of (by omega) ha
          obtain ⟨legs, g1, g2, rfl⟩ := in_rng (a := 1) (b := 12) rfl rfl (by decide) (by decide) hb
          obtain ⟨ch, -, g3, rfl⟩ := in_rng (a := 0) (b := 10) rfl rfl (by decide) (by decide) he
          obtain ⟨mi, -, g4, rfl⟩ := in_rng (a := 0) (b := 1000000) rfl rfl (by decide) (by decide) hf
          obtain ⟨k, u, k1, k2, k3, kC⟩ := c_sealed (d := d + 15) (c := c) (legs := legs) (ch := nI ch) (mi := nI mi) Lk0.1 Lk0.2.1 (by omega) g2
          have q1 : Qt h (sAI h (p + 16) u) := Qt.ai _ _ _ (by omega)
          have q2 : Qt h (sFI (sAI h (p + 16) u) 1200 348 0) := q1.tr (th_qt _)
          have e2 : ∀ a, 349 ≤ a → hAI (sFI (sAI h (p + 16) u) 1200 348 0) a = hAI h a := fun a ha => by rw [rd_hAI_sFI, sAI_ne _ _ (by omega)]
          have hG : hK (sAI h (p + 16) u) 348 = 13 := m0
          have km' := c_misTimer (d := d + 18) (n := nc) (h := sFI (sAI h (p + 16) u) 1200 348 0) (q2.msh hm) (by rw [e2 350 (by decide)]; exact Lk0.2.2.2.2.2.1.1) (nI c)
          rw [b2i_t ha] at km'
          have kw1' := c_within (d + 18) (nI legs) 1 12 (sFI (sAI h (p + 16) u) 1200 348 0)
          have kw2' := c_within (d + 18) (nI ch) 0 10 (sFI (sAI h (p + 16) u) 1200 348 0)
          have kw3' := c_within (d + 18) (nI mi) 0 1000000 (sFI (sAI h (p + 16) u) 1200 348 0)
          rw [b2i_t hb] at kw1'
          rw [b2i_t he] at kw2'
          rw [b2i_t hf] at kw3'
          have hcls : ∀ r, am_C PG (d + 19) 7 [.ref 93, .ref p, .int (nI c), .int (nI legs), .int (nI ch), .int (nI mi)] h = some (some (.int r), sAI h (p + 16) u) → am_C PG (d + 20) 150 [.ref 0, .int (nI c), .int (nI legs), .int (nI ch), .int (nI mi)] h = some (some (.int r), sAI h (p + 16) u) := fun r hr => by
            rw [q_X11_caravan]
            simp only [am_kd, k0, f1102, f61, f93, f112, k61, f62, f71, f76, if_true, if_false, bR_s, bI_s, p0, k93, kc, z1, if_neg hb.1, if_neg hb.2, if_neg he.1, if_neg he.2, if_neg hf.1, if_neg hf.2, hr]
          by_cases hz : mi = 0
          · subst hz
            have c00 := cG_00 (legs := legs) (ch := nI ch) g2
            have hk0 : k = 0 := by
              rcases Nat.eq_zero_or_pos k with z | z
              · exact z
              · have := k2 0 z
                rw [show nI 0 = 0 from rfl, c00] at this
                cases this
            rw [if_pos hk0] at kC
            refine ⟨0, sAI h (p + 16) u, sFI (sAI h (p + 16) u) 1200 348 0, hcls _ kC, ?_, q1, th_qt _⟩
            dsimp only
            have zz : (nI 0 = 0) = True := eq_true rfl
            rw [q_X12_caravan]
            simp only [am_kd, hG, if_true, if_false, am_let_e, rd_hK_sFI, km', kw1', kw2', kw3', bI_s, z1, zz]
          · have hmi : 0 < mi := by omega
            obtain ⟨k', τ, n1, n2, n3, kM⟩ := c_mcar (d := d + 15) (c := c) (legs := legs) (ch := nI ch) (mi := nI mi) (h := sFI (sAI h (p + 16) u) 1200 348 0) (ρ := hAI (sFI (sAI h (p + 16) u) 1200 348 0)) (q2.msh hm) (q2.refm Lk0.2.2.2.2.1) (by omega) g2 (cG_fin g2 g3 g4)
            rw [mV_self] at kM
            have hkk := car_same (cG_0 g2 g4 hmi) k1 k2 k3 n1 n2 n3
            have ev : (if k = 0 then (0 : Int32) else (xneed W (hAI h (p + 4)) (hAI h (p + 7)) (hAI h (p + 13)) c 0 0 (legs + k - 1)).1) = (xneed W (hAI (sFI (sAI h (p + 16) u) 1200 348 0) 357) (hAI (sFI (sAI h (p + 16) u) 1200 348 0) 361) (hAI (sFI (sAI h (p + 16) u) 1200 348 0) 369) c 0 0 (legs + k')).1 := by
              rw [if_neg (by omega), e2 357 (by decide), e2 361 (by decide), e2 369 (by decide), show legs + k - 1 = legs + k' by omega, xneed_congr (W := W) (kd := hAI h (p + 4)) (sp := hAI h (p + 7)) (he := hAI h (p + 13)) (PR.1 c hc).1 (PR.1 c hc).2.2.2 PR.2.2.2.1]
            rw [ev] at kC
            refine ⟨(xneed W (hAI (sFI (sAI h (p + 16) u) 1200 348 0) 357) (hAI (sFI (sAI h (p + 16) u) 1200 348 0) 361) (hAI (sFI (sAI h (p + 16) u) 1200 348 0) 369) c 0 0 (legs + k')).1, sAI h (p + 16) u, mV (sFI (sAI h (p + 16) u) 1200 348 0) τ, hcls _ kC, ?_, q1, (th_qt _).tr (Qt.mv _ _)⟩
            dsimp only
            have zz : (nI mi = 0) = False := eq_false (nI_ne0 hmi (by omega))
            rw [q_X12_caravan]
            simp only [am_kd, hG, if_true, if_false, am_let_e, rd_hK_sFI, km', kw1', kw2', kw3', bI_s, z1, zz]
            exact kM
        · rw [b2i_f hf] at kw3
          refine Ans.no (r := -1) ?_ ?_
          · rw [q_X11_caravan]
            by_cases c1 : f < 0
            · simp only [am_kd, k0, f1102, f61, f93, f112, k61, f62, f71, f76, if_true, if_false, bR_s, bI_s, p0, kc, z1, if_neg hb.1, if_neg hb.2, if_neg he.1, if_neg he.2, if_pos c1]
            · simp only [am_kd, k0, f1102, f61, f93, f112, k61, f62, f71, f76, if_true, if_false, bR_s, bI_s, p0, kc, z1, if_neg hb.1, if_neg hb.2, if_neg he.1, if_neg he.2, if_neg c1, if_pos (not_rng hf c1)]
          · rw [q_X12_caravan]
            simp only [am_kd, m0, if_true, if_false, z1, am_let_e, rd_hK_sFI, km, kw1, kw2, kw3, bI_s]
      · rw [b2i_f he] at kw2
        refine Ans.no (r := -1) ?_ ?_
        · rw [q_X11_caravan]
          by_cases c1 : e < 0
          · simp only [am_kd, k0, f1102, f61, f93, f112, k61, f62, f71, f76, if_true, if_false, bR_s, bI_s, p0, kc, z1, if_neg hb.1, if_neg hb.2, if_pos c1]
          · simp only [am_kd, k0, f1102, f61, f93, f112, k61, f62, f71, f76, if_true, if_false, bR_s, bI_s, p0, kc, z1, if_neg hb.1, if_neg hb.2, if_neg c1, if_pos (not_rng he c1)]
        · rw [q_X12_caravan]
          simp only [am_kd, m0, if_true, if_false, z1, am_let_e, rd_hK_sFI, km, kw1, kw2, bI_s]
    · rw [b2i_f hb] at kw1
      refine Ans.no (r := -1) ?_ ?_
      · rw [q_X11_caravan]
        by_cases c1 : b < 1
        · simp only [am_kd, k0, f1102, f61, f93, f112, k61, f62, f71, f76, if_true, if_false, bR_s, bI_s, p0, kc, z1, if_pos c1]
        · simp only [am_kd, k0, f1102, f61, f93, f112, k61, f62, f71, f76, if_true, if_false, bR_s, bI_s, p0, kc, z1, if_neg c1, if_pos (not_rng hb c1)]
      · rw [q_X12_caravan]
        simp only [am_kd, m0, if_true, if_false, z1, am_let_e, rd_hK_sFI, km, kw1, bI_s]
  · rw [b2i_f ha] at kc km
    refine Ans.no (r := -1) ?_ ?_
    · rw [q_X11_caravan]
      simp only [am_kd, k0, f1102, f61, f93, f112, k61, f62, f71, f76, if_true, if_false, bR_s, bI_s, p0, kc]
    · rw [q_X12_caravan]
      simp only [am_kd, m0, if_true, am_let_e, rd_hK_sFI, km, bI_s]
theorem st_theft {B L d : Nat} {xs : Nat → Int32} {h : AH} (I : Inv B L xs h) (a b e f : Int32) : Ans h (fun h => am_C PG (d + 20) 153 [.ref 0, .int a, .int b, .int e, .int f] h) (fun h => am_C PG (d + 20) 257 [.ref 348, .int a, .int b, .int e, .int f] h) := by
  obtain ⟨k0, f61, f93, f112, k61, f62, f71, f76, S62, D71, H76, A93, a2, S103, Ch, hm, p, np, nc, ne, nw, len, n, W, hr, hp4, f1102, IP, hB, S, D, H⟩ := I.ex
  have m0 := hm.1
  obtain ⟨Lk0, NE, NM, FS, WY⟩ := IP
  have hpb : p ≤ 30 := by omega
  have p0 := Lk0.1.1.1.1
  have k93 := A93.1
  have PR := Lk0.2.2.2.2.2.2.2.1
  have hn6 : nc ≤ 6 := Lk0.1.2.2.2.2.2.2.1
  have hm0 : MSh (sFI h 1200 348 0) := hm.to rfl (fun _ => rfl) rfl
  have z1 : ((1 : Int32) = 0) = False := eq_false (by decide)
  have kc := c_isClock (d := d + 18) Lk0.1 a
  have km := c_misTimer (d := d + 18) (n := nc) (h := sFI h 1200 348 0) hm0 Lk0.2.2.2.2.2.1.1 a
  have kw1 := c_within (d + 18) e 1 48 (sFI h 1200 348 0)
  have kw2 := c_within (d + 18) f 0 2 (sFI h 1200 348 0)
  by_cases ha : ¬ a < 0 ∧ a < nI nc
  · rw [b2i_t ha] at kc km
    by_cases hb : ¬ e < 1 ∧ ¬ 48 < e
    · rw [b2i_t hb] at kw1
      by_cases he : ¬ f < 0 ∧ ¬ 2 < f
      · rw [b2i_t he] at kw2
        obtain ⟨c, hc, rfl⟩ := ix_of (by omega) ha
        obtain ⟨m, g1, g2, rfl⟩ := in_rng (a := 1) (b := 48) rfl rfl (by decide) (by decide) hb
        obtain ⟨-, -, v3, v4⟩ := PR.2.2.2.2.1 c hc
        obtain ⟨hN, hN1, hN2⟩ : ∃ hN, hN ≤ 999 ∧ hAI h 359 c = nI hN := by
          obtain ⟨j, hj, hj2⟩ := nI_of (x := hAI h 359 c) (by rw [i_lt, t0]; omega)
          rw [hj2, nI_toInt hj] at v4
          exact ⟨j, by omega, hj2⟩
        have hcl : hAI h (p + 6) c = nI hN := ((PR.1 c hc).2.2.1).trans hN2
        -- the first state of the clock
        have FS0 := FS (hAI h 397)
        have hx := FS0.2.2.1 c hc
        have hok : okc (hAI h 359 c) (getc (FQ (hAI h) np nc ne (hAI h 397)).1 c) := FS0.2.2.2.2.2.2.2.1 c hc
        have hgc : getc (FQ (hAI h) np nc ne (hAI h 397)).1 c = (hAI h 360 c, 0, 0) := by
          show (cp nc (hAI h 360) zN c, (0 : Int32), (0 : Int32)) = _
          rw [cp_lt _ _ hc]
        rw [hgc] at hx hok
        obtain ⟨o1, o2, -⟩ := hok
        obtain ⟨mN, mN1, mN2⟩ : ∃ mN, mN ≤ hN ∧ hAI h 360 c = nI mN := by
          obtain ⟨j, hj, hj2⟩ := nI_of (x := hAI h 360 c) (by rw [i_lt, t0]; dsimp only at o1; omega)
          dsimp only at o2
          rw [hj2, hN2, nI_toInt hj, nI_toInt (by omega)] at o2
          exact ⟨j, by omega, hj2⟩
        have hFc : getc (getS h (p + 17)) c = e3 (mN, 0, false) := by
          rw [hx, mN2]
          rfl
        have hF0 : (getS h (p + 17)).1 = 0 := FS0.1
        obtain ⟨u, T, Z, k1⟩ := c_thefts (d := d + 14) (c := c) (n := m) (hN := hN) (m0 := mN) (sh := b) (a := f) Lk0.1 Lk0.2.1 A93 a2 S103 hpb (by omega) hcl hN1 mN1 g2 hF0 hFc
        have q1 : Qt h (putS (putS (sAI h (p + 16) u) 94 T) 103 Z) := (trial_qt h p hp4 u T).1.tr (Qt.st _ 103 Z (by omega))
        have e1 : ∀ a, 349 ≤ a → hAI (putS (putS (sAI h (p + 16) u) 94 T) 103 Z) a = hAI h a := fun a ha => by rw [pS_far _ _ (by omega)]; exact (trial_qt h p hp4 u T).2 a ha
        generalize putS (putS (sAI h (p + 16) u) 94 T) 103 Z = G at k1 q1 e1
        have q2 : Qt h (sFI G 1200 348 0) := q1.tr (th_qt _)
        have e2 : ∀ a, 349 ≤ a → hAI (sFI G 1200 348 0) a = hAI h a := fun a ha => by rw [rd_hAI_sFI]; exact e1 a ha
        have hG : hK G 348 = 13 := by rw [q1.1]; exact m0
        have km' := c_misTimer (d := d + 18) (n := nc) (h := sFI G 1200 348 0) (q2.msh hm) (by rw [e2 350 (by decide)]; exact Lk0.2.2.2.2.2.1.1) (nI c)
        rw [b2i_t ha] at km'
        have kw1' := c_within (d + 18) (nI m) 1 48 (sFI G 1200 348 0)
        have kw2' := c_within (d + 18) f 0 2 (sFI G 1200 348 0)
        rw [b2i_t hb] at kw1'
        rw [b2i_t he] at kw2'
        obtain ⟨τ, y, k2⟩ := c_mtheft (d := d + 13) (len := n) (W := W) (c := c) (n := m) (hN := hN) (mN := mN) (g := sFI G 1200 348 0) (f := hAI (sFI G 1200 348 0) 397) (ρ := hAI (sFI G 1200 348 0)) (w := (hFI (sFI G 1200 348 0) 1265 348, hFI (sFI G 1200 348 0) 1266 348, hFI (sFI G 1200 348 0) 1267 348, hFI (sFI G 1200 348 0) 1268 348)) (sh := b) (a := f) (q2.msh hm) (q2.refm Lk0.2.2.2.2.1) (by omega) (by rw [e2 359 (by decide)]; exact hN2) hN1 mN1 (by rw [e2 360 (by decide)]; exact mN2) g2
        rw [hm_self] at k2
        have ekd := (PR.1 c hc).1
        have evN : vN W (hAI (sFI G 1200 348 0) 357) (hAI (sFI G 1200 348 0) 361) (hAI (sFI G 1200 348 0) 369) c = vN W (hAI h (p + 4)) (hAI h (p + 7)) (hAI h (p + 13)) c := by
          funext hr k
          unfold vN
          rw [e2 357 (by decide), e2 361 (by decide), e2 369 (by decide), xth_congr (W := W) (kd := hAI h (p + 4)) (sp := hAI h (p + 7)) (he := hAI h (p + 13)) (PR.1 c hc).1 (PR.1 c hc).2.2.2 PR.2.2.2.1]
        have edw : dewN (hAI (sFI G 1200 348 0) 357) c = dewN (hAI h (p + 4)) c := by
          funext hr
          unfold dewN
          rw [e2 357 (by decide), show hAI h (p + 4) c = hAI h 357 c from ekd]
        have ein : incN (hAI (sFI G 1200 348 0) 357) c = incN (hAI h (p + 4)) c := by
          funext hr
          unfold incN
          rw [e2 357 (by decide), show hAI h (p + 4) c = hAI h 357 c from ekd]
        have eol : decide (hAI (sFI G 1200 348 0) 357 c = 1) = decide (hAI h (p + 4) c = 1) := by
          rw [e2 357 (by decide), show hAI h (p + 4) c = hAI h 357 c from ekd]
        rw [evN, edw, ein, eol] at k2
        generalize thA f (thC (vN W (hAI h (p + 4)) (hAI h (p + 7)) (hAI h (p + 13)) c) (dewN (hAI h (p + 4)) c) (decide (hAI h (p + 4) c = 1)) hN (incN (hAI h (p + 4)) c) (mN, 0, false) b m) m = R at k1 k2
        refine ⟨R, G, HM (sFI G 1200 348 0) (hAI (sFI G 1200 348 0) 397) τ y, ?_, ?_, q1, ?_⟩
        · dsimp only
          rw [q_X11_theft]
          simp only [am_kd, k0, f1102, f61, f93, f112, k61, f62, f71, f76, if_true, if_false, bR_s, bI_s, p0, k93, kc, z1, if_neg hb.1, if_neg hb.2, if_neg he.1, if_neg he.2, k1]
        · dsimp only
          rw [q_X12_theft]
          simp only [am_kd, hG, if_true, if_false, am_let_e, rd_hK_sFI, km', kw1', kw2', bI_s, z1]
          exact k2
        · refine (th_qt G).tr ?_
          have := Qt.hm (g := sFI G 1200 348 0) (f := hAI (sFI G 1200 348 0) 397) (u := hAI (sFI G 1200 348 0) 397) (ρ := hAI (sFI G 1200 348 0)) (τ := τ) (w := (hFI (sFI G 1200 348 0) 1265 348, hFI (sFI G 1200 348 0) 1266 348, hFI (sFI G 1200 348 0) 1267 348, hFI (sFI G 1200 348 0) 1268 348)) (y := y) (fun _ _ => rfl)
          rw [hm_self] at this
          exact this
      · rw [b2i_f he] at kw2
        refine Ans.no (r := -1) ?_ ?_
        · rw [q_X11_theft]
          by_cases c1 : f < 0
          · simp only [am_kd, k0, f1102, f61, f93, f112, k61, f62, f71, f76, if_true, if_false, bR_s, bI_s, p0, kc, z1, if_neg hb.1, if_neg hb.2, if_pos c1]
          · simp only [am_kd, k0, f1102, f61, f93, f112, k61, f62, f71, f76, if_true, if_false, bR_s, bI_s, p0, kc, z1, if_neg hb.1, if_neg hb.2, if_neg c1, if_pos (not_rng he c1)]
        · rw [q_X12_theft]
          simp only [am_kd, m0, if_true, if_false, z1, am_let_e, rd_hK_sFI, km, kw1, kw2, bI_s]
    · rw [b2i_f hb] at kw1
      refine Ans.no (r := -1) ?_ ?_
      · rw [q_X11_theft]
        by_cases c1 : e < 1
        · simp only [am_kd, k0, f1102, f61, f93, f112, k61, f62, f71, f76, if_true, if_false, bR_s, bI_s, p0, kc, z1, if_pos c1]
        · simp only [am_kd, k0, f1102, f61, f93, f112, k61, f62, f71, f76, if_true, if_false, bR_s, bI_s, p0, kc, z1, if_neg c1, if_pos (not_rng hb c1)]
      · rw [q_X12_theft]
        simp only [am_kd, m0, if_true, if_false, z1, am_let_e, rd_hK_sFI, km, kw1, bI_s]
  · rw [b2i_f ha] at kc km
    refine Ans.no (r := -1) ?_ ?_
    · rw [q_X11_theft]
      simp only [am_kd, k0, f1102, f61, f93, f112, k61, f62, f71, f76, if_true, if_false, bR_s, bI_s, p0, kc]
    · rw [q_X12_theft]
      simp only [am_kd, m0, if_true, am_let_e, rd_hK_sFI, km, bI_s]
