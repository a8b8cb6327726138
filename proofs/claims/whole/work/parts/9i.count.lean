/-! Getters: well, way, count. -/
theorem Inv.ex2 {B L : Nat} {xs : Nat → Int32} {h : AH} (I : Inv B L xs h) : hFR h 1100 0 = some 1 ∧ hK h 1 = 10 ∧ (∃ n, hFI h 901 1 = nI n ∧ hFI h 1201 348 = nI n) ∧ ∃ mn, hFI h 1110 0 = nI mn ∧ hFI h 1264 348 = nI mn := by
  obtain ⟨⟨u0, u1, u2, u3, u4, u5, u6, u7, u8, ⟨u9, -⟩, -⟩, s2, s3, s4, s5, ⟨n, n1, n2, n3, n4⟩, p, dp, np, nc, ne, nw, len, n', W, t1, t2, t3, t4, t5, t6, t7, t8, ⟨fr, mn, g1, g2, g3, g4, g5, g6⟩⟩ := I
  exact ⟨u1, u9, ⟨n, n2, n3⟩, ⟨mn, g4, g5⟩⟩
theorem st_well {B L d : Nat} {xs : Nat → Int32} {h : AH} (I : Inv B L xs h) (a : Int32) : Ans h (fun h => am_C PG (d + 20) 133 [.ref 0, .int a] h) (fun h => am_C PG (d + 20) 219 [.ref 348, .int a] h) := by
  obtain ⟨k0, f61, f93, f112, k61, f62, f71, f76, S62, D71, H76, A93, a2, S103, Ch, hm, p, np, nc, ne, nw, len, n, W, hr, hp4, f1102, IP, hB, S, D, H⟩ := I.ex
  have hmm := hm
  have m0 := hmm.1
  have f1259 : hFR _ 1259 348 = some 397 := (hmm.2 48 (by decide)).1
  have k397 : hK _ 397 = 50 := (hmm.2 48 (by decide)).2.1
  have n397 : hLN _ 397 = 43 := (hmm.2 48 (by decide)).2.2
  obtain ⟨Lk0, NE, NM, FS, WY⟩ := IP
  have h350 := Lk0.2.2.2.2.2.2.1
  have hn : np ≤ 5 := Lk0.1.2.2.2.2.2.1
  have p0 := Lk0.1.1.1.1
  obtain ⟨z0, zf1, zf2, zf3, zf4, zf5, zf6, zf7, zf8, zk1, zk2, zk3, zk4, zk5, zk6, zk7, zk8, zn1, zn2, zn3, zn4, zn5, zn6, zn7, zn8⟩ := St62 S62
  have hm0 : MSh (sFI h 1200 348 0) := hm.to rfl (fun _ => rfl) rfl
  have z1 : ((1 : Int32) = 0) = False := eq_false (by decide)
  have kc := c_isPlace (d := d + 18) Lk0.1 a
  have km := c_misPlace (d := d + 18) (n := np) (h := sFI h 1200 348 0) hm0 h350 a
  by_cases ha : ¬ a < 0 ∧ a < nI np
  · rw [b2i_t ha] at kc km
    obtain ⟨c, hc, rfl⟩ := ix_of (by omega) ha
    have tc : Int32.toNatClampNeg (nI c) = c := nI_clamp (by omega)
    have ic : ∀ x, am_in (nI c) 5 x = x := am_inN (by omega) (by decide)
    have am : (1 : Int32) + nI c = nI (1 + c) := nI_add 1 c
    have ie : ∀ x, am_in (nI (1 + c)) 43 x = x := am_inN (by omega) (by decide)
    have te : Int32.toNatClampNeg (nI (1 + c)) = 1 + c := nI_clamp (by omega)
    have e : hAI h 69 c = hAI h 397 (1 + c) := S.2.2.2.2.1 c hc
    refine ⟨hAI h 69 c, h, sFI h 1200 348 0, ?_, ?_, Qt.rfl' h, th_qt h⟩
    · dsimp only
      rw [q_X11_well]
      simp only [am_kd, k0, f1102, f61, k61, f62, if_true, if_false, bR_s, bI_s, p0, z0, zf1, zf2, zf3, zf4, zf5, zf6, zf7, zf8, zk1, zk2, zk3, zk4, zk5, zk6, zk7, zk8, zn1, zn2, zn3, zn4, zn5, zn6, zn7, zn8, kc, z1, ic, tc]
    · dsimp only
      rw [q_X12_well, e]
      simp only [am_kd, m0, f1259, k397, n397, if_true, if_false, am_let_e, rd_hK_sFI, rd_hFR_sFI, rd_hLN_sFI, rd_hAI_sFI, km, bI_s, bR_s, z1, am, ie, te]
  · rw [b2i_f ha] at kc km
    refine ⟨-1, h, sFI h 1200 348 0, ?_, ?_, Qt.rfl' h, th_qt h⟩
    · dsimp only
      rw [q_X11_well]
      simp only [am_kd, k0, f1102, f61, k61, f62, if_true, if_false, bR_s, bI_s, p0, kc]
    · dsimp only
      rw [q_X12_well]
      simp only [am_kd, m0, if_true, am_let_e, rd_hK_sFI, km, bI_s]
theorem st_way {B L d : Nat} {xs : Nat → Int32} {h : AH} (I : Inv B L xs h) (a b : Int32) : Ans h (fun h => am_C PG (d + 20) 134 [.ref 0, .int a, .int b] h) (fun h => am_C PG (d + 20) 220 [.ref 348, .int a, .int b] h) := by
  obtain ⟨k0, f61, f93, f112, k61, f62, f71, f76, S62, D71, H76, A93, a2, S103, Ch, hm, p, np, nc, ne, nw, len, n, W, hr, hp4, f1102, IP, hB, S, D, H⟩ := I.ex
  have hmm := hm
  have m0 := hmm.1
  have f1247 : hFR _ 1247 348 = some 385 := (hmm.2 36 (by decide)).1
  have k385 : hK _ 385 = 50 := (hmm.2 36 (by decide)).2.1
  have n385 : hLN _ 385 = 25 := (hmm.2 36 (by decide)).2.2
  obtain ⟨Lk0, NE, NM, FS, WY⟩ := IP
  have h350 := Lk0.2.2.2.2.2.2.1
  have hn : np ≤ 5 := Lk0.1.2.2.2.2.2.1
  have p0 := Lk0.1.1.1.1
  have hm0 : MSh (sFI h 1200 348 0) := hm.to rfl (fun _ => rfl) rfl
  have z1 : ((1 : Int32) = 0) = False := eq_false (by decide)
  have kc := c_isPlace (d := d + 18) Lk0.1 a
  have km := c_misPlace (d := d + 18) (n := np) (h := sFI h 1200 348 0) hm0 h350 a
  have kc2 := c_isPlace (d := d + 18) Lk0.1 b
  have km2 := c_misPlace (d := d + 18) (n := np) (h := sFI h 1200 348 0) hm0 h350 b
  by_cases ha : ¬ a < 0 ∧ a < nI np
  · rw [b2i_t ha] at kc km
    obtain ⟨c, hc, rfl⟩ := ix_of (by omega) ha
    by_cases hb : ¬ b < 0 ∧ b < nI np
    · rw [b2i_t hb] at kc2 km2
      obtain ⟨e, he, rfl⟩ := ix_of (by omega) hb
      have ks := c_short (d := d + 18) (q := c) (t := e) Lk0.1 (by omega) (by omega)
      have m1 : (5 : Int32) * nI c + nI e = nI (5 * c + e) := by rw [show (5 : Int32) = nI 5 from rfl, pk_mul, nI_add]
      have i1 : ∀ x, am_in (nI (5 * c + e)) 25 x = x := am_inN (by omega) (by decide)
      have t1 : Int32.toNatClampNeg (nI (5 * c + e)) = 5 * c + e := nI_clamp (by omega)
      refine ⟨hAI h (p + 3) (5 * c + e), h, sFI h 1200 348 0, ?_, ?_, Qt.rfl' h, th_qt h⟩
      · dsimp only
        rw [q_X11_way]
        simp only [am_kd, k0, f1102, f61, k61, f62, if_true, if_false, bR_s, bI_s, p0, kc, kc2, z1, ks]
      · dsimp only
        rw [q_X12_way]
        rcases NE c e hc he with ⟨e1, e2⟩ | ⟨k, k1, e1, e2⟩
        · have d1 : ((100000 : Int32) < 100000) = False := eq_false (by decide)
          simp only [am_kd, m0, f1247, k385, n385, if_true, if_false, am_let_e, rd_hK_sFI, rd_hFR_sFI, rd_hLN_sFI, rd_hAI_sFI, km, km2, bI_s, bR_s, z1, m1, i1, t1, e1, e2, d1]
        · have d1 : (nI k < 100000) = True := eq_true (by rw [n100k]; exact nI_lt (by omega) (by decide))
          simp only [am_kd, m0, f1247, k385, n385, if_true, if_false, am_let_e, rd_hK_sFI, rd_hFR_sFI, rd_hLN_sFI, rd_hAI_sFI, km, km2, bI_s, bR_s, z1, m1, i1, t1, e1, e2, d1]
    · rw [b2i_f hb] at kc2 km2
      refine ⟨-1, h, sFI h 1200 348 0, ?_, ?_, Qt.rfl' h, th_qt h⟩
      · dsimp only
        rw [q_X11_way]
        simp only [am_kd, k0, f1102, f61, k61, f62, if_true, if_false, bR_s, bI_s, p0, kc, kc2, z1]
      · dsimp only
        rw [q_X12_way]
        simp only [am_kd, m0, if_true, if_false, am_let_e, rd_hK_sFI, km, km2, bI_s, z1]
  · rw [b2i_f ha] at kc km
    refine ⟨-1, h, sFI h 1200 348 0, ?_, ?_, Qt.rfl' h, th_qt h⟩
    · dsimp only
      rw [q_X11_way]
      simp only [am_kd, k0, f1102, f61, k61, f62, if_true, if_false, bR_s, bI_s, p0, kc]
    · dsimp only
      rw [q_X12_way]
      simp only [am_kd, m0, if_true, am_let_e, rd_hK_sFI, km, bI_s]
theorem c_mcnt {d : Nat} {h : AH} (hm : MSh h) : am_R PG (d + 1) 268 39 [some (.ref 348), none, some (.int 0), some (.int 0)] [] h = some (some (.int (sumN (fun k => if hAI h 397 (36 + k) = 1 then 1 else 0) 6)), h) := by
  have m0 := hm.1
  have f1259 : hFR _ 1259 348 = some 397 := (hm.2 48 (by decide)).1
  have k397 : hK _ 397 = 50 := (hm.2 48 (by decide)).2.1
  have n397 : hLN _ 397 = 43 := (hm.2 48 (by decide)).2.2
  have lp : ∀ i, i ≤ 6 → am_R PG (d + 1) 268 39 [some (.ref 348), none, some (.int 0), some (.int 0)] [] h = am_R PG (d + 1) 268 39 [some (.ref 348), none, some (.int (sumN (fun k => if hAI h 397 (36 + k) = 1 then 1 else 0) i)), some (.int (nI i))] [] h := by
    intro i
    induction i with
    | zero => intro _; rfl
    | succ i ih =>
      intro hi
      have e5 : (nI i < (6 : Int32)) = True := eq_true (nI_lt (b := 6) (by omega) (by decide))
      have am : (36 : Int32) + nI i = nI (36 + i) := nI_add 36 i
      have ie : ∀ x, am_in (nI (36 + i)) 43 x = x := am_inN (by omega) (by decide)
      have te : Int32.toNatClampNeg (nI (36 + i)) = 36 + i := nI_clamp (by omega)
      have sn : sumN (fun k => if hAI h 397 (36 + k) = 1 then (1 : Int32) else 0) (i + 1) = sumN (fun k => if hAI h 397 (36 + k) = 1 then 1 else 0) i + (if hAI h 397 (36 + i) = 1 then 1 else 0) := rfl
      rw [ih (by omega), q_X12_count_39, sn]
      by_cases c : hAI h 397 (36 + i) = 1
      · simp only [am_kd, m0, f1259, k397, n397, if_true, bR_s, e5, am, ie, te, if_pos c, nI_1]
      · simp only [am_kd, m0, f1259, k397, n397, if_true, bR_s, e5, am, ie, te, if_neg c, nI_1]
  rw [lp 6 (Nat.le_refl _), q_X12_count_39, if_neg (show ¬ nI 6 < (6 : Int32) by decide)]
theorem SR_wit {M : Nat → Nat → Int32} {np nc ne nw hr : Nat} {R : SV} {f : Nat → Int32} (hn : nw ≤ 6) (h : SR M np nc ne nw hr R (dec f)) : sumN (fun k => if f (36 + k) = 1 then (1 : Int32) else 0) 6 = sumN (fun w => if dn R w = 1 then 1 else 0) nw := by
  obtain ⟨k, hk⟩ : ∃ k, 6 = nw + k := ⟨6 - nw, by omega⟩
  rw [hk, sumN_up k]
  · apply sumN_congr
    intro j hj
    have : dn R j = f (36 + j) := h.2.2.2.2.2.1 j hj
    rw [this]
  · intro j h1 h2
    have : f (36 + j) = 0 := h.2.2.2.2.2.2.2.2.2.2.2.2.2.2 j h1 (by omega)
    rw [this]
    rfl
theorem SR_sips {M : Nat → Nat → Int32} {np nc ne nw hr : Nat} {R : SV} {f : Nat → Int32} (hn : np ≤ 5 ∧ nc ≤ 6 ∧ ne ≤ 4) (h : SR M np nc ne nw hr R (dec f)) : sumN (fun i => f (1 + i)) 5 + sumN (fun i => f (6 + i)) 6 + sumN (fun i => f (28 + i)) 4 = sumF R.2.2.2.2.2.1 (sumF R.2.1 (sumF R.2.2.2.2.2.2.2.1 0 np) nc) ne := by
  obtain ⟨s1, s2, s3, s4, s5, s6, s7, s8, s9, s10, s11, s12, s13, s14, s15⟩ := h
  have e1 : sumN (fun i => f (1 + i)) 5 = sumN R.2.2.2.2.2.2.2.1 np := by
    obtain ⟨k, hk⟩ : ∃ k, 5 = np + k := ⟨5 - np, by omega⟩
    rw [hk, sumN_up k]
    · apply sumN_congr
      intro j hj
      exact (s5 j hj).symm
    · intro j h1 h2
      exact s14 j h1 (by omega)
  have e2 : sumN ((dec f).1.2.1) 6 = sumN R.2.1 nc := by
    obtain ⟨k, hk⟩ : ∃ k, 6 = nc + k := ⟨6 - nc, by omega⟩
    rw [hk, sumN_up k]
    · apply sumN_congr
      intro j hj
      exact (congrArg (fun x => x.1) (s3 j hj)).symm
    · intro j h1 h2
      exact congrArg (fun x => x.1) (s12 j h1 (by omega))
  have e2 : sumN (fun i => f (6 + i)) 6 = sumN R.2.1 nc := e2
  have e3 : sumN (fun i => f (28 + i)) 4 = sumN R.2.2.2.2.2.1 ne := by
    obtain ⟨k, hk⟩ : ∃ k, 4 = ne + k := ⟨4 - ne, by omega⟩
    rw [hk, sumN_up k]
    · apply sumN_congr
      intro j hj
      exact (s4 j hj).2.1.symm
    · intro j h1 h2
      exact (s13 j h1 (by omega)).2.1
  rw [e1, e2, e3, sumF_eq, sumF_eq, sumF_eq, Int32.zero_add]
theorem st_count {B L d : Nat} {xs : Nat → Int32} {h : AH} (I : Inv B L xs h) (a : Int32) : Ans h (fun h => am_C PG (d + 20) 158 [.ref 0, .int a] h) (fun h => am_C PG (d + 20) 268 [.ref 348, .int a] h) := by
  obtain ⟨k0, f61, f93, f112, k61, f62, f71, f76, S62, D71, H76, A93, a2, S103, Ch, hm, p, np, nc, ne, nw, len, n, W, hr, hp4, f1102, IP, hB, S, D, H⟩ := I.ex
  obtain ⟨f1100, k1, ⟨tn, tn1, tn2⟩, ⟨un, un1, un2⟩⟩ := I.ex2
  have hmm := hm
  have m0 := hmm.1
  have f1210 : hFR _ 1210 348 = some 350 := (hmm.2 1 (by decide)).1
  have k350 : hK _ 350 = 50 := (hmm.2 1 (by decide)).2.1
  have n350 : hLN _ 350 = 10 := (hmm.2 1 (by decide)).2.2
  have f1248 : hFR _ 1248 348 = some 386 := (hmm.2 37 (by decide)).1
  have k386 : hK _ 386 = 50 := (hmm.2 37 (by decide)).2.1
  have n386 : hLN _ 386 = 6 := (hmm.2 37 (by decide)).2.2
  have f1253 : hFR _ 1253 348 = some 391 := (hmm.2 42 (by decide)).1
  have k391 : hK _ 391 = 50 := (hmm.2 42 (by decide)).2.1
  have n391 : hLN _ 391 = 5 := (hmm.2 42 (by decide)).2.2
  have f1256 : hFR _ 1256 348 = some 394 := (hmm.2 45 (by decide)).1
  have k394 : hK _ 394 = 50 := (hmm.2 45 (by decide)).2.1
  have n394 : hLN _ 394 = 5 := (hmm.2 45 (by decide)).2.2
  have f1259 : hFR _ 1259 348 = some 397 := (hmm.2 48 (by decide)).1
  have k397 : hK _ 397 = 50 := (hmm.2 48 (by decide)).2.1
  have n397 : hLN _ 397 = 43 := (hmm.2 48 (by decide)).2.2
  obtain ⟨Lk0, NE, NM, FS, WY⟩ := IP
  have hmC := Lk0.2.2.2.2.2.1
  have h350 := Lk0.2.2.2.2.2.2.1
  have PR := Lk0.2.2.2.2.2.2.2.1
  have hn : np ≤ 5 ∧ nc ≤ 6 ∧ ne ≤ 4 ∧ nw ≤ 6 := ⟨Lk0.1.2.2.2.2.2.1, Lk0.1.2.2.2.2.2.2⟩
  have p0 := Lk0.1.1.1.1
  have x1 : hFI h 501 p = hAI h 350 0 := Lk0.1.2.1.trans h350.symm
  have x3 : hFI h 503 p = hAI h 350 2 := Lk0.1.2.2.1.trans hmC.1.symm
  have x4 : hFI h 504 p = hAI h 350 3 := Lk0.1.2.2.2.1.trans hmC.2.1.symm
  have x5 : hFI h 505 p = hAI h 350 4 := Lk0.1.2.2.2.2.1.trans hmC.2.2.1.symm
  have x6 : hFI h 700 62 = hAI h 397 0 := S.1.trans S.2.1.symm
  obtain ⟨dm, dm1, dm2, dm3, -⟩ := D
  obtain ⟨⟨hn1, hn2, hn3, hn4, -⟩, ⟨hn5, hn6, hn7, hn8, -⟩⟩ := H
  have k62 := S62.1
  have k71 := D71.1
  have k76 := H76.1
  have hm0 : MSh (sFI h 1200 348 0) := hm.to rfl (fun _ => rfl) rfl
  have z1 : ((1 : Int32) = 0) = False := eq_false (by decide)
  have kw := c_within (d + 18) a 0 13 (sFI h 1200 348 0)
  have o1 : ∀ k : Nat, k ≠ 1200 → hFI (sFI h 1200 348 0) k 348 = hFI h k 348 := fun k hk => sFI_o _ _ (Or.inl hk)
  have i0 : ∀ x, am_in (0 : Int32) 43 x = x := am_inN (i := 0) (by decide) (by decide)
  have i06 : ∀ x, am_in (0 : Int32) 6 x = x := am_inN (i := 0) (by decide) (by decide)
  have i05 : ∀ x, am_in (0 : Int32) 5 x = x := am_inN (i := 0) (by decide) (by decide)
  have i42 : ∀ x, am_in (42 : Int32) 43 x = x := am_inN (i := 42) (by decide) (by decide)
  have t42 : Int32.toNatClampNeg 42 = 42 := by decide
  rcases i_rng a 13 (by decide) with hb | ⟨k, hk, rfl⟩
  · rw [wt0 (N := 13) (n := 13) rfl (by decide) hb] at kw
    have hf := i_rngF (by decide) hb
    have g0 : (Int32.toInt a = (0 : Int)) = False := eq_false (hf 0 (by decide))
    have g1 : (Int32.toInt a = (1 : Int)) = False := eq_false (hf 1 (by decide))
    have g2 : (Int32.toInt a = (2 : Int)) = False := eq_false (hf 2 (by decide))
    have g3 : (Int32.toInt a = (3 : Int)) = False := eq_false (hf 3 (by decide))
    have g4 : (Int32.toInt a = (4 : Int)) = False := eq_false (hf 4 (by decide))
    have g5 : (Int32.toInt a = (5 : Int)) = False := eq_false (hf 5 (by decide))
    have g6 : (Int32.toInt a = (6 : Int)) = False := eq_false (hf 6 (by decide))
    have g7 : (Int32.toInt a = (7 : Int)) = False := eq_false (hf 7 (by decide))
    have g8 : (Int32.toInt a = (8 : Int)) = False := eq_false (hf 8 (by decide))
    have g9 : (Int32.toInt a = (9 : Int)) = False := eq_false (hf 9 (by decide))
    have g10 : (Int32.toInt a = (10 : Int)) = False := eq_false (hf 10 (by decide))
    have g11 : (Int32.toInt a = (11 : Int)) = False := eq_false (hf 11 (by decide))
    have g12 : (Int32.toInt a = (12 : Int)) = False := eq_false (hf 12 (by decide))
    have g13 : (Int32.toInt a = (13 : Int)) = False := eq_false (hf 13 (by decide))
    refine ⟨-1, h, sFI h 1200 348 0, ?_, ?_, Qt.rfl' h, th_qt h⟩
    · dsimp only
      rw [q_X11_count]
      simp only [if_false, g0, g1, g2, g3, g4, g5, g6, g7, g8, g9, g10, g11, g12, g13]
    · dsimp only
      rw [q_X12_count]
      simp only [am_kd, m0, if_true, am_let_e, kw, bI_s]
  · rw [wt1 (N := 13) (n := 13) rfl (by decide) hk] at kw
    rcases (show k = 0 ∨ k = 1 ∨ k = 2 ∨ k = 3 ∨ k = 4 ∨ k = 5 ∨ k = 6 ∨ k = 7 ∨ k = 8 ∨ k = 9 ∨ k = 10 ∨ k = 11 ∨ k = 12 ∨ k = 13 by omega) with rfl | rfl | rfl | rfl | rfl | rfl | rfl | rfl | rfl | rfl | rfl | rfl | rfl | rfl
    · have ij : ∀ x, am_in (nI 0) 10 x = x := am_inN (by decide) (by decide)
      have tj : Int32.toNatClampNeg (nI 0) = 0 := by decide
      refine ⟨hAI h 350 0, h, sFI h 1200 348 0, ?_, ?_, Qt.rfl' h, th_qt h⟩
      · dsimp only
        rw [q_X11_count]
        simp (decide := true) only [am_kd, k0, f1102, f61, k61, f62, if_true, if_false, bR_s, bI_s, p0, x1]
      · dsimp only
        rw [q_X12_count]
        simp (decide := true) only [am_kd, m0, f1210, k350, n350, f1248, k386, n386, f1253, k391, n391, f1256, k394, n394, f1259, k397, n397, if_true, if_false, am_let_e, rd_hK_sFI, rd_hFR_sFI, rd_hLN_sFI, rd_hAI_sFI, kw, bI_s, bR_s, z1, ij, tj]
    · have ij : ∀ x, am_in (nI 1) 10 x = x := am_inN (by decide) (by decide)
      have tj : Int32.toNatClampNeg (nI 1) = 1 := by decide
      refine ⟨hAI h 350 1, h, sFI h 1200 348 0, ?_, ?_, Qt.rfl' h, th_qt h⟩
      · dsimp only
        rw [q_X11_count]
        simp (decide := true) only [am_kd, k0, f1102, f61, k61, f62, if_true, if_false, bR_s, bI_s, p0, WY]
      · dsimp only
        rw [q_X12_count]
        simp (decide := true) only [am_kd, m0, f1210, k350, n350, f1248, k386, n386, f1253, k391, n391, f1256, k394, n394, f1259, k397, n397, if_true, if_false, am_let_e, rd_hK_sFI, rd_hFR_sFI, rd_hLN_sFI, rd_hAI_sFI, kw, bI_s, bR_s, z1, ij, tj]
    · have ij : ∀ x, am_in (nI 2) 10 x = x := am_inN (by decide) (by decide)
      have tj : Int32.toNatClampNeg (nI 2) = 2 := by decide
      refine ⟨hAI h 350 2, h, sFI h 1200 348 0, ?_, ?_, Qt.rfl' h, th_qt h⟩
      · dsimp only
        rw [q_X11_count]
        simp (decide := true) only [am_kd, k0, f1102, f61, k61, f62, if_true, if_false, bR_s, bI_s, p0, x3]
      · dsimp only
        rw [q_X12_count]
        simp (decide := true) only [am_kd, m0, f1210, k350, n350, f1248, k386, n386, f1253, k391, n391, f1256, k394, n394, f1259, k397, n397, if_true, if_false, am_let_e, rd_hK_sFI, rd_hFR_sFI, rd_hLN_sFI, rd_hAI_sFI, kw, bI_s, bR_s, z1, ij, tj]
    · have ij : ∀ x, am_in (nI 3) 10 x = x := am_inN (by decide) (by decide)
      have tj : Int32.toNatClampNeg (nI 3) = 3 := by decide
      refine ⟨hAI h 350 3, h, sFI h 1200 348 0, ?_, ?_, Qt.rfl' h, th_qt h⟩
      · dsimp only
        rw [q_X11_count]
        simp (decide := true) only [am_kd, k0, f1102, f61, k61, f62, if_true, if_false, bR_s, bI_s, p0, x4]
      · dsimp only
        rw [q_X12_count]
        simp (decide := true) only [am_kd, m0, f1210, k350, n350, f1248, k386, n386, f1253, k391, n391, f1256, k394, n394, f1259, k397, n397, if_true, if_false, am_let_e, rd_hK_sFI, rd_hFR_sFI, rd_hLN_sFI, rd_hAI_sFI, kw, bI_s, bR_s, z1, ij, tj]
    · have ij : ∀ x, am_in (nI 4) 10 x = x := am_inN (by decide) (by decide)
      have tj : Int32.toNatClampNeg (nI 4) = 4 := by decide
      refine ⟨hAI h 350 4, h, sFI h 1200 348 0, ?_, ?_, Qt.rfl' h, th_qt h⟩
      · dsimp only
        rw [q_X11_count]
        simp (decide := true) only [am_kd, k0, f1102, f61, k61, f62, if_true, if_false, bR_s, bI_s, p0, x5]
      · dsimp only
        rw [q_X12_count]
        simp (decide := true) only [am_kd, m0, f1210, k350, n350, f1248, k386, n386, f1253, k391, n391, f1256, k394, n394, f1259, k397, n397, if_true, if_false, am_let_e, rd_hK_sFI, rd_hFR_sFI, rd_hLN_sFI, rd_hAI_sFI, kw, bI_s, bR_s, z1, ij, tj]
    · refine ⟨hAI h 397 0, h, sFI h 1200 348 0, ?_, ?_, Qt.rfl' h, th_qt h⟩
      · dsimp only
        rw [q_X11_count]
        simp (decide := true) only [am_kd, k0, f1102, f61, k61, f62, if_true, if_false, bR_s, bI_s, p0, k62, x6]
      · dsimp only
        rw [q_X12_count]
        simp (decide := true) only [am_kd, m0, f1210, k350, n350, f1248, k386, n386, f1253, k391, n391, f1256, k394, n394, f1259, k397, n397, if_true, if_false, am_let_e, rd_hK_sFI, rd_hFR_sFI, rd_hLN_sFI, rd_hAI_sFI, kw, bI_s, bR_s, z1, i0, nI_cl0]
    · have kq := c_wit (d := d + 18) Lk0.1 S62
      have kq : am_C PG (d + 19) 70 [.ref p, .ref 62] h = some (some (.int (sumN (fun w => if hAI h 70 w = 1 then 1 else 0) nw)), h) := kq
      have kr := c_mcnt (d := d + 19) (h := sFI h 1200 348 0) hm0
      rw [rd_hAI_sFI, SR_wit hn.2.2.2 S] at kr
      have kr : am_R PG (d + 19 + 1) 268 39 [some (.ref 348), none, some (.int 0), some (.int 0)] [] (sFI h 1200 348 0) = some (some (.int (sumN (fun w => if hAI h 70 w = 1 then 1 else 0) nw)), sFI h 1200 348 0) := kr
      refine ⟨sumN (fun w => if hAI h 70 w = 1 then 1 else 0) nw, h, sFI h 1200 348 0, ?_, ?_, Qt.rfl' h, th_qt h⟩
      · dsimp only
        rw [q_X11_count]
        simp (decide := true) only [am_kd, k0, f1102, f61, k61, f62, if_true, if_false, bR_s, bI_s, p0, kq]
      · dsimp only
        rw [q_X12_count]
        simp (decide := true) only [am_kd, m0, f1210, k350, n350, f1248, k386, n386, f1253, k391, n391, f1256, k394, n394, f1259, k397, n397, if_true, if_false, am_let_e, rd_hK_sFI, rd_hFR_sFI, rd_hLN_sFI, rd_hAI_sFI, kw, bI_s, bR_s, z1, kr]
    · have kq := c_paid (d := d + 18) Lk0.1 S62
      have kq : am_C PG (d + 19) 71 [.ref p, .ref 62] h = some (some (.int (sumN (fun w => if dn (getS h 62) w = 1 then rowsP h p 12 w else 0) nw)), h) := kq
      rw [SR_paid PR S] at kq
      have kq : am_C PG (d + 19) 71 [.ref p, .ref 62] h = some (some (.int (hAI h 397 42)), h) := kq
      refine ⟨hAI h 397 42, h, sFI h 1200 348 0, ?_, ?_, Qt.rfl' h, th_qt h⟩
      · dsimp only
        rw [q_X11_count]
        simp (decide := true) only [am_kd, k0, f1102, f61, k61, f62, if_true, if_false, bR_s, bI_s, p0, kq]
      · dsimp only
        rw [q_X12_count]
        simp (decide := true) only [am_kd, m0, f1210, k350, n350, f1248, k386, n386, f1253, k391, n391, f1256, k394, n394, f1259, k397, n397, if_true, if_false, am_let_e, rd_hK_sFI, rd_hFR_sFI, rd_hLN_sFI, rd_hAI_sFI, kw, bI_s, bR_s, z1, i42, t42]
    · refine ⟨nI dm, h, sFI h 1200 348 0, ?_, ?_, Qt.rfl' h, th_qt h⟩
      · dsimp only
        rw [q_X11_count]
        simp (decide := true) only [am_kd, k0, f1102, f61, k61, f62, if_true, if_false, bR_s, bI_s, p0, k71, f71, dm2]
      · dsimp only
        rw [q_X12_count]
        simp (decide := true) only [am_kd, m0, f1210, k350, n350, f1248, k386, n386, f1253, k391, n391, f1256, k394, n394, f1259, k397, n397, if_true, if_false, am_let_e, rd_hK_sFI, rd_hFR_sFI, rd_hLN_sFI, rd_hAI_sFI, kw, bI_s, bR_s, z1, i06, nI_cl0, dm3]
    · refine ⟨nI hn1, h, sFI h 1200 348 0, ?_, ?_, Qt.rfl' h, th_qt h⟩
      · dsimp only
        rw [q_X11_count]
        simp (decide := true) only [am_kd, k0, f1102, f61, k61, f62, if_true, if_false, bR_s, bI_s, p0, k76, f76, hn3]
      · dsimp only
        rw [q_X12_count]
        simp (decide := true) only [am_kd, m0, f1210, k350, n350, f1248, k386, n386, f1253, k391, n391, f1256, k394, n394, f1259, k397, n397, if_true, if_false, am_let_e, rd_hK_sFI, rd_hFR_sFI, rd_hLN_sFI, rd_hAI_sFI, kw, bI_s, bR_s, z1, i05, nI_cl0, hn4]
    · refine ⟨nI hn5, h, sFI h 1200 348 0, ?_, ?_, Qt.rfl' h, th_qt h⟩
      · dsimp only
        rw [q_X11_count]
        simp (decide := true) only [am_kd, k0, f1102, f61, k61, f62, if_true, if_false, bR_s, bI_s, p0, k76, f76, hn7]
      · dsimp only
        rw [q_X12_count]
        simp (decide := true) only [am_kd, m0, f1210, k350, n350, f1248, k386, n386, f1253, k391, n391, f1256, k394, n394, f1259, k397, n397, if_true, if_false, am_let_e, rd_hK_sFI, rd_hFR_sFI, rd_hLN_sFI, rd_hAI_sFI, kw, bI_s, bR_s, z1, i05, nI_cl0, hn8]
    · have ox : hFI (sFI h 1200 348 0) 1264 348 = hFI h 1264 348 := o1 _ (by decide)
      refine ⟨nI un, h, sFI h 1200 348 0, ?_, ?_, Qt.rfl' h, th_qt h⟩
      · dsimp only
        rw [q_X11_count]
        simp (decide := true) only [am_kd, k0, f1102, f61, k61, f62, if_true, if_false, bR_s, bI_s, p0, un1]
      · dsimp only
        rw [q_X12_count]
        simp (decide := true) only [am_kd, m0, f1210, k350, n350, f1248, k386, n386, f1253, k391, n391, f1256, k394, n394, f1259, k397, n397, if_true, if_false, am_let_e, rd_hK_sFI, rd_hFR_sFI, rd_hLN_sFI, rd_hAI_sFI, kw, bI_s, bR_s, z1, ox, un2]
    · have ox : hFI (sFI h 1200 348 0) 1201 348 = hFI h 1201 348 := o1 _ (by decide)
      refine ⟨nI tn, h, sFI h 1200 348 0, ?_, ?_, Qt.rfl' h, th_qt h⟩
      · dsimp only
        rw [q_X11_count]
        simp (decide := true) only [am_kd, k0, f1102, f61, k61, f62, if_true, if_false, bR_s, bI_s, p0, f1100, k1, tn1]
      · dsimp only
        rw [q_X12_count]
        simp (decide := true) only [am_kd, m0, f1210, k350, n350, f1248, k386, n386, f1253, k391, n391, f1256, k394, n394, f1259, k397, n397, if_true, if_false, am_let_e, rd_hK_sFI, rd_hFR_sFI, rd_hLN_sFI, rd_hAI_sFI, kw, bI_s, bR_s, z1, ox, tn2]
    · have kq := c_sips (d := d + 18) Lk0.1 S62
      have kq : am_C PG (d + 19) 74 [.ref p, .ref 62] h = some (some (.int (sumF (hAI h 67) (sumF (hAI h 63) (sumF (hAI h 69) 0 np) nc) ne)), h) := kq
      have kr1 := c_msum (d := d + 18) (r := 397) (a := 1) (n := 5) (len := 43) (h := sFI h 1200 348 0) k397 n397 (by decide) (by decide)
      have kr2 := c_msum (d := d + 18) (r := 397) (a := 6) (n := 6) (len := 43) (h := sFI h 1200 348 0) k397 n397 (by decide) (by decide)
      have kr3 := c_msum (d := d + 18) (r := 397) (a := 28) (n := 4) (len := 43) (h := sFI h 1200 348 0) k397 n397 (by decide) (by decide)
      rw [show nI 1 = (1 : Int32) from rfl, show nI 5 = (5 : Int32) from rfl, rd_hAI_sFI] at kr1
      rw [show nI 6 = (6 : Int32) from rfl, rd_hAI_sFI] at kr2
      rw [show nI 28 = (28 : Int32) from rfl, show nI 4 = (4 : Int32) from rfl, rd_hAI_sFI] at kr3
      have ke : sumN (fun i => hAI h 397 (1 + i)) 5 + sumN (fun i => hAI h 397 (6 + i)) 6 + sumN (fun i => hAI h 397 (28 + i)) 4 = sumF (hAI h 67) (sumF (hAI h 63) (sumF (hAI h 69) 0 np) nc) ne := SR_sips ⟨hn.1, hn.2.1, hn.2.2.1⟩ S
      refine ⟨sumF (hAI h 67) (sumF (hAI h 63) (sumF (hAI h 69) 0 np) nc) ne, h, sFI h 1200 348 0, ?_, ?_, Qt.rfl' h, th_qt h⟩
      · dsimp only
        rw [q_X11_count]
        simp (decide := true) only [am_kd, k0, f1102, f61, k61, f62, if_true, if_false, bR_s, bI_s, p0, kq]
      · dsimp only
        rw [q_X12_count]
        simp (decide := true) only [am_kd, m0, f1210, k350, n350, f1248, k386, n386, f1253, k391, n391, f1256, k394, n394, f1259, k397, n397, if_true, if_false, am_let_e, rd_hK_sFI, rd_hFR_sFI, rd_hLN_sFI, rd_hAI_sFI, kw, bI_s, bR_s, z1, kr1, kr2, kr3, ke]
