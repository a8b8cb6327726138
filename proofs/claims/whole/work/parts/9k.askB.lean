/-! shows, stops, siege, truth, laws: class and reference one behind the other. -/
theorem xclks_congr {W : Int32 → Int32 → Int32 → Int32 → Int32} {kd ho sp he kd' ho' sp' he' : Nat → Int32} {hr c : Nat} {x x' : Int32 × Int32 × Int32} (e1 : kd c = kd' c) (e2 : ho c = ho' c) (e3 : sp c = sp' c) (e4 : ∀ j, j < 24 → he j = he' j) (e5 : x = x') : ∀ n, xclks W kd ho sp he hr c x n = xclks W kd' ho' sp' he' hr c x' n
  | 0 => e5
  | n + 1 => by
    unfold xclks
    rw [xclks_congr e1 e2 e3 e4 e5 n, xclk_congr e1 e2 e3 e4]
theorem xstb_congr {W : Int32 → Int32 → Int32 → Int32 → Int32} {kd ho sp he kd' ho' sp' he' : Nat → Int32} {hr c : Nat} {x x' : Int32 × Int32 × Int32} (e1 : kd c = kd' c) (e2 : ho c = ho' c) (e3 : sp c = sp' c) (e4 : ∀ j, j < 24 → he j = he' j) (e5 : x = x') : xstb W kd ho sp he hr c x = xstb W kd' ho' sp' he' hr c x' := by
  funext i
  unfold xstb
  rw [xclks_congr e1 e2 e3 e4 e5]
theorem st_shows {B L d : Nat} {xs : Nat → Int32} {h : AH} (I : Inv B L xs h) (hB0 : B < 2 ^ 30) (a b : Int32) : Ans h (fun h => am_C PG (d + 20) 143 [.ref 0, .int a, .int b] h) (fun h => am_C PG (d + 20) 238 [.ref 348, .int a, .int b] h) := by
  obtain ⟨k0, f61, f93, f112, k61, f62, f71, f76, S62, D71, H76, A93, a2, S103, Ch, hm, p, np, nc, ne, nw, len, n, W, hr, hp4, f1102, IP, hB, S, D, H⟩ := I.ex
  have m0 := hm.1
  obtain ⟨Lk0, NE, NM, FS, WY⟩ := IP
  have hpb : p ≤ 30 := by omega
  have p0 := Lk0.1.1.1.1
  have k93 := A93.1
  have PR := Lk0.2.2.2.2.2.2.2.1
  have hn6 : nc ≤ 6 := Lk0.1.2.2.2.2.2.2.1
  have hm0 : MSh (sFI h 1200 348 0) := hm.to rfl (fun _ => rfl) rfl
  have z1 : ((1 : Int32) = 0) = False := eq_false (by decide)
  have kc := c_isClock (d := d + 18) Lk0.1 a
  have km := c_misTimer (d := d + 18) (n := nc) (h := sFI h 1200 348 0) hm0 Lk0.2.2.2.2.2.1.1 a
  have kw := c_within (d + 18) b 0 240 (sFI h 1200 348 0)
  by_cases ha : ¬ a < 0 ∧ a < nI nc
  · rw [b2i_t ha] at kc km
    by_cases hb : ¬ b < 0 ∧ ¬ 240 < b
    · obtain ⟨c, hc, rfl⟩ := ix_of (by omega) ha
      obtain ⟨m, m1, rfl⟩ : ∃ m, m ≤ 240 ∧ b = nI m := by
        rcases i_rng b 240 (by decide) with z | z
        · rcases z with z | z
          · exact absurd z hb.1
          · exact absurd z hb.2
        · exact z
      obtain ⟨f, T, k1⟩ := c_shown (d := d + 15) (c := c) (n := m) (hr := hr) Lk0.1 Lk0.2.1 A93 S62 (Or.inr (by decide)) (Or.inr (by omega)) (by omega) (by omega) S.1
      obtain ⟨q1, e1⟩ := trial_qt h p hp4 f T
      generalize hg : putS (sAI h (p + 16) f) 94 T = g1 at k1 q1 e1
      have q2 : Qt h (sFI g1 1200 348 0) := q1.tr (th_qt _)
      have e2 : ∀ a, 349 ≤ a → hAI (sFI g1 1200 348 0) a = hAI h a := fun a ha => by rw [rd_hAI_sFI]; exact e1 a ha
      have hx : okc (hAI h 359 c) (getc (dec (hAI h 397)).1 c) := S.2.2.2.2.2.2.2.1 c hc
      have h9 : (hAI h 359 c).toInt ≤ 999 := (PR.2.2.2.2.1 c hc).2.2.2
      have km2 := c_misTimer (d := d + 18) (n := nc) (h := sFI g1 1200 348 0) (q2.msh hm) (by rw [e2 350 (by decide)]; exact Lk0.2.2.2.2.2.1.1) (nI c)
      rw [b2i_t ha] at km2
      have kw2 := c_within (d + 18) (nI m) 0 240 (sFI g1 1200 348 0)
      rw [b2i_t hb] at kw2
      have tk := c_takes (dp := d + 18) (g := sFI g1 1200 348 0) (Q := dec (hAI (sFI g1 1200 348 0) 397)) (ρ := hAI (sFI g1 1200 348 0)) (w := (hFI (sFI g1 1200 348 0) 1265 348, hFI (sFI g1 1200 348 0) 1266 348, hFI (sFI g1 1200 348 0) 1267 348, hFI (sFI g1 1200 348 0) 1268 348)) (q2.msh hm) (show c < 6 by omega)
      rw [enc_dec, hm_self] at tk
      have hx2 : okc (hAI (sFI g1 1200 348 0) 359 c) (getc (dec (hAI (sFI g1 1200 348 0) 397)).1 c) := by rw [e2 359 (by decide), e2 397 (by decide)]; exact hx
      obtain ⟨τ, y, k2⟩ := c_mshows0 (d := d + 14) (g := sFI g1 1200 348 0) (n := m) (len := n) (W := W) (c := c) (hr := hr) (Q := dec (hAI (sFI g1 1200 348 0) 397)) (ρ := hAI (sFI g1 1200 348 0)) (x := getc (dec (hAI (sFI g1 1200 348 0) 397)).1 c) (dr := hFI (sFI g1 1200 348 0) 1268 348) (q2.msh hm) (q2.refm Lk0.2.2.2.2.1) (by omega) (by omega) (by show hAI (sFI g1 1200 348 0) 397 0 = _; rw [e2 397 (by decide)]; exact S.2.1) (by rw [e2 359 (by decide)]; exact h9) hx2
      rw [enc_dec] at k2
      have ev : xclks W (hAI (sFI g1 1200 348 0) 357) (hAI (sFI g1 1200 348 0) 359) (hAI (sFI g1 1200 348 0) 361) (hAI (sFI g1 1200 348 0) 369) hr c (getc (dec (hAI (sFI g1 1200 348 0) 397)).1 c) m = xclks W (hAI h (p + 4)) (hAI h (p + 6)) (hAI h (p + 7)) (hAI h (p + 13)) hr c (getc (getS h 62) c) m := by
        rw [e2 357 (by decide), e2 359 (by decide), e2 361 (by decide), e2 369 (by decide), e2 397 (by decide)]
        exact (xclks_congr (PR.1 c hc).1 (PR.1 c hc).2.2.1 (PR.1 c hc).2.2.2 PR.2.2.2.1 (S.2.2.1 c hc) m).symm
      rw [ev] at k2
      refine ⟨(xclks W (hAI h (p + 4)) (hAI h (p + 6)) (hAI h (p + 7)) (hAI h (p + 13)) hr c (getc (getS h 62) c) m).2.1, g1, HM (sFI g1 1200 348 0) (hAI (sFI g1 1200 348 0) 397) τ y, ?_, ?_, q1, ?_⟩
      · dsimp only
        rw [q_X11_shows]
        simp only [am_kd, k0, f1102, f61, f93, f112, k61, f62, f71, f76, if_true, if_false, bR_s, bI_s, p0, k93, kc, z1, if_neg hb.1, if_neg hb.2, k1]
      · dsimp only
        have hk1 : hK g1 348 = 13 := by rw [q1.1]; exact m0
        rw [q_X12_shows]
        simp only [am_kd, hk1, if_true, if_false, am_let_e, rd_hK_sFI, km2, kw2, bI_s, z1, tk, bV_s]
        exact k2
      · refine (th_qt g1).tr ?_
        have := Qt.hm (g := sFI g1 1200 348 0) (f := hAI (sFI g1 1200 348 0) 397) (u := hAI (sFI g1 1200 348 0) 397) (ρ := hAI (sFI g1 1200 348 0)) (τ := τ) (w := (hFI (sFI g1 1200 348 0) 1265 348, hFI (sFI g1 1200 348 0) 1266 348, hFI (sFI g1 1200 348 0) 1267 348, hFI (sFI g1 1200 348 0) 1268 348)) (y := y) (fun _ _ => rfl)
        rw [hm_self] at this
        exact this
    · rw [b2i_f hb] at kw
      refine Ans.no (r := -1) ?_ ?_
      · rw [q_X11_shows]
        by_cases c1 : b < 0
        · simp only [am_kd, k0, f1102, f61, f93, f112, k61, f62, f71, f76, if_true, if_false, bR_s, bI_s, p0, kc, z1, if_pos c1]
        · simp only [am_kd, k0, f1102, f61, f93, f112, k61, f62, f71, f76, if_true, if_false, bR_s, bI_s, p0, kc, z1, if_neg c1, if_pos (show 240 < b from Classical.byContradiction (fun z => hb ⟨c1, z⟩))]
      · rw [q_X12_shows]
        simp only [am_kd, m0, if_true, if_false, z1, am_let_e, rd_hK_sFI, km, kw, bI_s]
  · rw [b2i_f ha] at kc km
    refine Ans.no (r := -1) ?_ ?_
    · rw [q_X11_shows]
      simp only [am_kd, k0, f1102, f61, f93, f112, k61, f62, f71, f76, if_true, if_false, bR_s, bI_s, p0, kc]
    · rw [q_X12_shows]
      simp only [am_kd, m0, if_true, am_let_e, rd_hK_sFI, km, bI_s]
theorem st_stops {B L d : Nat} {xs : Nat → Int32} {h : AH} (I : Inv B L xs h) (hB0 : B < 2 ^ 30) (a : Int32) : Ans h (fun h => am_C PG (d + 20) 144 [.ref 0, .int a] h) (fun h => am_C PG (d + 20) 240 [.ref 348, .int a] h) := by
  obtain ⟨k0, f61, f93, f112, k61, f62, f71, f76, S62, D71, H76, A93, a2, S103, Ch, hm, p, np, nc, ne, nw, len, n, W, hr, hp4, f1102, IP, hB, S, D, H⟩ := I.ex
  have m0 := hm.1
  obtain ⟨Lk0, NE, NM, FS, WY⟩ := IP
  have hpb : p ≤ 30 := by omega
  have p0 := Lk0.1.1.1.1
  have k93 := A93.1
  have PR := Lk0.2.2.2.2.2.2.2.1
  have hn6 : nc ≤ 6 := Lk0.1.2.2.2.2.2.2.1
  have hm0 : MSh (sFI h 1200 348 0) := hm.to rfl (fun _ => rfl) rfl
  have z1 : ((1 : Int32) = 0) = False := eq_false (by decide)
  have kc := c_isClock (d := d + 18) Lk0.1 a
  have km := c_misTimer (d := d + 18) (n := nc) (h := sFI h 1200 348 0) hm0 Lk0.2.2.2.2.2.1.1 a
  by_cases ha : ¬ a < 0 ∧ a < nI nc
  · rw [b2i_t ha] at kc km
    obtain ⟨c, hc, rfl⟩ := ix_of (by omega) ha
    obtain ⟨f, T, r, r1, k1⟩ := c_still (d := d + 15) (c := c) (hr := hr) Lk0.1 Lk0.2.1 A93 S62 (Or.inr (by decide)) (Or.inr (by omega)) (by omega) (by omega) S.1
    obtain ⟨q1, e1⟩ := trial_qt h p hp4 f T
    generalize hg : putS (sAI h (p + 16) f) 94 T = g1 at k1 q1 e1
    have q2 : Qt h (sFI g1 1200 348 0) := q1.tr (th_qt _)
    have e2 : ∀ a, 349 ≤ a → hAI (sFI g1 1200 348 0) a = hAI h a := fun a ha => by rw [rd_hAI_sFI]; exact e1 a ha
    have hx : okc (hAI h 359 c) (getc (dec (hAI h 397)).1 c) := S.2.2.2.2.2.2.2.1 c hc
    have h9 : (hAI h 359 c).toInt ≤ 999 := (PR.2.2.2.2.1 c hc).2.2.2
    have km2 := c_misTimer (d := d + 18) (n := nc) (h := sFI g1 1200 348 0) (q2.msh hm) (by rw [e2 350 (by decide)]; exact Lk0.2.2.2.2.2.1.1) (nI c)
    rw [b2i_t ha] at km2
    obtain ⟨g2, b1, b2, b3, b4⟩ := c_mstopsH (d := d + 13) (len := n) (W := W) (c := c) (hr := hr) (q2.msh hm) (q2.refm Lk0.2.2.2.2.1) (by omega) (by omega) (by rw [e2 397 (by decide)]; exact S.2.1) (by rw [e2 359 (by decide)]; exact h9) (by rw [e2 359 (by decide), e2 397 (by decide)]; exact hx)
    have ev : xstb W (hAI (sFI g1 1200 348 0) 357) (hAI (sFI g1 1200 348 0) 359) (hAI (sFI g1 1200 348 0) 361) (hAI (sFI g1 1200 348 0) 369) hr c (getc (dec (hAI (sFI g1 1200 348 0) 397)).1 c) = xstb W (hAI h (p + 4)) (hAI h (p + 6)) (hAI h (p + 7)) (hAI h (p + 13)) hr c (getc (getS h 62) c) := by
      rw [e2 357 (by decide), e2 359 (by decide), e2 361 (by decide), e2 369 (by decide), e2 397 (by decide)]
      exact (xstb_congr (PR.1 c hc).1 (PR.1 c hc).2.2.1 (PR.1 c hc).2.2.2 PR.2.2.2.1 (S.2.2.1 c hc)).symm
    rw [ev, ← fsO_eq r1] at b4
    have hk1 : hK g1 348 = 13 := by rw [q1.1]; exact m0
    refine ⟨r, g1, g2, ?_, ?_, q1, (th_qt g1).tr b1⟩
    · dsimp only
      rw [q_X11_stops]
      simp only [am_kd, k0, f1102, f61, f93, f112, k61, f62, f71, f76, if_true, if_false, bR_s, bI_s, p0, k93, kc, z1, k1]
    · dsimp only
      rw [q_X12_stops]
      simp only [am_kd, hk1, if_true, if_false, am_let_e, rd_hK_sFI, km2, bI_s, z1, b4]
  · rw [b2i_f ha] at kc km
    refine Ans.no (r := -1) ?_ ?_
    · rw [q_X11_stops]
      simp only [am_kd, k0, f1102, f61, f93, f112, k61, f62, f71, f76, if_true, if_false, bR_s, bI_s, p0, kc]
    · rw [q_X12_stops]
      simp only [am_kd, m0, if_true, am_let_e, rd_hK_sFI, km, bI_s]
theorem sTab_rows {W : Int32 → Int32 → Int32 → Int32 → Int32} {M M' : Nat → Nat → Int32} {nc ne nw : Nat} (e : ∀ a, 349 ≤ a → a < 375 → M' a = M a) : sTab W M' nc ne nw = sTab W M nc ne nw := by
  funext c q
  unfold sTab sCost sPay sK
  rw [e 357 (by decide) (by decide), e 361 (by decide) (by decide), e 363 (by decide) (by decide), e 365 (by decide) (by decide), e 366 (by decide) (by decide), e 367 (by decide) (by decide), e 368 (by decide) (by decide), e 369 (by decide) (by decide)]
theorem st_siege {B L d : Nat} {xs : Nat → Int32} {h : AH} (I : Inv B L xs h) (a b : Int32) : Ans h (fun h => am_C PG (d + 20) 146 [.ref 0, .int a, .int b] h) (fun h => am_C PG (d + 20) 245 [.ref 348, .int a, .int b] h) := by
  obtain ⟨k0, f61, f93, f112, k61, f62, f71, f76, S62, D71, H76, A93, a2, S103, Ch, hm, p, np, nc, ne, nw, len, n, W, hr, hp4, f1102, IP, hB, S, D, H⟩ := I.ex
  have m0 := hm.1
  obtain ⟨Lk0, NE, NM, FS, WY⟩ := IP
  have hpb : p ≤ 30 := by omega
  have p0 := Lk0.1.1.1.1
  have k112 := Ch.1
  have PR := Lk0.2.2.2.2.2.2.2.1
  have z1 : ((1 : Int32) = 0) = False := eq_false (by decide)
  have kw1 := c_within (d + 18) a 0 9999 (sFI h 1200 348 0)
  have kw2 := c_within (d + 18) b 0 2 (sFI h 1200 348 0)
  by_cases ha : ¬ a < 0 ∧ ¬ 9999 < a
  · rw [b2i_t ha] at kw1
    by_cases hb : ¬ b < 0 ∧ ¬ 2 < b
    · obtain ⟨f, u, y1, y2, v, k1⟩ := c_besieged (d := d + 15) (M := hAI h) (wa := a) (a := b) Lk0.1 Lk0.2.1 PR Ch hpb
      have q1 : Qt h (SG (sAI (sAI h (p + 16) f) 113 u) y1 y2 v) := by
        unfold SG
        exact ((((Qt.ai _ _ _ (by omega)).tr (Qt.ai _ 113 _ (by omega))).aih 114 _ (by omega)).aih 115 _ (by omega)).fih _ _ _ (by unfold cFld; omega)
      have e1 : ∀ a, 349 ≤ a → hAI (SG (sAI (sAI h (p + 16) f) 113 u) y1 y2 v) a = hAI h a := fun a ha => by rw [SG_o _ _ _ _ (by omega) (by omega), sAI_ne _ _ (by omega), sAI_ne _ _ (by omega)]
      generalize SG (sAI (sAI h (p + 16) f) 113 u) y1 y2 v = g1 at k1 q1 e1
      have q2 : Qt h (sFI g1 1200 348 0) := q1.tr (th_qt _)
      have e2 : ∀ a, 349 ≤ a → hAI (sFI g1 1200 348 0) a = hAI h a := fun a ha => by rw [rd_hAI_sFI]; exact e1 a ha
      have Lm : Lk h (sFI g1 1200 348 0) p np nc ne nw len n W := Lk0.mix q2.1 q2.2.1 q2.2.2.1 (fun a h1 h2 => e2 a h1)
      obtain ⟨u2, τ, k2⟩ := c_msiege (d := d + 15) (wa := a) (a := b) Lm.2.2.2.1 Lm.2.2.2.2.1 Lm.2.2.2.2.2.1 Lm.2.2.2.2.2.2.2.1
      rw [sTab_rows (fun a h1 h2 => e2 a h1)] at k2
      have kw1' := c_within (d + 18) a 0 9999 (sFI g1 1200 348 0)
      have kw2' := c_within (d + 18) b 0 2 (sFI g1 1200 348 0)
      rw [b2i_t ha] at kw1'
      rw [b2i_t hb] at kw2'
      have hk1 : hK g1 348 = 13 := by rw [q1.1]; exact m0
      refine ⟨sAns b (sgC (sTab W (hAI h) nc ne nw) a (2 ^ ne) (2 ^ nc)), g1, QG (sFI g1 1200 348 0) u2 τ, ?_, ?_, q1, (th_qt g1).tr ((Qt.ai _ 402 _ (by omega)).tr (Qt.mv _ _))⟩
      · dsimp only
        rw [q_X11_siege, if_neg ha.1, if_neg ha.2, if_neg hb.1, if_neg hb.2]
        simp only [am_kd, k0, f1102, f61, f93, f112, k61, f62, f71, f76, if_true, if_false, bR_s, bI_s, k112, k1]
      · dsimp only
        rw [q_X12_siege]
        simp only [am_kd, hk1, if_true, if_false, am_let_e, kw1', kw2', bI_s, z1]
        exact k2
    · rw [b2i_f hb] at kw2
      refine Ans.no (r := -1) ?_ ?_
      · rw [q_X11_siege, if_neg ha.1, if_neg ha.2]
        by_cases c1 : b < 0
        · rw [if_pos c1]
        · rw [if_neg c1, if_pos (Classical.byContradiction (fun z => hb ⟨c1, z⟩))]
      · rw [q_X12_siege]
        simp only [am_kd, m0, if_true, if_false, z1, am_let_e, kw1, kw2, bI_s]
  · rw [b2i_f ha] at kw1
    refine Ans.no (r := -1) ?_ ?_
    · rw [q_X11_siege]
      by_cases c1 : a < 0
      · rw [if_pos c1]
      · rw [if_neg c1, if_pos (Classical.byContradiction (fun z => ha ⟨c1, z⟩))]
    · rw [q_X12_siege]
      simp only [am_kd, m0, if_true, am_let_e, kw1, bI_s]
theorem tru_congr {v w : Nat → Int32} (h : ∀ k, k < 2 ^ 31 → v k = w k) : ∀ n, n ≤ 2 ^ 31 → tru v n = tru w n
  | 0, _ => rfl
  | n + 1, hn => by
    unfold tru
    rw [tru_congr h n (by omega), h n (by omega)]
theorem st_truth {B L d : Nat} {xs : Nat → Int32} {h : AH} (I : Inv B L xs h) (a : Int32) : Ans h (fun h => am_C PG (d + 20) 148 [.ref 0, .int a] h) (fun h => am_C PG (d + 20) 248 [.ref 348, .int a] h) := by
  obtain ⟨k0, f61, f93, f112, k61, f62, f71, f76, S62, D71, H76, A93, a2, S103, Ch, hm, p, np, nc, ne, nw, len, n, W, hr, hp4, f1102, IP, hB, S, D, H⟩ := I.ex
  have m0 := hm.1
  have k76 := H76.1
  have z1 : ((1 : Int32) = 0) = False := eq_false (by decide)
  have kw := c_within (d + 18) a 0 3 (sFI h 1200 348 0)
  by_cases ha : ¬ a < 0 ∧ ¬ 3 < a
  · rw [b2i_t ha] at kw
    obtain ⟨⟨s, s1, s2, s3, s4⟩, -⟩ := H
    have k1 := c_true (d := d + 16) H76 s2 s1 a
    have k2 := c_mtruth0 (d := d + 17) (h := sFI h 1200 348 0) (hm.to rfl (fun _ => rfl) rfl) s3 s1 a
    rw [rd_hAI_sFI] at k2
    have ev : ∀ k, k < 2 ^ 31 → nI (xso (fun i => hAI h 393 i < iaway (nI k) (hAI h 392 i)) s) = nI (xso (fun i => hAI h (76 + 2) i < iabs (hAI h (76 + 1) i - nI k)) s) := by
      intro k hk
      have : xso (fun i => hAI h 393 i < iaway (nI k) (hAI h 392 i)) s = xso (fun i => hAI h (76 + 2) i < iabs (hAI h (76 + 1) i - nI k)) s := xso_eq s (fun i hi => by
        obtain ⟨t1, t2, t3⟩ := s4 i hi
        rw [Nat.mul_zero, Nat.zero_add] at t1 t2 t3
        rw [t1, t2, iaway_eq (nI_pos hk) t3])
      rw [this]
    have et := tru_congr (v := fun k => nI (xso (fun i => hAI h 393 i < iaway (nI k) (hAI h 392 i)) s)) (w := fun k => nI (xso (fun i => hAI h (76 + 2) i < iabs (hAI h (76 + 1) i - nI k)) s)) (fun k hk => ev k hk) 1099 (by decide)
    rw [et] at k2
    generalize tru (fun k => nI (xso (fun i => hAI h (76 + 2) i < iabs (hAI h (76 + 1) i - nI k)) s)) 1099 = TT at k1 k2
    refine ⟨tans a TT.1 (nI s) TT, h, sFI h 1200 348 0, ?_, ?_, Qt.rfl' h, th_qt h⟩
    · dsimp only
      rw [q_X11_truth, if_neg ha.1, if_neg ha.2]
      simp only [am_kd, k0, f1102, f61, f93, f112, k61, f62, f71, f76, if_true, if_false, bR_s, bI_s, k76, k1]
    · dsimp only
      rw [q_X12_truth]
      simp only [am_kd, m0, if_true, if_false, am_let_e, kw, bI_s, z1]
      exact k2
  · rw [b2i_f ha] at kw
    refine Ans.no (r := -1) ?_ ?_
    · rw [q_X11_truth]
      by_cases c1 : a < 0
      · rw [if_pos c1]
      · rw [if_neg c1, if_pos (Classical.byContradiction (fun z => ha ⟨c1, z⟩))]
    · rw [q_X12_truth]
      simp only [am_kd, m0, if_true, am_let_e, kw, bI_s]
theorem st_laws {B L d : Nat} {xs : Nat → Int32} {h : AH} (I : Inv B L xs h) (a : Int32) : Ans h (fun h => am_C PG (d + 20) 152 [.ref 0, .int a] h) (fun h => am_C PG (d + 20) 255 [.ref 348, .int a] h) := by
  obtain ⟨k0, f61, f93, f112, k61, f62, f71, f76, S62, D71, H76, A93, a2, S103, Ch, hm, p, np, nc, ne, nw, len, n, W, hr, hp4, f1102, IP, hB, S, D, H⟩ := I.ex
  have m0 := hm.1
  have k112 := Ch.1
  have z1 : ((1 : Int32) = 0) = False := eq_false (by decide)
  have kw := c_within (d + 18) a 0 2 (sFI h 1200 348 0)
  by_cases ha : ¬ a < 0 ∧ ¬ 2 < a
  · obtain ⟨-, ⟨s, s1, s2, s3, s4⟩⟩ := H
    obtain ⟨r1, r2, r3⟩ := Ch.2.2 6 (by decide)
    have r1 : hFR h 110 112 = some 119 := r1
    have r2 : hK h 119 = 50 := r2
    have r3 : hLN h 119 = 91 := r3
    obtain ⟨u, f, f1, k1⟩ := c_lawsOf (d := d + 15) k112 r1 r2 r3 H76 s2 s1 (by decide) (by decide) a
    have q1 : Qt h (sAI h 119 u) := Qt.ai _ _ _ (by omega)
    have q2 : Qt h (sFI (sAI h 119 u) 1200 348 0) := q1.tr (th_qt _)
    have e2 : ∀ a, 349 ≤ a → hAI (sFI (sAI h 119 u) 1200 348 0) a = hAI h a := fun a ha => by rw [rd_hAI_sFI, sAI_ne _ _ (by omega)]
    obtain ⟨u2, f2, g1, k2⟩ := c_mlaws0 (d := d + 16) (h := sFI (sAI h 119 u) 1200 348 0) (q2.msh hm) (by rw [e2 394 (by decide)]; exact s3) s1 a ha.1
    have kw2 := c_within (d + 18) a 0 2 (sFI (sAI h 119 u) 1200 348 0)
    rw [b2i_t ha] at kw2
    have eB : (fun i => xfit (hAI (sFI (sAI h 119 u) 1200 348 0) 395) (hAI (sFI (sAI h 119 u) 1200 348 0) 396) (nI (i / 10)) (nI (i % 10)) s) = (fun i => xfit (hAI h (76 + 3)) (hAI h (76 + 4)) (nI (i / 10)) (nI (i % 10)) s) := by
      funext i
      rw [e2 395 (by decide), e2 396 (by decide)]
      refine xfit_eq _ _ s (fun j hj => ?_)
      obtain ⟨t1, t2⟩ := s4 j hj
      rw [Nat.mul_zero, Nat.zero_add] at t1 t2
      exact ⟨t1.symm, t2.symm⟩
    rw [eB] at g1 k2
    have ef := LeastB.uniq f1 g1
    subst ef
    have hk1 : hK h 348 = 13 := m0
    refine ⟨xlaw (fun i => xfit (hAI h (76 + 3)) (hAI h (76 + 4)) (nI (i / 10)) (nI (i % 10)) s) s a f, sAI h 119 u, sAI (sFI (sAI h 119 u) 1200 348 0) 406 u2, ?_, ?_, q1, (th_qt _).tr (Qt.ai _ 406 _ (by omega))⟩
    · dsimp only
      rw [q_X11_laws, if_neg ha.1, if_neg ha.2]
      simp only [am_kd, k0, f1102, f61, f93, f112, k61, f62, f71, f76, if_true, if_false, bR_s, bI_s, k112, k1]
    · dsimp only
      rw [q_X12_laws]
      simp only [am_kd, rd_hK_sAI, hk1, if_true, if_false, am_let_e, kw2, bI_s, z1]
      exact k2
  · rw [b2i_f ha] at kw
    refine Ans.no (r := -1) ?_ ?_
    · rw [q_X11_laws]
      by_cases c1 : a < 0
      · rw [if_pos c1]
      · rw [if_neg c1, if_pos (Classical.byContradiction (fun z => ha ⟨c1, z⟩))]
    · rw [q_X12_laws]
      simp only [am_kd, m0, if_true, am_let_e, kw, bI_s]
