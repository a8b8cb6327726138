/-! cups, round, rests: class and reference one behind the other. -/
theorem st_cups {B L d : Nat} {xs : Nat → Int32} {h : AH} (I : Inv B L xs h) (hB0 : B < 2 ^ 30) (a b e : Int32) : Ans h (fun h => am_C PG (d + 20) 154 [.ref 0, .int a, .int b, .int e] h) (fun h => am_C PG (d + 20) 259 [.ref 348, .int a, .int b, .int e] h) := by
  obtain ⟨k0, f61, f93, f112, k61, f62, f71, f76, S62, D71, H76, A93, a2, S103, Ch, hm, p, np, nc, ne, nw, len, n, W, hr, hp4, f1102, IP, hB, S, D, H⟩ := I.ex
  have m0 := hm.1
  obtain ⟨Lk0, NE, NM, FS, WY⟩ := IP
  have p0 := Lk0.1.1.1.1
  have k112 := Ch.1
  have PR := Lk0.2.2.2.2.2.2.2.1
  have hn6 : nc ≤ 6 := Lk0.1.2.2.2.2.2.2.1
  have z1 : ((1 : Int32) = 0) = False := eq_false (by decide)
  have kw1 := c_within (d + 18) a 1 9999 (sFI h 1200 348 0)
  have kw2 := c_within (d + 18) b 1 99 (sFI h 1200 348 0)
  have kw3 := c_within (d + 18) e 0 1 (sFI h 1200 348 0)
  by_cases ha : ¬ a < 1 ∧ ¬ 9999 < a
  · rw [b2i_t ha] at kw1
    by_cases hb : ¬ b < 1 ∧ ¬ 99 < b
    · rw [b2i_t hb] at kw2
      by_cases he : ¬ e < 0 ∧ ¬ 1 < e
      · rw [b2i_t he] at kw3
        obtain ⟨HH, g1, g2, rfl⟩ := in_rng (a := 1) (b := 9999) rfl rfl (by decide) (by decide) ha
        obtain ⟨m, g3, g4, rfl⟩ := in_rng (a := 1) (b := 99) rfl rfl (by decide) (by decide) hb
        obtain ⟨G, q1, k1⟩ := c_fewest (d := d + 9) (s := 62) (hr := hr) (n := m) (H := HH) (a := e) Lk0.1 Lk0.2.1 Ch S62 hp4 (Nat.le_refl _) (by omega) g4 (by omega) S.1 g2
        have q2 : Qt h (sFI G 1200 348 0) := q1.tr (th_qt _)
        have Lm := Lk0.qt q2 hp4
        have hG : hK G 348 = 13 := by rw [q1.1]; exact m0
        have kw1' := c_within (d + 18) (nI HH) 1 9999 (sFI G 1200 348 0)
        have kw2' := c_within (d + 18) (nI m) 1 99 (sFI G 1200 348 0)
        have kw3' := c_within (d + 18) e 0 1 (sFI G 1200 348 0)
        rw [b2i_t ha] at kw1'
        rw [b2i_t hb] at kw2'
        rw [b2i_t he] at kw3'
        obtain ⟨G2, q3, k2⟩ := c_mcups (d := d + 10) (len := n) (W := W) (hr := hr) (n := m) (H := HH) (nc := nc) (a := e) (g := sFI G 1200 348 0) Lm.2.2.2.1 Lm.2.2.2.2.1 Lm.2.2.2.2.2.1.1 hn6 g4 (by omega) (by rw [q2.q397 (by decide)]; exact S.2.1) g2
        have r : ∀ a, 349 ≤ a → a < 375 → hAI (sFI G 1200 348 0) a = hAI h a := fun a h1 h2 => q2.row (by unfold cRow; omega)
        have ec : cupA (needN W (hAI (sFI G 1200 348 0) 357) (hAI (sFI G 1200 348 0) 361) (hAI (sFI G 1200 348 0) 369) hr (fun c => hAI (sFI G 1200 348 0) 397 (12 + c)) m) HH nc e = cupA (needN W (hAI h (p + 4)) (hAI h (p + 7)) (hAI h (p + 13)) hr (hAI h (62 + 2)) m) HH nc e := by
          refine (cupA_congr (fun c hc => ?_)).symm
          refine needN_congr ?_ ?_ ?_ ?_
          · rw [r 357 (by decide) (by decide)]; exact (PR.1 c hc).1
          · rw [r 361 (by decide) (by decide)]; exact (PR.1 c hc).2.2.2
          · rw [r 369 (by decide) (by decide)]; exact PR.2.2.2.1
          · rw [q2.q397 (by omega)]
            exact congrArg (fun z : Int32 × Int32 × Int32 => z.2.1) (S.2.2.1 c hc)
        rw [ec] at k2
        generalize cupA (needN W (hAI h (p + 4)) (hAI h (p + 7)) (hAI h (p + 13)) hr (hAI h (62 + 2)) m) HH nc e = R at k1 k2
        refine ⟨R, G, G2, ?_, ?_, q1, (th_qt G).tr q3⟩
        · dsimp only
          rw [q_X11_cups, if_neg ha.1, if_neg ha.2, if_neg hb.1, if_neg hb.2, if_neg he.1, if_neg he.2]
          simp only [am_kd, k0, f1102, f61, f93, f112, k61, f62, f71, f76, if_true, if_false, bR_s, bI_s, k112, k1]
        · dsimp only
          rw [q_X12_cups]
          simp only [am_kd, hG, if_true, if_false, am_let_e, rd_hK_sFI, kw1', kw2', kw3', bI_s, z1]
          exact k2
      · rw [b2i_f he] at kw3
        refine Ans.no (r := -1) ?_ ?_
        · rw [q_X11_cups, if_neg ha.1, if_neg ha.2, if_neg hb.1, if_neg hb.2]
          by_cases c1 : e < 0
          · rw [if_pos c1]
          · rw [if_neg c1, if_pos (not_rng he c1)]
        · rw [q_X12_cups]
          simp only [am_kd, m0, if_true, if_false, z1, am_let_e, kw1, kw2, kw3, bI_s]
    · rw [b2i_f hb] at kw2
      refine Ans.no (r := -1) ?_ ?_
      · rw [q_X11_cups, if_neg ha.1, if_neg ha.2]
        by_cases c1 : b < 1
        · rw [if_pos c1]
        · rw [if_neg c1, if_pos (not_rng hb c1)]
      · rw [q_X12_cups]
        simp only [am_kd, m0, if_true, if_false, z1, am_let_e, kw1, kw2, bI_s]
  · rw [b2i_f ha] at kw1
    refine Ans.no (r := -1) ?_ ?_
    · rw [q_X11_cups]
      by_cases c1 : a < 1
      · rw [if_pos c1]
      · rw [if_neg c1, if_pos (not_rng ha c1)]
    · rw [q_X12_cups]
      simp only [am_kd, m0, if_true, am_let_e, kw1, bI_s]
/-- hours on the way, as they may be none -/
def dmO (t : Int32) : Option Nat := if t < 0 then none else some t.toInt.toNat
theorem dmO_C {t x : Int32} (h : NeR1 t x) : t = oC (dmO t) ∧ x = oM (dmO t) ∧ ∀ k, dmO t = some k → k ≤ 9999 := by
  unfold dmO
  rcases h with ⟨rfl, rfl⟩ | ⟨k, hk, rfl, rfl⟩
  · rw [if_pos (by decide)]
    exact ⟨rfl, rfl, fun k hk => by cases hk⟩
  · rw [if_neg (nI_pos (by omega)), nI_toInt (by omega), Int.toNat_natCast]
    exact ⟨rfl, rfl, fun j hj => by cases hj; exact hk⟩
theorem dlF_congr {S : Nat → Nat} {R R' : Nat → Option Nat} : ∀ n, (∀ i, i < n → R i = R' i) → dlF S R n = dlF S R' n
  | 0, _ => rfl
  | n + 1, h => by
    rw [dlF_s, dlF_s, dlF_congr n (fun i hi => h i (by omega)), h n (by omega)]
theorem st_round {B L d : Nat} {xs : Nat → Int32} {h : AH} (I : Inv B L xs h) (hB0 : B < 2 ^ 30) (a b : Int32) : Ans h (fun h => am_C PG (d + 20) 149 [.ref 0, .int a, .int b] h) (fun h => am_C PG (d + 20) 250 [.ref 348, .int a, .int b] h) := by
  obtain ⟨k0, f61, f93, f112, k61, f62, f71, f76, S62, D71, H76, A93, a2, S103, Ch, hm, p, np, nc, ne, nw, len, n, W, hr, hp4, f1102, IP, hB, S, D, H⟩ := I.ex
  have m0 := hm.1
  obtain ⟨Lk0, NE, NM, FS, WY⟩ := IP
  have p0 := Lk0.1.1.1.1
  have k112 := Ch.1
  have PR := Lk0.2.2.2.2.2.2.2.1
  have hn5 : np ≤ 5 := Lk0.1.2.2.2.2.2.1
  have hn6 : nc ≤ 6 := Lk0.1.2.2.2.2.2.2.1
  have hn4 : ne ≤ 4 := Lk0.1.2.2.2.2.2.2.2.1
  have hm0 : MSh (sFI h 1200 348 0) := hm.to rfl (fun _ => rfl) rfl
  have z1 : ((1 : Int32) = 0) = False := eq_false (by decide)
  have kc := c_isPerson (d := d + 18) Lk0.1 a
  have km := c_misPerson (d := d + 18) (n := ne) (h := sFI h 1200 348 0) hm0 Lk0.2.2.2.2.2.1.2.1 a
  by_cases ha : ¬ a < 0 ∧ a < nI ne
  · rw [b2i_t ha] at kc km
    obtain ⟨e, he, rfl⟩ := ix_of (by omega) ha
    by_cases hb0 : b < 0
    · refine Ans.no (r := -1) ?_ ?_
      · rw [q_X11_round]
        simp only [am_kd, k0, f1102, f61, f93, f112, k61, f62, f71, f76, if_true, if_false, bR_s, bI_s, p0, kc, z1, if_pos hb0]
      · rw [q_X12_round]
        simp only [am_kd, m0, if_true, if_false, z1, am_let_e, rd_hK_sFI, km, bI_s, if_pos hb0]
    · obtain ⟨m, hm31, rfl⟩ := nI_of hb0
      obtain ⟨⟨q0, hq0, hq1⟩, -, -⟩ := S.2.2.2.2.2.2.2.2.1 e he
      have hq1 : hAI h 397 (24 + e) = nI q0 := hq1
      have hqc : hAI h 66 e = nI q0 := ((S.2.2.2.1 e he).1).trans hq1
      obtain ⟨SS, hSS⟩ : ∃ SS : Nat → Nat, ∀ c, c < nc → hAI h 358 c = nI (SS c) ∧ SS c < np := by
        refine ⟨fun c => (hAI h 358 c).toInt.toNat, fun c hc => ?_⟩
        obtain ⟨-, ⟨q, q1, q2⟩, -⟩ := PR.2.2.2.2.1 c hc
        dsimp only
        rw [q2, nI_toInt (by omega), Int.toNat_natCast]
        exact ⟨rfl, q1⟩
      have hx : ∀ c, c < nc → okc (hAI h 359 c) (getc (dec (hAI h 397)).1 c) := fun c hc => S.2.2.2.2.2.2.2.1 c hc
      -- the reference over any quiet heap
      have ref : ∀ G, Qt h G → ∃ G2, Qt G G2 ∧ am_C PG (d + 20) 250 [.ref 348, .int (nI e), .int (nI m)] G = some (some (.int (rdA (cntB (fun j => isS (dlF SS (fun c => fsO (xstb W (hAI h 357) (hAI h 359) (hAI h 361) (hAI h 369) hr c (getc (dec (hAI h 397)).1 c)) 241) nc j)) 5) (rdF (fun x y => dmO (hAI h (p + 3) (5 * x + y))) (dlF SS (fun c => fsO (xstb W (hAI h 357) (hAI h 359) (hAI h 361) (hAI h 369) hr c (getc (dec (hAI h 397)).1 c)) 241) nc) np (cntB (fun j => isS (dlF SS (fun c => fsO (xstb W (hAI h 357) (hAI h 359) (hAI h 361) (hAI h 369) hr c (getc (dec (hAI h 397)).1 c)) 241) nc j)) 5) (fun _ => false) (fun _ => 0) 0 q0 0 none) m)), G2) := by
        intro G q1
        have q2 : Qt h (sFI G 1200 348 0) := q1.tr (th_qt _)
        have Lm := Lk0.qt q2 hp4
        have hG : hK G 348 = 13 := by rw [q1.1]; exact m0
        have r : ∀ a, 349 ≤ a → a < 375 → hAI (sFI G 1200 348 0) a = hAI h a := fun a h1 h2 => q2.row (by unfold cRow; omega)
        have egc : ∀ c, c < 6 → getc (dec (hAI (sFI G 1200 348 0) 397)).1 c = getc (dec (hAI h 397)).1 c := fun c hc => by
          show (hAI (sFI G 1200 348 0) 397 (6 + c), hAI (sFI G 1200 348 0) 397 (12 + c), hAI (sFI G 1200 348 0) 397 (18 + c)) = (hAI h 397 (6 + c), hAI h 397 (12 + c), hAI h 397 (18 + c))
          rw [q2.q397 (by omega), q2.q397 (by omega), q2.q397 (by omega)]
        have km' := c_misPerson (d := d + 18) (n := ne) (h := sFI G 1200 348 0) (q2.msh hm) Lm.2.2.2.2.2.1.2.1 (nI e)
        rw [b2i_t ha] at km'
        obtain ⟨G2, q3, k2⟩ := c_mround (d := d + 8) (np := np) (nc := nc) (ne := ne) (nw := nw) (n := n) (W := W) (hr := hr) (e := e) (q0 := q0) (a := m) (g := sFI G 1200 348 0) (dm := fun x y => dmO (hAI h (p + 3) (5 * x + y))) (S := SS) (q2.msh hm) Lm.2.2.2.2.1 Lm.2.2.2.2.2.2.1 hn5 Lm.2.2.2.2.2.1 (fun x y hx hy => by
          rw [q2.row (a := 385) (by unfold cRow; omega)]
          exact (dmO_C (NE x y hx hy)).2) (fun c hc => by rw [r 358 (by decide) (by decide)]; exact hSS c hc) (by rw [q2.q397 (by decide)]; exact S.2.1) (by omega) (fun c hc => by
          rw [r 359 (by decide) (by decide), egc c (by omega)]
          exact ⟨(PR.2.2.2.2.1 c hc).2.2.2, hx c hc⟩) (by omega) (by rw [q2.q397 (by omega)]; exact hq1) hq0 hm31
        rw [dlF_congr (R' := fun c => fsO (xstb W (hAI h 357) (hAI h 359) (hAI h 361) (hAI h 369) hr c (getc (dec (hAI h 397)).1 c)) 241) nc (fun c hc => by
          rw [r 357 (by decide) (by decide), r 359 (by decide) (by decide), r 361 (by decide) (by decide), r 369 (by decide) (by decide), egc c (by omega)])] at k2
        refine ⟨G2, (th_qt G).tr q3, ?_⟩
        rw [q_X12_round]
        simp only [am_kd, hG, if_true, if_false, am_let_e, rd_hK_sFI, km', bI_s, z1, if_neg hb0]
        exact k2
      by_cases hb5 : 5 < m
      · obtain ⟨G2, q3, k2⟩ := ref h (Qt.rfl' h)
        have hs5 := cntB_le (fun j => isS (dlF SS (fun c => fsO (xstb W (hAI h 357) (hAI h 359) (hAI h 361) (hAI h 369) hr c (getc (dec (hAI h 397)).1 c)) 241) nc j)) 5
        have hra : ∀ s b, s ≤ 5 → rdA s b m = -1 := fun s b hs => by
          cases b with
          | none => rfl
          | some bb =>
            obtain ⟨t, O⟩ := bb
            exact if_pos (by omega)
        rw [hra _ _ hs5] at k2
        refine ⟨-1, h, G2, ?_, k2, Qt.rfl' h, q3⟩
        dsimp only
        rw [q_X11_round]
        simp only [am_kd, k0, f1102, f61, f93, f112, k61, f62, f71, f76, if_true, if_false, bR_s, bI_s, p0, kc, z1, if_neg hb0, if_pos (show (5 : Int32) < nI m from nI_lt (a := 5) hb5 hm31)]
      · obtain ⟨G, q1, k1⟩ := c_bestRound (d := d + 7) (p := p) (np := np) (nc := nc) (ne := ne) (nw := nw) (len := len) (n := n) (W := W) (hr := hr) (e := e) (q0 := q0) (a := m) (g := h) (dm := fun x y => dmO (hAI h (p + 3) (5 * x + y))) (S := SS) Lk0 hp4 Ch A93 S62 (fun x y hx hy => ⟨(dmO_C (NE x y hx hy)).1, (dmO_C (NE x y hx hy)).2.2⟩) (fun c hc => ⟨((PR.1 c hc).2.1).trans (hSS c hc).1, (hSS c hc).2⟩) S.1 (by omega) (by omega) hqc hq0 (by omega)
        rw [dlF_congr (R' := fun c => fsO (xstb W (hAI h 357) (hAI h 359) (hAI h 361) (hAI h 369) hr c (getc (dec (hAI h 397)).1 c)) 241) nc (fun c hc => by
          rw [xstb_congr (W := W) (kd := hAI h (p + 4)) (ho := hAI h (p + 6)) (sp := hAI h (p + 7)) (he := hAI h (p + 13)) (PR.1 c hc).1 (PR.1 c hc).2.2.1 (PR.1 c hc).2.2.2 PR.2.2.2.1 (S.2.2.1 c hc)])] at k1
        obtain ⟨G2, q3, k2⟩ := ref G q1
        refine ⟨_, G, G2, ?_, k2, q1, q3⟩
        dsimp only
        rw [q_X11_round]
        simp only [am_kd, k0, f1102, f61, f93, f112, k61, f62, f71, f76, if_true, if_false, bR_s, bI_s, p0, k112, kc, z1, if_neg hb0, if_neg (show ¬ (5 : Int32) < nI m from nI_nlt (a := 5) (b := m) (by omega) (by decide)), k1]
  · rw [b2i_f ha] at kc km
    refine Ans.no (r := -1) ?_ ?_
    · rw [q_X11_round]
      simp only [am_kd, k0, f1102, f61, f93, f112, k61, f62, f71, f76, if_true, if_false, bR_s, bI_s, p0, kc]
    · rw [q_X12_round]
      simp only [am_kd, m0, if_true, am_let_e, rd_hK_sFI, km, bI_s]
