/-! judged, late, years: class and reference one behind the other. -/
theorem Ans.no {h : AH} {C M : AH → Option Res} {r : Int32} (c : C h = some (some (.int r), h)) (m : M h = some (some (.int r), sFI h 1200 348 0)) : Ans h C M := ⟨r, h, _, c, m, Qt.rfl' h, th_qt h⟩
theorem Lk.mix {g g2 g3 : AH} {p np nc ne nw len n : Nat} {W : Int32 → Int32 → Int32 → Int32 → Int32} (e1 : hK g3 = hK g2) (e2 : hFR g3 = hFR g2) (e3 : hLN g3 = hLN g2) (e4 : ∀ a, 349 ≤ a → a < 375 → hAI g3 a = hAI g2 a) (h : Lk g g2 p np nc ne nw len n W) : Lk g g3 p np nc ne nw len n W := by
  obtain ⟨h1, h2, h3, h4, h5, h6, h7, h8, h9⟩ := h
  refine ⟨h1, h2, h3, h4.to e1 (fun k => by rw [e2]) e3, h5.to (e4 _ (by decide) (by decide)) (e4 _ (by decide) (by decide)) (e4 _ (by decide) (by decide)), ?_, by rw [e4 _ (by decide) (by decide)]; exact h7, ?_, ?_⟩
  · unfold MoC at h6 ⊢
    rw [e4 350 (by decide) (by decide)]
    exact h6
  · unfold PRow at h8 ⊢
    rw [e4 357 (by decide) (by decide), e4 358 (by decide) (by decide), e4 359 (by decide) (by decide), e4 361 (by decide) (by decide), e4 363 (by decide) (by decide), e4 365 (by decide) (by decide), e4 366 (by decide) (by decide), e4 367 (by decide) (by decide), e4 368 (by decide) (by decide), e4 369 (by decide) (by decide)]
    exact h8
  · unfold StepR at h9 ⊢
    rw [e4 356 (by decide) (by decide)]
    exact h9
/-- the class's scratch: trial State, stack, what is drawn -/
theorem trial_qt (h : AH) (p : Nat) (hp4 : p = 4 ∨ p = 30) (f : Nat → Int32) (T : SV) : Qt h (putS (sAI h (p + 16) f) 94 T) ∧ ∀ a, 349 ≤ a → hAI (putS (sAI h (p + 16) f) 94 T) a = hAI h a :=
  ⟨(Qt.ai _ _ _ (by omega)).tr (Qt.st _ 94 T (by omega)), fun a ha => by rw [pS_far _ _ (by omega), sAI_ne _ _ (by omega)]⟩
theorem Qt.aside (g : AH) (f u : Nat → Int32) (τ : Nat → Nat → Int32) (y : M4) (e : ∀ j, j < 43 → hAI g 397 j = f j) : Qt g (HM (asd g f) (cp 43 f u) τ y) := by
  have q1 : Qt g (asd g f) := (th_qt g).tr (Qt.ai _ 398 _ (by omega))
  refine q1.tr ?_
  have := Qt.hm (g := asd g f) (f := hAI (asd g f) 397) (u := cp 43 f u) (ρ := hAI (asd g f)) (τ := τ) (w := (hFI (asd g f) 1265 348, hFI (asd g f) 1266 348, hFI (asd g f) 1267 348, hFI (asd g f) 1268 348)) (y := y) (fun j hj => by rw [cp_in hj, asd_o _ _ (by decide), e j hj])
  rw [hm_self] at this
  exact this
theorem some_int {r1 r2 : Int32} {g1 g2 : AH} (h : (some (some (Value.int r1), g1) : Option Res) = some (some (Value.int r2), g2)) : r1 = r2 ∧ g1 = g2 := by
  cases h
  exact ⟨rfl, rfl⟩
theorem st_judged {B L d : Nat} {xs : Nat → Int32} {h : AH} (I : Inv B L xs h) (a : Int32) : Ans h (fun h => am_C PG (d + 20) 142 [.ref 0, .int a] h) (fun h => am_C PG (d + 20) 237 [.ref 348, .int a] h) := by
  obtain ⟨k0, f61, f93, f112, k61, f62, f71, f76, S62, D71, H76, A93, a2, S103, Ch, hm, p, np, nc, ne, nw, len, n, W, hr, hp4, f1102, IP, hB, S, D, H⟩ := I.ex
  have m0 := hm.1
  by_cases ha : ¬ a < 0 ∧ ¬ 2 < a
  · obtain ⟨Lk0, NE, NM, FS, WY⟩ := IP
    have hpb : p ≤ 30 := by omega
    have p0 := Lk0.1.1.1.1
    have k93 := A93.1
    obtain ⟨m, d1, d2, d3, d4⟩ := D
    have hL : ∀ k, k < m → LR np nc ne (hAI h 72 k) (hAI h 73 k) (hAI h 74 k) (hAI h 75 k) (hAI h 387 k) (hAI h 388 k) (hAI h 389 k) (hAI h 390 k) := fun k hk => by
      have := d4 k hk
      rw [Nat.mul_zero, Nat.zero_add] at this
      exact this
    obtain ⟨r1, f1, T1, τ1, y1, u1, c1, -⟩ := pr_judge (d := d + 12) (d2 := d + 10) (a := a) (Q := dec (hAI h 397)) (ρ := hAI h) (w := (0, 0, 0, 0)) Lk0 A93 D71 hpb d2 d3 d1 hL FS ha.1 ha.2
    obtain ⟨q1, e1⟩ := trial_qt h p hp4 f1 T1
    generalize hg : putS (sAI h (p + 16) f1) 94 T1 = g1 at c1 q1 e1
    have Lm : Lk h g1 p np nc ne nw len n W := Lk0.mix q1.1 q1.2.1 q1.2.2.1 (fun a h1 h2 => e1 a h1)
    obtain ⟨r2, f2, T2, τ2, y2, u2, c2, m2⟩ := pr_judge (d := d + 12) (d2 := d + 10) (g := h) (g2 := g1) (a := a) (Q := dec (hAI g1 397)) (ρ := hAI g1) (w := (hFI g1 1265 348, hFI g1 1266 348, hFI g1 1267 348, hFI g1 1268 348)) Lm A93 D71 hpb d2 (by rw [e1 386 (by decide)]; exact d3) d1 (fun k hk => by rw [e1 387 (by decide), e1 388 (by decide), e1 389 (by decide), e1 390 (by decide)]; exact hL k hk) (fun f => by
      rw [FQ_M (e1 355 (by decide)) (e1 360 (by decide)) (e1 362 (by decide)) (e1 364 (by decide))]
      exact SR_M (e1 359 (by decide)) (e1 368 (by decide)) (FS f)) ha.1 ha.2
    rw [c1] at c2
    obtain ⟨z1, z2⟩ := some_int c2
    subst z1
    rw [enc_dec, hm_self] at m2
    refine ⟨r1, g1, _, ?_, m2, q1, Qt.aside _ _ _ _ _ (fun j _ => rfl)⟩
    dsimp only
    rw [q_X11_judged, if_neg ha.1, if_neg ha.2]
    simp only [am_kd, k0, f1102, f61, f93, f112, k61, f62, f71, f76, if_true, if_false, bR_s, bI_s, k93, c1]
  · have kw := c_within (d + 18) a 0 2 (sFI h 1200 348 0)
    rw [b2i_f ha] at kw
    refine Ans.no (r := -2) ?_ ?_
    · rw [q_X11_judged]
      by_cases c1 : a < 0
      · rw [if_pos c1]
      · rw [if_neg c1, if_pos (Classical.byContradiction (fun z => ha ⟨c1, z⟩))]
    · rw [q_X12_judged]
      simp only [am_kd, m0, if_true, am_let_e, kw, bI_s]
theorem st_years {B L d : Nat} {xs : Nat → Int32} {h : AH} (I : Inv B L xs h) (hB0 : B < 2 ^ 30) (a b e : Int32) : Ans h (fun h => am_C PG (d + 20) 156 [.ref 0, .int a, .int b, .int e] h) (fun h => am_C PG (d + 20) 266 [.ref 348, .int a, .int b, .int e] h) := by
  obtain ⟨k0, f61, f93, f112, k61, f62, f71, f76, S62, D71, H76, A93, a2, S103, Ch, hm, p, np, nc, ne, nw, len, n, W, hr, hp4, f1102, IP, hB, S, D, H⟩ := I.ex
  have m0 := hm.1
  have kw1 := c_within (d + 18) a 0 9999 (sFI h 1200 348 0)
  have kw2 := c_within (d + 18) b 1 400 (sFI h 1200 348 0)
  have kw3 := c_within (d + 18) e 0 2 (sFI h 1200 348 0)
  have z1 : ((1 : Int32) = 0) = False := eq_false (by decide)
  by_cases ha : ¬ a < 0 ∧ ¬ 9999 < a
  · by_cases hb : ¬ b < 1 ∧ ¬ 400 < b
    · by_cases he : ¬ e < 0 ∧ ¬ 2 < e
      · obtain ⟨Lk0, NE, NM, FS, WY⟩ := IP
        have hpb : p ≤ 30 := by omega
        have p0 := Lk0.1.1.1.1
        have k93 := A93.1
        obtain ⟨s0, s1, rfl⟩ : ∃ s0, s0 ≤ 9999 ∧ a = nI s0 := by
          rcases i_rng a 9999 (by decide) with z | z
          · rcases z with z | z
            · exact absurd z ha.1
            · exact absurd z ha.2
          · exact z
        obtain ⟨m, m1, rfl⟩ : ∃ m, m ≤ 400 ∧ b = nI m := by
          rcases i_rng b 400 (by decide) with z | z
          · rcases z with z | z
            · exact absurd (show b < 1 by rw [i_lt] at z ⊢; rw [t0] at z; rw [t1]; omega) hb.1
            · exact absurd z hb.2
          · exact z
        have hm1 : 1 ≤ m := by
          rcases Nat.eq_zero_or_pos m with z | z
          · subst z
            exact absurd (show nI 0 < (1 : Int32) by decide) hb.1
          · exact z
        obtain ⟨r1, x1, zz1, f1, T1, τ1, y1, u1, c1, -⟩ := pr_years (d := d + 14) (d2 := d + 12) (a := e) (Q := dec (hAI h 397)) (ρ := hAI h) (w := (0, 0, 0, 0)) Lk0 A93 S62 hpb S s1 hm1 m1 (by omega) he.1 he.2
        obtain ⟨q1, e1⟩ := trial_qt (sFJ h 2 93 x1) p hp4 f1 T1
        have q1 := (Qt.fj h 2 93 x1 (by decide)).tr q1
        have e1 : ∀ a, 349 ≤ a → hAI (putS (sAI (sFJ h 2 93 x1) (p + 16) f1) 94 T1) a = hAI h a := fun a ha => e1 a ha
        generalize hg : putS (sAI (sFJ h 2 93 x1) (p + 16) f1) 94 T1 = g1 at c1 q1 e1
        have Lm : Lk h g1 p np nc ne nw len n W := Lk0.mix q1.1 q1.2.1 q1.2.2.1 (fun a h1 h2 => e1 a h1)
        obtain ⟨r2, x2, zz2, f2, T2, τ2, y2, u2, c2, m2⟩ := pr_years (d := d + 14) (d2 := d + 12) (g := h) (g2 := g1) (a := e) (Q := dec (hAI g1 397)) (ρ := hAI g1) (w := (hFI g1 1265 348, hFI g1 1266 348, hFI g1 1267 348, hFI g1 1268 348)) Lm A93 S62 hpb (by rw [e1 397 (by decide)]; exact SR_M (e1 359 (by decide)) (e1 368 (by decide)) S) s1 hm1 m1 (by omega) he.1 he.2
        rw [c1] at c2
        obtain ⟨z1, z2⟩ := some_int c2
        subst z1
        rw [enc_dec, hm_self, ← asd_fj] at m2
        refine ⟨r1, g1, _, ?_, m2, q1, (Qt.fj g1 1281 348 zz2 (by decide)).tr (Qt.aside _ _ _ _ _ (fun j _ => rfl))⟩
        dsimp only
        rw [q_X11_years, if_neg ha.1, if_neg ha.2, if_neg hb.1, if_neg hb.2, if_neg he.1, if_neg he.2]
        simp only [am_kd, k0, f1102, f61, f93, f112, k61, f62, f71, f76, if_true, if_false, bR_s, bI_s, k93, c1]
      · rw [b2i_t ha] at kw1
        rw [b2i_t hb] at kw2
        rw [b2i_f he] at kw3
        refine Ans.no (r := -1) ?_ ?_
        · rw [q_X11_years, if_neg ha.1, if_neg ha.2, if_neg hb.1, if_neg hb.2]
          by_cases c1 : e < 0
          · rw [if_pos c1]
          · rw [if_neg c1, if_pos (Classical.byContradiction (fun z => he ⟨c1, z⟩))]
        · rw [q_X12_years]
          simp only [am_kd, m0, if_true, if_false, z1, am_let_e, kw1, kw2, kw3, bI_s]
    · rw [b2i_t ha] at kw1
      rw [b2i_f hb] at kw2
      refine Ans.no (r := -1) ?_ ?_
      · rw [q_X11_years, if_neg ha.1, if_neg ha.2]
        by_cases c1 : b < 1
        · rw [if_pos c1]
        · rw [if_neg c1, if_pos (Classical.byContradiction (fun z => hb ⟨c1, z⟩))]
      · rw [q_X12_years]
        simp only [am_kd, m0, if_true, if_false, z1, am_let_e, kw1, kw2, bI_s]
  · rw [b2i_f ha] at kw1
    refine Ans.no (r := -1) ?_ ?_
    · rw [q_X11_years]
      by_cases c1 : a < 0
      · rw [if_pos c1]
      · rw [if_neg c1, if_pos (Classical.byContradiction (fun z => ha ⟨c1, z⟩))]
    · rw [q_X12_years]
      simp only [am_kd, m0, if_true, am_let_e, kw1, bI_s]
theorem st_late {B L d : Nat} {xs : Nat → Int32} {h : AH} (I : Inv B L xs h) (hB0 : B < 2 ^ 30) (a b : Int32) : Ans h (fun h => am_C PG (d + 20) 145 [.ref 0, .int a, .int b] h) (fun h => am_C PG (d + 20) 241 [.ref 348, .int a, .int b] h) := by
  obtain ⟨k0, f61, f93, f112, k61, f62, f71, f76, S62, D71, H76, A93, a2, S103, Ch, hm, p, np, nc, ne, nw, len, n, W, hr, hp4, f1102, IP, hB, S, D, H⟩ := I.ex
  have m0 := hm.1
  have kw1 := c_within (d + 18) a 1 240 (sFI h 1200 348 0)
  have kw2 := c_within (d + 18) b (-1) 0 (sFI h 1200 348 0)
  have z1 : ((1 : Int32) = 0) = False := eq_false (by decide)
  by_cases ha : ¬ a < 1 ∧ ¬ 240 < a
  · by_cases hb : ¬ b < (-1) ∧ ¬ 0 < b
    · obtain ⟨Lk0, NE, NM, FS, WY⟩ := IP
      have hpb : p ≤ 30 := by omega
      have p0 := Lk0.1.1.1.1
      have k93 := A93.1
      obtain ⟨m, m1, rfl⟩ : ∃ m, m ≤ 240 ∧ a = nI m := by
        rcases i_rng a 240 (by decide) with z | z
        · rcases z with z | z
          · exact absurd (show a < 1 by rw [i_lt] at z ⊢; rw [t0] at z; rw [t1]; omega) ha.1
          · exact absurd z ha.2
        · exact z
      have hm1 : 1 ≤ m := by
        rcases Nat.eq_zero_or_pos m with z | z
        · subst z
          exact absurd (show nI 0 < (1 : Int32) by decide) ha.1
        · exact z
      have hab : ∃ y, ((b = -1 ∧ y = 0) ∨ (b = 0 ∧ y = 1)) ∧ (if b = 0 then (1 : Int32) else 0) = y := by
        by_cases z : b = 0
        · exact ⟨1, Or.inr ⟨z, rfl⟩, if_pos z⟩
        · refine ⟨0, Or.inl ⟨?_, rfl⟩, if_neg z⟩
          obtain ⟨b1, b2⟩ := hb
          rw [i_lt] at b1 b2
          rw [t0] at b2
          have : (-1 : Int32).toInt = -1 := rfl
          rw [this] at b1
          have hz : ¬ b.toInt = 0 := fun q => z (i_eq.2 q)
          exact i_eq.2 (by rw [this]; omega)
      obtain ⟨y, hy, hy2⟩ := hab
      obtain ⟨r1, f1, T1, τ1, y1, u1, c1, -⟩ := pr_late (d := d + 14) (d2 := d + 13) (a := b) (b := y) (Q := dec (hAI h 397)) (ρ := hAI h) (w := (0, 0, 0, 0)) Lk0 A93 S62 hpb S hm1 m1 (by omega) hy
      obtain ⟨q1, e1⟩ := trial_qt h p hp4 f1 T1
      generalize hg : putS (sAI h (p + 16) f1) 94 T1 = g1 at c1 q1 e1
      have Lm : Lk h g1 p np nc ne nw len n W := Lk0.mix q1.1 q1.2.1 q1.2.2.1 (fun a h1 h2 => e1 a h1)
      obtain ⟨r2, f2, T2, τ2, y2, u2, c2, m2⟩ := pr_late (d := d + 14) (d2 := d + 13) (g := h) (g2 := g1) (a := b) (b := y) (Q := dec (hAI g1 397)) (ρ := hAI g1) (w := (hFI g1 1265 348, hFI g1 1266 348, hFI g1 1267 348, hFI g1 1268 348)) Lm A93 S62 hpb (by rw [e1 397 (by decide)]; exact SR_M (e1 359 (by decide)) (e1 368 (by decide)) S) hm1 m1 (by omega) hy
      rw [c1] at c2
      obtain ⟨z1, z2⟩ := some_int c2
      subst z1
      rw [enc_dec, hm_self] at m2
      refine ⟨r1, g1, _, ?_, m2, q1, Qt.aside _ _ _ _ _ (fun j _ => rfl)⟩
      dsimp only
      rw [q_X11_late, if_neg ha.1, if_neg ha.2, if_neg hb.1, if_neg hb.2]
      by_cases z : b = 0
      · rw [if_pos z] at hy2
        subst hy2
        simp only [am_kd, k0, f1102, f61, f93, f112, k61, f62, f71, f76, if_true, if_false, bR_s, bI_s, k93, if_pos z, c1]
      · rw [if_neg z] at hy2
        subst hy2
        simp only [am_kd, k0, f1102, f61, f93, f112, k61, f62, f71, f76, if_true, if_false, bR_s, bI_s, k93, if_neg z, c1]
    · rw [b2i_t ha] at kw1
      rw [b2i_f hb] at kw2
      refine Ans.no (r := -2) ?_ ?_
      · rw [q_X11_late, if_neg ha.1, if_neg ha.2]
        by_cases c1 : b < (-1)
        · rw [if_pos c1]
        · rw [if_neg c1, if_pos (Classical.byContradiction (fun z => hb ⟨c1, z⟩))]
      · rw [q_X12_late]
        simp only [am_kd, m0, if_true, if_false, z1, am_let_e, kw1, kw2, bI_s]
  · rw [b2i_f ha] at kw1
    refine Ans.no (r := -2) ?_ ?_
    · rw [q_X11_late]
      by_cases c1 : a < 1
      · rw [if_pos c1]
      · rw [if_neg c1, if_pos (Classical.byContradiction (fun z => ha ⟨c1, z⟩))]
    · rw [q_X12_late]
      simp only [am_kd, m0, if_true, am_let_e, kw1, bI_s]
