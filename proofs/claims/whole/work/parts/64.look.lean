/-! One clock looked at ahead: shownBehind, firstStill against shows, stopsOf. -/
def xclks (W : Int32 → Int32 → Int32 → Int32 → Int32) (kd ho sp he : Nat → Int32) (hr c : Nat) (x : Int32 × Int32 × Int32) : Nat → Int32 × Int32 × Int32
  | 0 => x
  | n + 1 => xclk W kd ho sp he (hr + n) c (xclks W kd ho sp he hr c x n)
theorem xclks_ok {W : Int32 → Int32 → Int32 → Int32 → Int32} {kd ho sp he : Nat → Int32} {hr c : Nat} {x : Int32 × Int32 × Int32} (hh : (ho c).toInt ≤ 999) (h : okc (ho c) x) : ∀ n, okc (ho c) (xclks W kd ho sp he hr c x n)
  | 0 => h
  | n + 1 => xclk_ok hh (xclks_ok hh h n)
/-- one hour of one clock of the trial State -/
theorem c_ahead1 {d p np nc ne nw len c hr t : Nat} {W : Int32 → Int32 → Int32 → Int32 → Int32} {g : AH} {T : SV} {u : Nat → Int32} {x : Int32 × Int32 × Int32} (hp : PoC g p np nc ne nw) (hl : PoL g p len W) (hs : StSh g t) (hd : Dj p t) (hc : c < 6) (hh : hr < 2 ^ 31) (hT : T.1 = nI hr) (hx : getc T c = x) :
    ∃ f T2, am_C PG (d + 3) 61 [.ref p, .ref t, .int (nI c)] (putS (sAI g (p + 16) u) t T) = some (none, putS (sAI g (p + 16) f) t T2) ∧ T2.1 = nI hr ∧ getc T2 c = xclk W (hAI g (p + 4)) (hAI g (p + 6)) (hAI g (p + 7)) (hAI g (p + 13)) hr c x := by
  obtain ⟨f, k⟩ := c_pclk (d := d) (g := sAI g (p + 16) u) (R := T) hp.scr (hl.scr (by omega)) (hs.to rfl rfl rfl) hd hc hh hT
  rw [sAI_sAI, sAI_ne _ _ (by omega), sAI_ne _ _ (by omega), sAI_ne _ _ (by omega), sAI_ne _ _ (by omega), hx] at k
  exact ⟨f, _, k, hT, getc_setc _ _ _⟩
/-- Ahead at q with its trial State at t -/
def AhSh (g : AH) (q t : Nat) : Prop := hK g q = 1 ∧ hFR g 0 q = some t ∧ StSh g t
theorem c_shown {d p q t o np nc ne nw len c hr n : Nat} {W : Int32 → Int32 → Int32 → Int32 → Int32} {g : AH} (hp : PoC g p np nc ne nw) (hl : PoL g p len W) (ha : AhSh g q t) (ho : StSh g o) (hto : t + 8 < o ∨ o + 8 < t) (hd : Dj p t) (hc : c < 6) (hh : hr + n < 2 ^ 31) (hR : (getS g o).1 = nI hr) :
    ∃ f T, am_C PG (d + 4) 2 [.ref q, .ref p, .ref o, .int (nI c), .int (nI n)] g = some (some (.int (xclks W (hAI g (p + 4)) (hAI g (p + 6)) (hAI g (p + 7)) (hAI g (p + 13)) hr c (getc (getS g o) c) n).2.1), putS (sAI g (p + 16) f) t T) := by
  obtain ⟨a1, a2, a3⟩ := ha
  have hs := a3
  have p0 := hp.1.1.1
  have k0 := c_copyc (d := d + 2) (R := getS g t) a3 ho hto hc
  rw [putS_get] at k0
  obtain ⟨s0, sf1, sf2, sf3, sf4, sf5, sf6, sf7, sf8, sk1, sk2, sk3, sk4, sk5, sk6, sk7, sk8, sn1, sn2, sn3, sn4, sn5, sn6, sn7, sn8⟩ := a3
  have lp : ∀ i, i ≤ n → ∃ f T, am_C PG (d + 4) 2 [.ref q, .ref p, .ref o, .int (nI c), .int (nI n)] g = am_R PG (d + 4) 2 12 [some (.ref q), some (.ref p), none, some (.int (nI c)), some (.int (nI n)), some (.int (nI i))] [] (putS (sAI g (p + 16) f) t T) ∧ T.1 = nI (hr + i) ∧ getc T c = xclks W (hAI g (p + 4)) (hAI g (p + 6)) (hAI g (p + 7)) (hAI g (p + 13)) hr c (getc (getS g o) c) i := by
    intro i
    induction i with
    | zero =>
      intro _
      refine ⟨hAI g (p + 16), xcpc c (getS g o) (getS g t), ?_, hR, getc_setc _ _ _⟩
      rw [q_X0_shownBehind, sAI_self]
      simp only [am_kd, a1, a2, s0, if_true, bR_s, k0, bV_s]
      rfl
    | succ i ih =>
      intro hi
      obtain ⟨f, T, k1, k2, k3⟩ := ih (by omega)
      obtain ⟨f2, T2, k4, k5, k6⟩ := c_ahead1 (d := d) (u := f) hp hl hs hd hc (show hr + i < 2 ^ 31 by omega) k2 k3
      have e5 : (nI i < nI n) = True := eq_true (nI_lt (by omega) (by omega))
      refine ⟨f2, (T2.1 + 1, T2.2), ?_, by show T2.1 + 1 = _; rw [k5, nI_1]; rfl, k6⟩
      rw [k1, q_X0_shownBehind_12]
      simp only [rd_hK_putS, rd_hFR_putS, rd_hLN_putS, rd_hFJ_putS, rd_hAJ_putS, rd_hAR_putS, rd_hNX_putS, pS_1, pS_2, pS_3, pS_4, pS_5, pS_6, pS_7, pS_8, pS_hr, pE_1, pE_2, pE_3, pE_4, pE_5, pE_6, pE_7, pE_8, putS_sFI, rd_hK_sAI, rd_hFR_sAI, am_kd, a1, a2, p0, s0, if_true, e5, bR_s, k4, bV_s, am_let_e, nI_1]
  obtain ⟨f, T, k1, k2, k3⟩ := lp n (Nat.le_refl _)
  refine ⟨f, T, ?_⟩
  have e3 : ∀ x, am_in (nI c) 6 x = x := am_inN hc (by decide)
  have e4 : Int32.toNatClampNeg (nI c) = c := nI_clamp (by omega)
  rw [k1, q_X0_shownBehind_12, if_neg (nI_nlt (Nat.le_refl _) (by omega))]
  simp only [rd_hK_putS, rd_hFR_putS, rd_hLN_putS, rd_hFJ_putS, rd_hAJ_putS, rd_hAR_putS, rd_hNX_putS, pS_1, pS_2, pS_3, pS_4, pS_5, pS_6, pS_7, pS_8, pS_hr, pE_1, pE_2, pE_3, pE_4, pE_5, pE_6, pE_7, pE_8, putS_sFI, rd_hK_sAI, rd_hFR_sAI, rd_hLN_sAI, am_kd, a1, a2, s0, sf1, sf2, sf3, sf4, sf5, sf6, sf7, sf8, sk1, sk2, sk3, sk4, sk5, sk6, sk7, sk8, sn1, sn2, sn3, sn4, sn5, sn6, sn7, sn8, if_true, bR_s, e3, e4]
  rw [← k3]
  rfl
/-- stands still behind the hour i -/
def xstb (W : Int32 → Int32 → Int32 → Int32 → Int32) (kd ho sp he : Nat → Int32) (hr c : Nat) (x : Int32 × Int32 × Int32) (i : Nat) : Bool := decide ((xclks W kd ho sp he hr c x (i + 1)).2.2 = 1)
theorem c_still {d p q t o np nc ne nw len c hr : Nat} {W : Int32 → Int32 → Int32 → Int32 → Int32} {g : AH} (hp : PoC g p np nc ne nw) (hl : PoL g p len W) (ha : AhSh g q t) (ho : StSh g o) (hto : t + 8 < o ∨ o + 8 < t) (hd : Dj p t) (hc : c < 6) (hh : hr + 241 < 2 ^ 31) (hR : (getS g o).1 = nI hr) :
    ∃ f T r, LeastB (xstb W (hAI g (p + 4)) (hAI g (p + 6)) (hAI g (p + 7)) (hAI g (p + 13)) hr c (getc (getS g o) c)) 0 241 r ∧ am_C PG (d + 4) 3 [.ref q, .ref p, .ref o, .int (nI c)] g = some (some (.int r), putS (sAI g (p + 16) f) t T) := by
  obtain ⟨a1, a2, a3⟩ := ha
  have hs := a3
  have p0 := hp.1.1.1
  have k0 := c_copyc (d := d + 2) (R := getS g t) a3 ho hto hc
  rw [putS_get] at k0
  obtain ⟨s0, sf1, sf2, sf3, sf4, sf5, sf6, sf7, sf8, sk1, sk2, sk3, sk4, sk5, sk6, sk7, sk8, sn1, sn2, sn3, sn4, sn5, sn6, sn7, sn8⟩ := a3
  have e3 : ∀ x, am_in (nI c) 6 x = x := am_inN hc (by decide)
  have e4 : Int32.toNatClampNeg (nI c) = c := nI_clamp (by omega)
  generalize hB : xstb W (hAI g (p + 4)) (hAI g (p + 6)) (hAI g (p + 7)) (hAI g (p + 13)) hr c (getc (getS g o) c) = B
  have lp : ∀ i, i ≤ 241 → (∃ f T r, LeastB B 0 241 r ∧ am_C PG (d + 4) 3 [.ref q, .ref p, .ref o, .int (nI c)] g = some (some (.int r), putS (sAI g (p + 16) f) t T)) ∨ ∃ f T, (∀ j, j < i → B j = false) ∧ am_C PG (d + 4) 3 [.ref q, .ref p, .ref o, .int (nI c)] g = am_R PG (d + 4) 3 12 [some (.ref q), some (.ref p), none, some (.int (nI c)), some (.int (nI i))] [] (putS (sAI g (p + 16) f) t T) ∧ T.1 = nI (hr + i) ∧ getc T c = xclks W (hAI g (p + 4)) (hAI g (p + 6)) (hAI g (p + 7)) (hAI g (p + 13)) hr c (getc (getS g o) c) i := by
    intro i
    induction i with
    | zero =>
      intro _
      refine Or.inr ⟨hAI g (p + 16), xcpc c (getS g o) (getS g t), fun j hj => by omega, ?_, hR, getc_setc _ _ _⟩
      rw [q_X0_firstStill, sAI_self]
      simp only [am_kd, a1, a2, s0, if_true, bR_s, k0, bV_s]
      rfl
    | succ i ih =>
      intro hi
      rcases ih (by omega) with w | ⟨f, T, kb, k1, k2, k3⟩
      · exact Or.inl w
      obtain ⟨f2, T2, k4, k5, k6⟩ := c_ahead1 (d := d) (u := f) hp hl hs hd hc (show hr + i < 2 ^ 31 by omega) k2 k3
      have e5 : ((240 : Int32) < nI i) = False := eq_false (nI_nlt (a := 240) (by omega) (by decide))
      have k7 : am_C PG (d + 4) 3 [.ref q, .ref p, .ref o, .int (nI c)] g = (if T2.2.2.2.1 c = 1 then some (some (.int (nI i)), putS (sAI g (p + 16) f2) t (T2.1 + 1, T2.2)) else am_R PG (d + 4) 3 12 [some (.ref q), some (.ref p), none, some (.int (nI c)), some (.int (nI (i + 1)))] [] (putS (sAI g (p + 16) f2) t (T2.1 + 1, T2.2))) := by
        rw [k1, q_X0_firstStill_12]
        simp only [rd_hK_putS, rd_hFR_putS, rd_hLN_putS, rd_hFJ_putS, rd_hAJ_putS, rd_hAR_putS, rd_hNX_putS, pS_1, pS_2, pS_3, pS_4, pS_5, pS_6, pS_7, pS_8, pS_hr, pE_1, pE_2, pE_3, pE_4, pE_5, pE_6, pE_7, pE_8, putS_sFI, rd_hK_sAI, rd_hFR_sAI, rd_hLN_sAI, am_kd, a1, a2, p0, s0, sf1, sf2, sf3, sf4, sf5, sf6, sf7, sf8, sk1, sk2, sk3, sk4, sk5, sk6, sk7, sk8, sn1, sn2, sn3, sn4, sn5, sn6, sn7, sn8, if_true, if_false, e5, bR_s, k4, bV_s, am_let_e, nI_1, e3, e4]
      have hb : B i = decide (T2.2.2.2.1 c = 1) := by
        rw [← hB]
        unfold xstb
        show decide ((xclk W _ _ _ _ (hr + i) c _).2.2 = 1) = _
        rw [← k6]
        rfl
      by_cases z : T2.2.2.2.1 c = 1
      · rw [if_pos z] at k7
        rw [decide_eq_true z] at hb
        exact Or.inl ⟨f2, _, nI i, Or.inr ⟨i, by omega, by omega, hb, fun j _ hj => kb j hj, rfl⟩, k7⟩
      · rw [if_neg z] at k7
        rw [decide_eq_false z] at hb
        refine Or.inr ⟨f2, (T2.1 + 1, T2.2), fun j hj => ?_, k7, by show T2.1 + 1 = _; rw [k5, nI_1]; rfl, k6⟩
        by_cases e : j = i
        · rw [e, hb]
        · exact kb j (by omega)
  rcases lp 241 (Nat.le_refl _) with w | ⟨f, T, kb, k1, k2, k3⟩
  · exact w
  · refine ⟨f, T, -1, Or.inl ⟨rfl, fun j _ hj => kb j hj⟩, ?_⟩
    rw [k1, q_X0_firstStill_12, if_pos (show (240 : Int32) < nI 241 from nI_lt (a := 240) (by decide) (by decide))]
/-- the reference, from its loops' heads on -/
theorem c_mshows0 {d n len c hr : Nat} {W : Int32 → Int32 → Int32 → Int32 → Int32} {g : AH} {Q : MQv} {ρ : Nat → Nat → Int32} {x : Int32 × Int32 × Int32} {dr : Int32} (hm : MSh g) (hl : MoL g len W) (hc : c < 6) (hh : hr + n < 2 ^ 31) (hQ : Q.1.1 = nI hr) (h9 : (hAI g 359 c).toInt ≤ 999) (hx : okc (hAI g 359 c) x) :
    ∃ τ y, am_R PG (d + 6) 238 33 [some (.ref 348), some (.int (nI c)), some (.int (nI n)), some (.int 0)] [] (HM g (enc Q) ρ (x.1, x.2.1, x.2.2, dr)) = some (some (.int (xclks W (hAI g 357) (hAI g 359) (hAI g 361) (hAI g 369) hr c x n).2.1), HM g (enc Q) τ y) := by
  have hm0 := hm
  have m0 := hm0.1
  have f1259 : hFR _ 1259 348 = some 397 := (hm0.2 48 (by decide)).1
  have k397 : hK _ 397 = 50 := (hm0.2 48 (by decide)).2.1
  have n397 : hLN _ 397 = 43 := (hm0.2 48 (by decide)).2.2
  have e0 : ∀ x, am_in (0 : Int32) 43 x = x := am_inN (i := 0) (by decide) (by decide)
  have lp : ∀ i, i ≤ n → ∃ τ, am_R PG (d + 6) 238 33 [some (.ref 348), some (.int (nI c)), some (.int (nI n)), some (.int 0)] [] (HM g (enc Q) ρ (x.1, x.2.1, x.2.2, dr)) = am_R PG (d + 6) 238 33 [some (.ref 348), some (.int (nI c)), some (.int (nI n)), some (.int (nI i))] [] (HM g (enc Q) τ ((xclks W (hAI g 357) (hAI g 359) (hAI g 361) (hAI g 369) hr c x i).1, (xclks W (hAI g 357) (hAI g 359) (hAI g 361) (hAI g 369) hr c x i).2.1, (xclks W (hAI g 357) (hAI g 359) (hAI g 361) (hAI g 369) hr c x i).2.2, dr)) := by
    intro i
    induction i with
    | zero => intro _; exact ⟨ρ, rfl⟩
    | succ i ih =>
      intro hi
      obtain ⟨τ, k1⟩ := ih (by omega)
      have ok := xclks_ok (W := W) (kd := hAI g 357) (sp := hAI g 361) (he := hAI g 369) (hr := hr) h9 hx i
      simp only [xclks]
      generalize xclks W (hAI g 357) (hAI g 359) (hAI g 361) (hAI g 369) hr c x i = X at k1 ok ⊢
      obtain ⟨τ2, k2⟩ := c_goesM (dp := d) (f := enc Q) (ρ := τ) hm hl (show c < 12 by omega) (show hr + i < 2 ^ 31 by omega) (X.1, X.2.1, X.2.2, dr) (by show ¬ hAI g 359 c < X.1; rw [i_lt]; have := ok.2.1; omega) (by rw [i_lt]; have : (1000 : Int32).toInt = 1000 := rfl; omega)
      have e5 : (nI i < nI n) = True := eq_true (nI_lt (by omega) (by omega))
      refine ⟨τ2, ?_⟩
      rw [k1, q_X12_shows_33]
      simp only [hm_K, hm_R, hm_L, hm_at, hm_E, hm_5, hm_6, hm_7, hm_8, hm_s5, hm_s6, hm_s7, hm_s8, am_kd, m0, f1259, k397, n397, if_true, e5, bR_s, e0, nI_cl0, enc_0, hQ, nI_add, k2, bV_s, nI_1]
  obtain ⟨τ, k1⟩ := lp n (Nat.le_refl _)
  generalize xclks W (hAI g 357) (hAI g 359) (hAI g 361) (hAI g 369) hr c x n = X at k1 ⊢
  refine ⟨τ, (X.1, X.2.1, X.2.2, dr), ?_⟩
  rw [k1, q_X12_shows_33, if_neg (nI_nlt (Nat.le_refl _) (by omega))]
  simp only [hm_K, hm_R, hm_L, hm_at, hm_E, hm_5, hm_6, hm_7, hm_8, hm_s5, hm_s6, hm_s7, hm_s8, am_kd, m0, if_true]
theorem c_mstops {d len c hr : Nat} {W : Int32 → Int32 → Int32 → Int32 → Int32} {g : AH} {Q : MQv} {ρ : Nat → Nat → Int32} {w : M4} (hm : MSh g) (hl : MoL g len W) (hc : c < 6) (hh : hr + 241 < 2 ^ 31) (hQ : Q.1.1 = nI hr) (h9 : (hAI g 359 c).toInt ≤ 999) (hx : okc (hAI g 359 c) (getc Q.1 c)) :
    ∃ τ y r, LeastB (xstb W (hAI g 357) (hAI g 359) (hAI g 361) (hAI g 369) hr c (getc Q.1 c)) 0 241 r ∧ am_C PG (d + 6) 239 [.ref 348, .int (nI c)] (HM g (enc Q) ρ w) = some (some (.int r), HM g (enc Q) τ y) := by
  have hm0 := hm
  have m0 := hm0.1
  have f1259 : hFR _ 1259 348 = some 397 := (hm0.2 48 (by decide)).1
  have k397 : hK _ 397 = 50 := (hm0.2 48 (by decide)).2.1
  have n397 : hLN _ 397 = 43 := (hm0.2 48 (by decide)).2.2
  have e0 : ∀ x, am_in (0 : Int32) 43 x = x := am_inN (i := 0) (by decide) (by decide)
  have kt := c_takes (dp := d + 4) (Q := Q) (ρ := ρ) (w := w) hm hc
  generalize hB : xstb W (hAI g 357) (hAI g 359) (hAI g 361) (hAI g 369) hr c (getc Q.1 c) = B
  have lp : ∀ i, i ≤ 241 → (∃ τ y r, LeastB B 0 241 r ∧ am_C PG (d + 6) 239 [.ref 348, .int (nI c)] (HM g (enc Q) ρ w) = some (some (.int r), HM g (enc Q) τ y)) ∨ ∃ τ, (∀ j, j < i → B j = false) ∧ am_C PG (d + 6) 239 [.ref 348, .int (nI c)] (HM g (enc Q) ρ w) = am_R PG (d + 6) 239 7 [some (.ref 348), some (.int (nI c)), some (.int (nI i))] [] (HM g (enc Q) τ ((xclks W (hAI g 357) (hAI g 359) (hAI g 361) (hAI g 369) hr c (getc Q.1 c) i).1, (xclks W (hAI g 357) (hAI g 359) (hAI g 361) (hAI g 369) hr c (getc Q.1 c) i).2.1, (xclks W (hAI g 357) (hAI g 359) (hAI g 361) (hAI g 369) hr c (getc Q.1 c) i).2.2, w.2.2.2)) := by
    intro i
    induction i with
    | zero =>
      intro _
      refine Or.inr ⟨ρ, fun j hj => by omega, ?_⟩
      rw [q_X12_stopsOf]
      simp only [hm_K, am_kd, m0, if_true, kt, bV_s]
      rfl
    | succ i ih =>
      intro hi
      rcases ih (by omega) with z | ⟨τ, kb, k1⟩
      · exact Or.inl z
      have ok := xclks_ok (W := W) (kd := hAI g 357) (sp := hAI g 361) (he := hAI g 369) (hr := hr) h9 hx i
      have hb : B i = decide ((xclk W (hAI g 357) (hAI g 359) (hAI g 361) (hAI g 369) (hr + i) c (xclks W (hAI g 357) (hAI g 359) (hAI g 361) (hAI g 369) hr c (getc Q.1 c) i)).2.2 = 1) := by
        rw [← hB]
        rfl
      simp only [xclks]
      generalize xclks W (hAI g 357) (hAI g 359) (hAI g 361) (hAI g 369) hr c (getc Q.1 c) i = X at k1 ok hb ⊢
      obtain ⟨τ2, k2⟩ := c_goesM (dp := d) (f := enc Q) (ρ := τ) hm hl (show c < 12 by omega) (show hr + i < 2 ^ 31 by omega) (X.1, X.2.1, X.2.2, w.2.2.2) (by show ¬ hAI g 359 c < X.1; rw [i_lt]; have := ok.2.1; omega) (by rw [i_lt]; have : (1000 : Int32).toInt = 1000 := rfl; omega)
      dsimp only at k2
      generalize xclk W (hAI g 357) (hAI g 359) (hAI g 361) (hAI g 369) (hr + i) c X = Y at k2 hb ⊢
      have e5 : (nI i < (241 : Int32)) = True := eq_true (nI_lt (b := 241) (by omega) (by decide))
      have k7 : am_C PG (d + 6) 239 [.ref 348, .int (nI c)] (HM g (enc Q) ρ w) = (if Y.2.2 = 1 then some (some (.int (nI i)), HM g (enc Q) τ2 (Y.1, Y.2.1, Y.2.2, w.2.2.2)) else am_R PG (d + 6) 239 7 [some (.ref 348), some (.int (nI c)), some (.int (nI (i + 1)))] [] (HM g (enc Q) τ2 (Y.1, Y.2.1, Y.2.2, w.2.2.2))) := by
        rw [k1, q_X12_stopsOf_7]
        simp only [hm_K, hm_R, hm_L, hm_at, hm_E, hm_5, hm_6, hm_7, hm_8, hm_s5, hm_s6, hm_s7, hm_s8, am_kd, m0, f1259, k397, n397, if_true, e5, bR_s, e0, nI_cl0, enc_0, hQ, nI_add, k2, bV_s, nI_1]
      by_cases z : Y.2.2 = 1
      · rw [if_pos z] at k7
        rw [decide_eq_true z] at hb
        exact Or.inl ⟨τ2, _, nI i, Or.inr ⟨i, by omega, by omega, hb, fun j _ hj => kb j hj, rfl⟩, k7⟩
      · rw [if_neg z] at k7
        rw [decide_eq_false z] at hb
        refine Or.inr ⟨τ2, fun j hj => ?_, k7⟩
        by_cases e : j = i
        · rw [e, hb]
        · exact kb j (by omega)
  rcases lp 241 (Nat.le_refl _) with z | ⟨τ, kb, k1⟩
  · exact z
  · generalize xclks W (hAI g 357) (hAI g 359) (hAI g 361) (hAI g 369) hr c (getc Q.1 c) 241 = X at k1
    refine ⟨τ, (X.1, X.2.1, X.2.2, w.2.2.2), -1, Or.inl ⟨rfl, fun j _ hj => kb j hj⟩, ?_⟩
    rw [k1, q_X12_stopsOf_7, if_neg (show ¬ nI 241 < (241 : Int32) from nI_nlt (b := 241) (Nat.le_refl _) (by decide))]
