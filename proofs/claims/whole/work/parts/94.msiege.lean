/-! A siege: the reference's side. -/
/-- the reference's heap: its sums u, its working rows -/
def QG (g : AH) (u : Nat → Int32) (ρ : Nat → Nat → Int32) : AH := mV (sAI g 402 u) ρ
theorem QG_K (g : AH) (u : Nat → Int32) (ρ : Nat → Nat → Int32) : hK (QG g u ρ) = hK g := rfl
theorem QG_R (g : AH) (u : Nat → Int32) (ρ : Nat → Nat → Int32) : hFR (QG g u ρ) = hFR g := rfl
theorem QG_L (g : AH) (u : Nat → Int32) (ρ : Nat → Nat → Int32) : hLN (QG g u ρ) = hLN g := rfl
theorem QG_at (g : AH) (u : Nat → Int32) (ρ : Nat → Nat → Int32) : hAI (QG g u ρ) 402 = u := by
  unfold QG
  rw [mV_out _ _ (by decide), sAI_at]
theorem QG_o (g : AH) (u : Nat → Int32) (ρ : Nat → Nat → Int32) {a : Nat} (h1 : a ≠ 402) (h2 : a < 375 ∨ 384 < a) : hAI (QG g u ρ) a = hAI g a := by
  unfold QG
  rw [mV_out _ _ h2, sAI_ne _ _ h1]
theorem mV_sAI (h : AH) (ρ : Nat → Nat → Int32) {b : Nat} (f : Nat → Int32) (e : b < 375 ∨ 384 < b) : sAI (mV h ρ) b f = mV (sAI h b f) ρ := by
  apply AH_ext
  all_goals simp only [rd_hK_sFI, rd_hFI_sFI, rd_hFJ_sFI, rd_hFR_sFI, rd_hLN_sFI, rd_hAI_sFI, rd_hAJ_sFI, rd_hAR_sFI, rd_hNX_sFI, rd_hK_sEI, rd_hFI_sEI, rd_hFJ_sEI, rd_hFR_sEI, rd_hLN_sEI, rd_hAI_sEI, rd_hAJ_sEI, rd_hAR_sEI, rd_hNX_sEI, rd_hK_sAI, rd_hFI_sAI, rd_hFJ_sAI, rd_hFR_sAI, rd_hLN_sAI, rd_hAI_sAI, rd_hAJ_sAI, rd_hAR_sAI, rd_hNX_sAI, rd_hK_sCP, rd_hFI_sCP, rd_hFJ_sCP, rd_hFR_sCP, rd_hLN_sCP, rd_hAI_sCP, rd_hAJ_sCP, rd_hAR_sCP, rd_hNX_sCP, rd_hK_mV, rd_hFI_mV, rd_hFJ_mV, rd_hFR_mV, rd_hLN_mV, rd_hAI_mV, rd_hAJ_mV, rd_hAR_mV, rd_hNX_mV]
  funext c
  unfold am_up
  by_cases c1 : c = b
  · rw [if_pos c1, if_neg (by omega)]
    rw [if_pos c1]
  · rw [if_neg c1]
    by_cases c2 : 375 ≤ c ∧ c ≤ 384
    · rw [if_pos c2]
      dsimp only
      rw [if_pos c2]
    · rw [if_neg c2]
      dsimp only
      rw [if_neg c2, if_neg c1]
theorem QG_E (g : AH) (u : Nat → Int32) (ρ : Nat → Nat → Int32) (j : Nat) (v : Int32) : sEI (QG g u ρ) 402 j v = QG g (upd u j v) ρ := by
  rw [sEI_e, QG_at]
  unfold QG
  rw [mV_sAI _ _ _ (by decide), sAI_sAI]
theorem QG_self (g : AH) : QG g (hAI g 402) (hAI g) = g := by
  unfold QG
  rw [sAI_self, mV_self]
theorem c_isKeptWork {d i t e : Nat} {h : AH} {c q : Int32} (hm : MSh h) (hi : i < 12) (ht : hAI h 366 i = nI t) (ht2 : t < 6) (he : hAI h 365 i = nI e) : am_C PG (d + 1) 243 [.ref 348, .int c, .int q, .int (nI i)] h = some (some (.int (bi (sK (hAI h) c q i))), h) := by
  have m0 := hm.1
  have f1226 : hFR _ 1226 348 = some 366 := (hm.2 17 (by decide)).1
  have k366 : hK _ 366 = 50 := (hm.2 17 (by decide)).2.1
  have n366 : hLN _ 366 = 12 := (hm.2 17 (by decide)).2.2
  have f1225 : hFR _ 1225 348 = some 365 := (hm.2 16 (by decide)).1
  have k365 : hK _ 365 = 50 := (hm.2 16 (by decide)).2.1
  have n365 : hLN _ 365 = 12 := (hm.2 16 (by decide)).2.2
  have f1217 : hFR _ 1217 348 = some 357 := (hm.2 8 (by decide)).1
  have k357 : hK _ 357 = 50 := (hm.2 8 (by decide)).2.1
  have n357 : hLN _ 357 = 12 := (hm.2 8 (by decide)).2.2
  have e1 : ∀ x, am_in (nI i) 12 x = x := am_inN hi (by decide)
  have t1 : Int32.toNatClampNeg (nI i) = i := nI_clamp (by omega)
  have e2 : ∀ x, am_in (nI t) 12 x = x := am_inN (by omega) (by decide)
  have t2 : Int32.toNatClampNeg (nI t) = t := nI_clamp (by omega)
  rw [q_X12_isKeptWork]
  unfold sK
  simp only [am_kd, m0, f1226, k366, n366, f1225, k365, n365, f1217, k357, n357, if_true, bR_s, e1, t1, ht, he, e2, t2, am_nar4_0, am_nar4_1]
  by_cases q1 : ((c >>> (nI t &&& 31)) &&& 1) = 1
  · by_cases q2 : ((q >>> (nI e &&& 31)) &&& 1) = 1
    · by_cases q3 : hAI h 357 t = 2
      · simp [q1, q2, q3, bi_f]
      · simp [q1, q2, q3, bi_t]
    · simp [q1, q2, bi_f]
  · simp [q1, bi_f]
theorem c_lastOf {d np nc ne nw : Nat} {h : AH} {P : Nat → Nat → Int32} {c q l3 l4 t : Int32} {key : Nat → Int32} (hm : MSh h) (hn : MoC h nc ne nw) (hP : PRow P (hAI h) np nc ne nw) (hk : ∀ w, w < nw → ((hAI h 366 w = l3 ∨ hAI h 365 w = l4) ↔ key w = t)) :
    am_C PG (d + 2) 242 [.ref 348, .int c, .int q, .int l3, .int l4] h = some (some (.int (lo (sK (hAI h) c q) key (hAI h 367) t nw)), h) := by
  obtain ⟨n1, n2, n3, n4, n5, n6⟩ := hn
  obtain ⟨p1, p2, p3, p4, p5, p6, p7, p8, p9, p10, p11⟩ := hP
  have hmm := hm
  have m0 := hmm.1
  have f1210 : hFR _ 1210 348 = some 350 := (hmm.2 1 (by decide)).1
  have k350 : hK _ 350 = 50 := (hmm.2 1 (by decide)).2.1
  have n350 : hLN _ 350 = 10 := (hmm.2 1 (by decide)).2.2
  have f1225 : hFR _ 1225 348 = some 365 := (hmm.2 16 (by decide)).1
  have k365 : hK _ 365 = 50 := (hmm.2 16 (by decide)).2.1
  have n365 : hLN _ 365 = 12 := (hmm.2 16 (by decide)).2.2
  have f1226 : hFR _ 1226 348 = some 366 := (hmm.2 17 (by decide)).1
  have k366 : hK _ 366 = 50 := (hmm.2 17 (by decide)).2.1
  have n366 : hLN _ 366 = 12 := (hmm.2 17 (by decide)).2.2
  have f1227 : hFR _ 1227 348 = some 367 := (hmm.2 18 (by decide)).1
  have k367 : hK _ 367 = 50 := (hmm.2 18 (by decide)).2.1
  have n367 : hLN _ 367 = 12 := (hmm.2 18 (by decide)).2.2
  have e4 : ∀ x, am_in (4 : Int32) 10 x = x := am_inN (i := 4) (by decide) (by decide)
  have t4 : Int32.toNatClampNeg 4 = 4 := by decide
  have lp : ∀ i, i ≤ nw → am_C PG (d + 2) 242 [.ref 348, .int c, .int q, .int l3, .int l4] h = am_R PG (d + 2) 242 6 [some (.ref 348), some (.int c), some (.int q), some (.int l3), some (.int l4), some (.int (lo (sK (hAI h) c q) key (hAI h 367) t i)), some (.int (nI i))] [] h := by
    intro i
    induction i with
    | zero => intro _; rw [q_X12_lastOf]; rfl
    | succ i ih =>
      intro hi
      obtain ⟨⟨e, he, he2⟩, ⟨u, hu, hu2⟩, -, -⟩ := p7 i (by omega)
      have k := c_isKeptWork (d := d) (c := c) (q := q) hm (show i < 12 by omega) hu2 (by omega) he2
      have e5 : (nI i < nI nw) = True := eq_true (nI_lt (by omega) (by omega))
      have e1 : ∀ x, am_in (nI i) 12 x = x := am_inN (by omega) (by decide)
      have t1 : Int32.toNatClampNeg (nI i) = i := nI_clamp (by omega)
      have z1 : ((1 : Int32) = 0) = False := eq_false (by decide)
      have hki := hk i (by omega)
      rw [ih (by omega), q_X12_lastOf_6]
      simp only [am_kd, m0, f1210, k350, n350, f1225, k365, n365, f1226, k366, n366, f1227, k367, n367, if_true, bR_s, e4, t4, n3, e5, k, bI_s, lo]
      cases z : sK (hAI h) c q i with
      | false => simp only [bi_f, if_true, Bool.false_eq_true, false_and, if_false, nI_1]
      | true =>
        simp only [bi_t, z1, if_false, e1, t1, c_max, bI_s, true_and, nI_1]
        by_cases w1 : hAI h 366 i = l3
        · rw [if_pos w1, if_pos (hki.1 (Or.inl w1))]
        · by_cases w2 : hAI h 365 i = l4
          · rw [if_neg w1, if_pos w2, if_pos (hki.1 (Or.inr w2))]
          · rw [if_neg w1, if_neg w2, if_neg (fun z => by
              rcases hki.2 z with z | z
              · exact w1 z
              · exact w2 z)]
  have e5 : (nI nw < nI nw) = False := eq_false (nI_nlt (Nat.le_refl _) (by omega))
  rw [lp nw (Nat.le_refl _), q_X12_lastOf_6]
  simp only [am_kd, m0, f1210, k350, n350, f1225, k365, n365, f1226, k366, n366, f1227, k367, n367, if_true, if_false, bR_s, e4, t4, n3, e5]
theorem nIm1 {n : Nat} (h : n < 2 ^ 31) : nI n ≠ -1 := fun z => nI_pos h (by rw [z]; decide)
theorem c_waterOf {d np nc ne nw : Nat} {h : AH} {P : Nat → Nat → Int32} {c q : Int32} (hm : MSh h) (hn : MoC h nc ne nw) (hP : PRow P (hAI h) np nc ne nw) :
    am_C PG (d + 3) 244 [.ref 348, .int c, .int q] h = some (some (.int (sCost (hAI h) (hAI h 402) nc ne nw c q)), h) := by
  have hdu : ∀ w, w < nw → ∃ k, 1 ≤ k ∧ k ≤ 99 ∧ hAI h 367 w = nI k := fun w hw => (hP.2.2.2.2.2.2.1 w hw).2.2.1
  have p7 := hP.2.2.2.2.2.2.1
  have kt : ∀ t, t < nc → am_C PG (d + 2) 242 [.ref 348, .int c, .int q, .int (nI t), .int (-1)] h = some (some (.int (lo (sK (hAI h) c q) (hAI h 366) (hAI h 367) (nI t) nw)), h) := fun t ht => c_lastOf hm hn hP (fun w hw => ⟨fun z => by
    rcases z with z | z
    · exact z
    · obtain ⟨⟨e, he, he2⟩, -⟩ := p7 w hw
      rw [he2] at z
      exact absurd z (nIm1 (by have := hn.2.2.2.2.1; omega)), fun z => Or.inl z⟩)
  have ke : ∀ e, e < ne → am_C PG (d + 2) 242 [.ref 348, .int c, .int q, .int (-1), .int (nI e)] h = some (some (.int (lo (sK (hAI h) c q) (hAI h 365) (hAI h 367) (nI e) nw)), h) := fun e he => c_lastOf hm hn hP (fun w hw => ⟨fun z => by
    rcases z with z | z
    · obtain ⟨-, ⟨t, ht, ht2⟩, -⟩ := p7 w hw
      rw [ht2] at z
      exact absurd z (nIm1 (by have := hn.2.2.2.1; omega))
    · exact z, fun z => Or.inr z⟩)
  obtain ⟨n1, n2, n3, n4, n5, n6⟩ := hn
  have hmm := hm
  have m0 := hmm.1
  have f1210 : hFR _ 1210 348 = some 350 := (hmm.2 1 (by decide)).1
  have k350 : hK _ 350 = 50 := (hmm.2 1 (by decide)).2.1
  have n350 : hLN _ 350 = 10 := (hmm.2 1 (by decide)).2.2
  have f1223 : hFR _ 1223 348 = some 363 := (hmm.2 14 (by decide)).1
  have k363 : hK _ 363 = 50 := (hmm.2 14 (by decide)).2.1
  have n363 : hLN _ 363 = 8 := (hmm.2 14 (by decide)).2.2
  have f1269 : hFR _ 1269 348 = some 402 := (hmm.2 53 (by decide)).1
  have k402 : hK _ 402 = 50 := (hmm.2 53 (by decide)).2.1
  have n402 : hLN _ 402 = 600 := (hmm.2 53 (by decide)).2.2
  have e2 : ∀ x, am_in (2 : Int32) 10 x = x := am_inN (i := 2) (by decide) (by decide)
  have t2 : Int32.toNatClampNeg 2 = 2 := by decide
  have e3 : ∀ x, am_in (3 : Int32) 10 x = x := am_inN (i := 3) (by decide) (by decide)
  have t3 : Int32.toNatClampNeg 3 = 3 := by decide
  generalize hZ : am_C PG (d + 3) 244 [.ref 348, .int c, .int q] h = Z
  have lp : ∀ i, i ≤ nc → Z = am_R PG (d + 3) 244 5 [some (.ref 348), some (.int c), some (.int q), some (.int (sumN (fun t => hAI h 402 (100 * t + Int32.toNatClampNeg (lo (sK (hAI h) c q) (hAI h 366) (hAI h 367) (nI t) nw))) i)), some (.int (nI i))] [] h := by
    intro i
    induction i with
    | zero => intro _; rw [← hZ, q_X12_waterOf]; rfl
    | succ i ih =>
      intro hi
      have e5 : (nI i < nI nc) = True := eq_true (nI_lt (by omega) (by omega))
      have k := kt i (by omega)
      obtain ⟨u, hu1, hu2⟩ := lo_rng (K := sK (hAI h) c q) (key := hAI h 366) (t := nI i) nw hdu
      have m1 : (100 : Int32) * nI i + nI u = nI (100 * i + u) := by rw [show (100 : Int32) = nI 100 from rfl, pk_mul, nI_add]
      have i1 : ∀ x, am_in (nI (100 * i + u)) 600 x = x := am_inN (by omega) (by decide)
      have ti : Int32.toNatClampNeg (nI (100 * i + u)) = 100 * i + u := nI_clamp (by omega)
      have tu : Int32.toNatClampNeg (nI u) = u := nI_clamp (by omega)
      rw [hu2] at k
      rw [ih (by omega), q_X12_waterOf_5]
      simp only [am_kd, m0, f1210, k350, n350, f1223, k363, n363, f1269, k402, n402, if_true, bR_s, e2, t2, n1, e5, k, bI_s, m1, i1, ti, nI_1, sumN, hu2, tu]
  have lp2 : ∀ i, i ≤ ne → Z = am_R PG (d + 3) 244 48 [some (.ref 348), some (.int c), some (.int q), some (.int (sumF (fun e => hAI h 363 e * lo (sK (hAI h) c q) (hAI h 365) (hAI h 367) (nI e) nw) (sumN (fun t => hAI h 402 (100 * t + Int32.toNatClampNeg (lo (sK (hAI h) c q) (hAI h 366) (hAI h 367) (nI t) nw))) nc) i)), some (.int (nI i))] [] h := by
    intro i
    induction i with
    | zero =>
      intro _
      have e5 : (nI nc < nI nc) = False := eq_false (nI_nlt (Nat.le_refl _) (by omega))
      rw [lp nc (Nat.le_refl _), q_X12_waterOf_5]
      simp only [am_kd, m0, f1210, k350, n350, f1223, k363, n363, f1269, k402, n402, if_true, if_false, bR_s, e2, t2, n1, e5]
      rfl
    | succ i ih =>
      intro hi
      have e5 : (nI i < nI ne) = True := eq_true (nI_lt (by omega) (by omega))
      have k := ke i (by omega)
      have e1 : ∀ x, am_in (nI i) 8 x = x := am_inN (by omega) (by decide)
      have t1 : Int32.toNatClampNeg (nI i) = i := nI_clamp (by omega)
      rw [ih (by omega), q_X12_waterOf_48]
      simp only [am_kd, m0, f1210, k350, n350, f1223, k363, n363, f1269, k402, n402, if_true, bR_s, e3, t3, n2, e5, k, bI_s, e1, t1, nI_1, sumF]
  have e5 : (nI ne < nI ne) = False := eq_false (nI_nlt (Nat.le_refl _) (by omega))
  rw [lp2 ne (Nat.le_refl _), q_X12_waterOf_48]
  simp only [am_kd, m0, f1210, k350, n350, f1223, k363, n363, f1269, k402, n402, if_true, if_false, bR_s, e3, t3, n2, e5]
  rfl
/-- the reference's search, from its first loop on -/
theorem c_msiege {d np nc ne nw n : Nat} {W : Int32 → Int32 → Int32 → Int32 → Int32} {g : AH} {P : Nat → Nat → Int32} {wa a : Int32} (hm : MSh g) (hl : MoL g n W) (hn : MoC g nc ne nw) (hP : PRow P (hAI g) np nc ne nw) :
    ∃ u τ, am_R PG (d + 5) 245 29 [some (.ref 348), some (.int wa), some (.int a), some (.int 0), none, none, none, none, none, none] [] g = some (some (.int (sAns a (sgC (sTab W (hAI g) nc ne nw) wa (2 ^ ne) (2 ^ nc)))), QG g u τ) := by
  have hn0 := hn
  obtain ⟨n1, n2, n3, n4, n5, n6⟩ := hn
  have hmm := hm
  have m0 := hmm.1
  have f1210 : hFR _ 1210 348 = some 350 := (hmm.2 1 (by decide)).1
  have k350 : hK _ 350 = 50 := (hmm.2 1 (by decide)).2.1
  have n350 : hLN _ 350 = 10 := (hmm.2 1 (by decide)).2.2
  have f1228 : hFR _ 1228 348 = some 368 := (hmm.2 19 (by decide)).1
  have k368 : hK _ 368 = 50 := (hmm.2 19 (by decide)).2.1
  have n368 : hLN _ 368 = 12 := (hmm.2 19 (by decide)).2.2
  have f1269 : hFR _ 1269 348 = some 402 := (hmm.2 53 (by decide)).1
  have k402 : hK _ 402 = 50 := (hmm.2 53 (by decide)).2.1
  have n402 : hLN _ 402 = 600 := (hmm.2 53 (by decide)).2.2
  have e2 : ∀ x, am_in (2 : Int32) 10 x = x := am_inN (i := 2) (by decide) (by decide)
  have t2 : Int32.toNatClampNeg 2 = 2 := by decide
  have e3 : ∀ x, am_in (3 : Int32) 10 x = x := am_inN (i := 3) (by decide) (by decide)
  have t3 : Int32.toNatClampNeg 3 = 3 := by decide
  have e4 : ∀ x, am_in (4 : Int32) 10 x = x := am_inN (i := 4) (by decide) (by decide)
  have t4 : Int32.toNatClampNeg 4 = 4 := by decide
  have o350 : ∀ u τ, hAI (QG g u τ) 350 = hAI g 350 := fun _ _ => QG_o _ _ _ (by decide) (by decide)
  have o368 : ∀ u τ, hAI (QG g u τ) 368 = hAI g 368 := fun _ _ => QG_o _ _ _ (by decide) (by decide)
  have kt : ∀ u τ c k, c < 6 → k < 99 → ∃ τ2, am_C PG (d + 4) 212 [.ref 348, .int (nI c), .int (nI k), .int (nI k)] (QG g u τ) = some (some (.int (xth W (hAI g 357) (hAI g 361) (hAI g 369) c k (nI k))), QG g u τ2) := by
    intro u τ c k hc hk
    have := c_mthV (dp := d) (h := sAI g 402 u) (ρ := τ) (n := n) (W := W) (c := c) (hr := k) (hm.to rfl (fun _ => rfl) rfl) (hl.to (sAI_ne _ _ (by decide)) (sAI_ne _ _ (by decide)) (sAI_ne _ _ (by decide))) (by omega) (by omega) (nI k)
    rw [sAI_ne _ _ (by decide), sAI_ne _ _ (by decide), sAI_ne _ _ (by decide)] at this
    exact this
  generalize hT : sT W (hAI g 357) (hAI g 361) (hAI g 369) = T
  generalize hZ : am_R PG (d + 5) 245 29 [some (.ref 348), some (.int wa), some (.int a), some (.int 0), none, none, none, none, none, none] [] g = Z
  have lp : ∀ i, i ≤ nc → ∃ u τ, (∀ c, c < i → ∀ k, k < 100 → u (100 * c + k) = T c k) ∧ Z = am_R PG (d + 5) 245 29 [some (.ref 348), some (.int wa), some (.int a), some (.int (nI i)), none, none, none, none, none, none] [] (QG g u τ) := by
    intro i
    induction i with
    | zero => intro _; exact ⟨hAI g 402, hAI g, fun c hc => by omega, by rw [QG_self, ← hZ]; rfl⟩
    | succ i ih =>
      intro hi
      obtain ⟨u, τ, a1, a2⟩ := ih (by omega)
      have mm0 : (100 : Int32) * nI i = nI (100 * i) := pk_mul 100 i
      have e5 : (nI i < nI nc) = True := eq_true (nI_lt (by omega) (by omega))
      have lp2 : ∀ j, j ≤ 99 → ∃ u τ, (∀ c, c < i → ∀ k, k < 100 → u (100 * c + k) = T c k) ∧ (∀ k, k ≤ j → u (100 * i + k) = T i k) ∧ Z = am_R PG (d + 5) 245 52 [some (.ref 348), some (.int wa), some (.int a), some (.int (nI i)), some (.int (nI (j + 1))), none, none, none, none, none] [] (QG g u τ) := by
        intro j
        induction j with
        | zero =>
          intro _
          have i1 : ∀ x, am_in (nI (100 * i)) 600 x = x := am_inN (by omega) (by decide)
          have ti : Int32.toNatClampNeg (nI (100 * i)) = 100 * i := nI_clamp (by omega)
          refine ⟨upd u (100 * i) 0, τ, fun c hc k hk => ?_, fun k hk => ?_, ?_⟩
          · rw [pk_un (by omega)]
            exact a1 c hc k hk
          · rw [show k = 0 by omega, Nat.add_zero, pk_us, ← hT]
            rfl
          · rw [a2, q_X12_siege_29]
            simp only [QG_K, QG_R, QG_L, QG_at, QG_E, am_kd, m0, f1210, k350, n350, f1228, k368, n368, f1269, k402, n402, o350, if_true, bR_s, e2, t2, n1, e5, mm0, i1, ti, am_let_e]
            rfl
        | succ j ihj =>
          intro hj
          obtain ⟨u, τ, b1, b2, b3⟩ := ihj (by omega)
          obtain ⟨τ2, k⟩ := kt u τ i j (by omega) (by omega)
          have e9 : (nI (j + 1) < (100 : Int32)) = True := eq_true (nI_lt (b := 100) (by omega) (by decide))
          have m1 : nI (100 * i) + nI (j + 1) = nI (100 * i + j + 1) := nI_add _ _
          have m2 : nI (100 * i + j + 1) - (1 : Int32) = nI (100 * i + j) := nI_pred _
          have m3 : nI (j + 1) - (1 : Int32) = nI j := nI_pred _
          have i1 : ∀ x, am_in (nI (100 * i + j)) 600 x = x := am_inN (by omega) (by decide)
          have ti : Int32.toNatClampNeg (nI (100 * i + j)) = 100 * i + j := nI_clamp (by omega)
          have i2 : ∀ x, am_in (nI (100 * i + j + 1)) 600 x = x := am_inN (by omega) (by decide)
          have t9 : Int32.toNatClampNeg (nI (100 * i + j + 1)) = 100 * i + j + 1 := nI_clamp (by omega)
          refine ⟨upd u (100 * i + j + 1) (u (100 * i + j) + xth W (hAI g 357) (hAI g 361) (hAI g 369) i j (nI j)), τ2, fun c hc k hk => ?_, fun k hk => ?_, ?_⟩
          · rw [pk_un (by omega)]
            exact b1 c hc k hk
          · by_cases e : k = j + 1
            · subst e
              rw [show 100 * i + (j + 1) = 100 * i + j + 1 from rfl, pk_us, b2 j (Nat.le_refl _), ← hT]
              rfl
            · rw [pk_un (by omega)]
              exact b2 k (by omega)
          · rw [b3, q_X12_siege_52]
            simp only [QG_K, QG_R, QG_L, QG_at, QG_E, am_kd, m0, f1210, k350, n350, f1228, k368, n368, f1269, k402, n402, if_true, bR_s, e9, mm0, m1, m2, m3, i1, ti, i2, t9, k, bI_s, am_let_e]
            rw [nI_1]
      obtain ⟨u, τ, b1, b2, b3⟩ := lp2 99 (Nat.le_refl _)
      refine ⟨u, τ, fun c hc k hk => ?_, ?_⟩
      · by_cases e : c = i
        · subst e
          exact b2 k (by omega)
        · exact b1 c (by omega) k hk
      · rw [b3, q_X12_siege_52, if_neg (show ¬ nI (99 + 1) < (100 : Int32) by decide), nI_1]
  obtain ⟨u, τ, a1, a2⟩ := lp nc (Nat.le_refl _)
  have hdu : ∀ w, w < nw → ∃ k, 1 ≤ k ∧ k ≤ 99 ∧ hAI g 367 w = nI k := fun w hw => (hP.2.2.2.2.2.2.1 w hw).2.2.1
  have p7 := hP.2.2.2.2.2.2.1
  have hm2 : MSh (QG g u τ) := hm.to rfl (fun _ => rfl) rfl
  have hn2 : MoC (QG g u τ) nc ne nw := by
    unfold MoC at hn0 ⊢
    rw [o350]
    exact hn0
  have o : ∀ b, b ≠ 402 → (b < 375 ∨ 384 < b) → hAI (QG g u τ) b = hAI g b := fun b z1 z2 => QG_o _ _ _ z1 z2
  have hP2 : PRow P (hAI (QG g u τ)) np nc ne nw := by
    unfold PRow at hP ⊢
    rw [o 357 (by decide) (by decide), o 358 (by decide) (by decide), o 359 (by decide) (by decide), o 361 (by decide) (by decide), o 363 (by decide) (by decide), o 365 (by decide) (by decide), o 366 (by decide) (by decide), o 367 (by decide) (by decide), o 368 (by decide) (by decide), o 369 (by decide) (by decide)]
    exact hP
  have eK : ∀ c q, sK (hAI (QG g u τ)) c q = sK (hAI g) c q := fun c q => by
    funext w
    unfold sK
    rw [o 366 (by decide) (by decide), o 365 (by decide) (by decide), o 357 (by decide) (by decide)]
  have kw : ∀ c q, am_C PG (d + 4) 244 [.ref 348, .int c, .int q] (QG g u τ) = some (some (.int (sTab W (hAI g) nc ne nw c q).1), QG g u τ) := by
    intro c q
    have k := c_waterOf (d := d + 1) (c := c) (q := q) hm2 hn2 hP2
    have e : sCost (hAI (QG g u τ)) (hAI (QG g u τ) 402) nc ne nw c q = sCost (hAI g) u nc ne nw c q := by
      unfold sCost
      rw [eK, QG_at, o 363 (by decide) (by decide), o 365 (by decide) (by decide), o 366 (by decide) (by decide), o 367 (by decide) (by decide)]
    rw [e, sCost_congr hdu (f' := sTf T) (fun t ht k hk => by rw [a1 t ht k hk, sTf_at _ hk])] at k
    rw [k]
    unfold sTab
    rw [hT]
  have ki : ∀ c q i, i < nw → am_C PG (d + 4) 243 [.ref 348, .int c, .int q, .int (nI i)] (QG g u τ) = some (some (.int (bi (sK (hAI g) c q i))), QG g u τ) := by
    intro c q i hi
    obtain ⟨⟨e, he, he2⟩, ⟨t, ht, ht2⟩, -⟩ := p7 i hi
    have k := c_isKeptWork (d := d + 3) (c := c) (q := q) (t := t) (e := e) hm2 (show i < 12 by omega) (by rw [o 366 (by decide) (by decide)]; exact ht2) (by omega) (by rw [o 365 (by decide) (by decide)]; exact he2)
    rw [eK] at k
    exact k
  have eS : ∀ c q, (sTab W (hAI g) nc ne nw c q).2 = sPay (hAI g) c q nw := fun c q => rfl
  generalize sTab W (hAI g) nc ne nw = T2 at kw eS ⊢
  have s1 := shl6 ⟨nc, by omega⟩
  have s2 := shl6 ⟨ne, by omega⟩
  have b1 := two6 ⟨nc, by omega⟩
  have b2 := two6 ⟨ne, by omega⟩
  dsimp only at s1 s2 b1 b2
  generalize 2 ^ nc = N at s1 b1 ⊢
  generalize 2 ^ ne = K at s2 b2 ⊢
  have lq : ∀ i, i ≤ N → Z = am_R PG (d + 5) 245 122 [some (.ref 348), some (.int wa), some (.int a), some (.int (sgC T2 wa K i).1), some (.int (sgC T2 wa K i).2.1), some (.int (sgC T2 wa K i).2.2), some (.int (nI i)), none, none, none] [] (QG g u τ) := by
    intro i
    induction i with
    | zero =>
      intro _
      have e5 : (nI nc < nI nc) = False := eq_false (nI_nlt (Nat.le_refl _) (by omega))
      rw [a2, q_X12_siege_29]
      simp only [QG_K, QG_R, QG_L, QG_at, QG_E, am_kd, m0, f1210, k350, n350, f1228, k368, n368, f1269, k402, n402, o350, if_true, if_false, bR_s, e2, t2, n1, e5]
      rfl
    | succ i ih =>
      intro hi
      have e5 : (nI i < nI N) = True := eq_true (nI_lt (by omega) (by omega))
      have lq2 : ∀ j, j ≤ K → Z = am_R PG (d + 5) 245 138 [some (.ref 348), some (.int wa), some (.int a), some (.int (sgP T2 wa (nI i) (sgC T2 wa K i) j).1), some (.int (sgP T2 wa (nI i) (sgC T2 wa K i) j).2.1), some (.int (sgP T2 wa (nI i) (sgC T2 wa K i) j).2.2), some (.int (nI i)), some (.int (nI j)), none, none] [] (QG g u τ) := by
        intro j
        induction j with
        | zero =>
          intro _
          rw [ih (by omega), q_X12_siege_122]
          simp only [QG_K, QG_R, QG_L, QG_at, QG_E, am_kd, m0, f1210, k350, n350, f1228, k368, n368, f1269, k402, n402, o350, if_true, bR_s, e2, t2, n1, s1, e5]
          rfl
        | succ j ihj =>
          intro hj
          have e6 : (nI j < nI K) = True := eq_true (nI_lt (by omega) (by omega))
          show Z = am_R PG (d + 5) 245 138 [some (.ref 348), some (.int wa), some (.int a), some (.int (sg1 T2 wa (nI i) (nI j) (sgP T2 wa (nI i) (sgC T2 wa K i) j)).1), some (.int (sg1 T2 wa (nI i) (nI j) (sgP T2 wa (nI i) (sgC T2 wa K i) j)).2.1), some (.int (sg1 T2 wa (nI i) (nI j) (sgP T2 wa (nI i) (sgC T2 wa K i) j)).2.2), some (.int (nI i)), some (.int (nI (j + 1))), none, none] [] _
          rw [ihj (by omega), q_X12_siege_138]
          generalize sgP T2 wa (nI i) (sgC T2 wa K i) j = S
          simp only [QG_K, QG_R, QG_L, QG_at, QG_E, am_kd, m0, f1210, k350, n350, f1228, k368, n368, f1269, k402, n402, o350, if_true, bR_s, e3, t3, n2, s2, e6]
          have lw : ∀ w, w ≤ nw → am_R PG (d + 5) 245 157 [some (.ref 348), some (.int wa), some (.int a), some (.int S.1), some (.int S.2.1), some (.int S.2.2), some (.int (nI i)), some (.int (nI j)), some (.int 0), some (.int 0)] [] (QG g u τ) = am_R PG (d + 5) 245 157 [some (.ref 348), some (.int wa), some (.int a), some (.int S.1), some (.int S.2.1), some (.int S.2.2), some (.int (nI i)), some (.int (nI j)), some (.int (sPay (hAI g) (nI i) (nI j) w)), some (.int (nI w))] [] (QG g u τ) := by
            intro w
            induction w with
            | zero => intro _; rfl
            | succ w ihw =>
              intro hw
              have e7 : (nI w < nI nw) = True := eq_true (nI_lt (by omega) (by omega))
              have k := ki (nI i) (nI j) w (by omega)
              have e1 : ∀ x, am_in (nI w) 12 x = x := am_inN (by omega) (by decide)
              have t1 : Int32.toNatClampNeg (nI w) = w := nI_clamp (by omega)
              have hpy : sPay (hAI g) (nI i) (nI j) (w + 1) = sPay (hAI g) (nI i) (nI j) w + (if sK (hAI g) (nI i) (nI j) w = true then hAI g 368 w else 0) := rfl
              have z1 : ((1 : Int32) = 0) = False := eq_false (by decide)
              rw [ihw (by omega), q_X12_siege_157, hpy]
              simp only [QG_K, QG_R, QG_L, QG_at, QG_E, am_kd, m0, f1210, k350, n350, f1228, k368, n368, f1269, k402, n402, o350, o368, if_true, bR_s, e4, t4, n3, e7, k, bI_s, e1, t1, nI_1]
              cases z : sK (hAI g) (nI i) (nI j) w with
              | false => simp only [bi_f, if_true, Bool.false_eq_true, if_false]
              | true => simp only [bi_t, z1, if_true, if_false]
          have e7 : (nI nw < nI nw) = False := eq_false (nI_nlt (Nat.le_refl _) (by omega))
          rw [lw nw (Nat.le_refl _), q_X12_siege_157, ← eS]
          simp only [QG_K, QG_R, QG_L, QG_at, QG_E, am_kd, m0, f1210, k350, n350, f1228, k368, n368, f1269, k402, n402, o350, if_true, if_false, bR_s, e4, t4, n3, e7, kw, bI_s, nI_1]
          unfold sg1
          by_cases q1 : wa < (T2 (nI i) (nI j)).1
          · by_cases q2 : S.1 < (T2 (nI i) (nI j)).2
            · simp only [if_pos q1, if_pos q2]
            · simp only [if_pos q1, if_neg q2]
          · by_cases q2 : S.1 < (T2 (nI i) (nI j)).2
            · simp only [if_neg q1, if_pos q2]
            · simp only [if_neg q1, if_neg q2]
      have e6 : (nI K < nI K) = False := eq_false (nI_nlt (Nat.le_refl _) (by omega))
      rw [lq2 K (Nat.le_refl _), q_X12_siege_138]
      simp only [QG_K, QG_R, QG_L, QG_at, QG_E, am_kd, m0, f1210, k350, n350, f1228, k368, n368, f1269, k402, n402, o350, if_true, if_false, bR_s, e3, t3, n2, s2, e6, nI_1]
      rfl
  have e5 : (nI N < nI N) = False := eq_false (nI_nlt (Nat.le_refl _) (by omega))
  refine ⟨u, τ, ?_⟩
  rw [lq N (Nat.le_refl _), q_X12_siege_122]
  simp only [QG_K, QG_R, QG_L, QG_at, QG_E, am_kd, m0, f1210, k350, n350, f1228, k368, n368, f1269, k402, n402, o350, if_true, if_false, bR_s, e2, t2, n1, s1, e5]
  unfold sAns
  by_cases c0 : a = 0
  · simp only [if_pos c0]
  · by_cases c1 : a = 1
    · simp only [if_neg c0, if_pos c1]
    · simp only [if_neg c0, if_neg c1]
