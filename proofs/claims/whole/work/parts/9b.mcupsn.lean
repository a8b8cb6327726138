/-! Cups: the reference's needs, its answer. -/
theorem Qt.mv (h : AH) (ρ : Nat → Nat → Int32) : Qt h (mV h ρ) :=
  ⟨rfl, rfl, rfl, rfl, rfl, rfl, fun _ _ _ => rfl, fun b hb => mV_out _ _ (by unfold cRow at hb; omega), fun _ _ _ => rfl, fun j _ => by rw [mV_out _ _ (by decide)]⟩
/-- needs w, working rows -/
def NG (g : AH) (w : Nat → Int32) (ρ : Nat → Nat → Int32) : AH := mV (sAI g 407 w) ρ
theorem NG_K (g : AH) (u : Nat → Int32) (ρ : Nat → Nat → Int32) : hK (NG g u ρ) = hK g := rfl
theorem NG_R (g : AH) (u : Nat → Int32) (ρ : Nat → Nat → Int32) : hFR (NG g u ρ) = hFR g := rfl
theorem NG_L (g : AH) (u : Nat → Int32) (ρ : Nat → Nat → Int32) : hLN (NG g u ρ) = hLN g := rfl
theorem NG_at (g : AH) (u : Nat → Int32) (ρ : Nat → Nat → Int32) : hAI (NG g u ρ) 407 = u := by
  unfold NG
  rw [mV_out _ _ (by decide), sAI_at]
theorem NG_o (g : AH) (u : Nat → Int32) (ρ : Nat → Nat → Int32) {a : Nat} (h1 : a ≠ 407) (h2 : a < 375 ∨ 384 < a) : hAI (NG g u ρ) a = hAI g a := by
  unfold NG
  rw [mV_out _ _ h2, sAI_ne _ _ h1]
theorem NG_E (g : AH) (u : Nat → Int32) (ρ : Nat → Nat → Int32) (j : Nat) (v : Int32) : sEI (NG g u ρ) 407 j v = NG g (upd u j v) ρ := by
  rw [sEI_e, NG_at]
  unfold NG
  rw [mV_sAI _ _ _ (by decide), sAI_sAI]
theorem NG_self (g : AH) : NG g (hAI g 407) (hAI g) = g := by
  unfold NG
  rw [sAI_self, mV_self]
theorem NG_qt (g : AH) (u : Nat → Int32) (ρ : Nat → Nat → Int32) : Qt g (NG g u ρ) := (Qt.ai _ 407 _ (by omega)).tr (Qt.mv _ _)
theorem xneed_0 (W : Int32 → Int32 → Int32 → Int32 → Int32) (kd sp he : Nat → Int32) (c hr : Nat) (s : Int32) : xneed W kd sp he c hr s 0 = (0, s) := rfl
theorem xneed_1 (W : Int32 → Int32 → Int32 → Int32 → Int32) (kd sp he : Nat → Int32) (c hr : Nat) (s : Int32) (n : Nat) : xneed W kd sp he c hr s (n + 1) = ((xneed W kd sp he c hr s n).1 + xth W kd sp he c (hr + n) (xneed W kd sp he c hr s n).2, xnext (kd c) (nI (hr + n)) (xneed W kd sp he c hr s n).2) := rfl
theorem c_mneed {d len c hr n : Nat} {W : Int32 → Int32 → Int32 → Int32 → Int32} {g : AH} {H a s : Int32} {w : Nat → Int32} {ρ : Nat → Nat → Int32} (hm : MSh g) (hl : MoL g len W) (hc : c < 6) (hh : hr + n < 2 ^ 31) (hR : hAI g 397 0 = nI hr) : ∀ i, i ≤ n →
    ∃ τ, am_R PG (d + 5) 259 74 [some (.ref 348), some (.int H), some (.int (nI n)), some (.int a), some (.int (nI c)), some (.int s), some (.int 0)] [] (NG g (upd w c 0) ρ) = am_R PG (d + 5) 259 74 [some (.ref 348), some (.int H), some (.int (nI n)), some (.int a), some (.int (nI c)), some (.int (xneed W (hAI g 357) (hAI g 361) (hAI g 369) c hr s i).2), some (.int (nI i))] [] (NG g (upd w c (xneed W (hAI g 357) (hAI g 361) (hAI g 369) c hr s i).1) τ) := by
  intro i
  induction i with
  | zero => intro _; exact ⟨ρ, rfl⟩
  | succ i ih =>
    intro hi
    obtain ⟨τ, k1⟩ := ih (by omega)
    have hmm := hm
    have m0 := hmm.1
    have f1217 : hFR _ 1217 348 = some 357 := (hmm.2 8 (by decide)).1
    have k357 : hK _ 357 = 50 := (hmm.2 8 (by decide)).2.1
    have n357 : hLN _ 357 = 12 := (hmm.2 8 (by decide)).2.2
    have f1259 : hFR _ 1259 348 = some 397 := (hmm.2 48 (by decide)).1
    have k397 : hK _ 397 = 50 := (hmm.2 48 (by decide)).2.1
    have n397 : hLN _ 397 = 43 := (hmm.2 48 (by decide)).2.2
    have f1276 : hFR _ 1276 348 = some 407 := (hmm.2 58 (by decide)).1
    have k407 : hK _ 407 = 50 := (hmm.2 58 (by decide)).2.1
    have n407 : hLN _ 407 = 6 := (hmm.2 58 (by decide)).2.2
    have e5 : (nI i < nI n) = True := eq_true (nI_lt (by omega) (by omega))
    have ec : ∀ x, am_in (nI c) 6 x = x := am_inN hc (by decide)
    have ec2 : ∀ x, am_in (nI c) 12 x = x := am_inN (by omega) (by decide)
    have tc : Int32.toNatClampNeg (nI c) = c := nI_clamp (by omega)
    have e0 : ∀ x, am_in (0 : Int32) 43 x = x := am_inN (i := 0) (by decide) (by decide)
    have d2 : ∀ x, am_dz (2 : Int32) x = x := fun x => am_dz_t (by decide) x
    have o397 : ∀ w τ, hAI (NG g w τ) 397 = hAI g 397 := fun _ _ => NG_o _ _ _ (by decide) (by decide)
    have o357 : ∀ w τ, hAI (NG g w τ) 357 = hAI g 357 := fun _ _ => NG_o _ _ _ (by decide) (by decide)
    have ha : nI hr + nI i = nI (hr + i) := nI_add _ _
    rw [xneed_1]
    generalize xneed W (hAI g 357) (hAI g 361) (hAI g 369) c hr s i = X at k1
    obtain ⟨τ2, k2⟩ := c_mthV (dp := d) (h := sAI g 407 (upd w c X.1)) (ρ := τ) (n := len) (W := W) (c := c) (hr := hr + i) (hm.to rfl (fun _ => rfl) rfl) (hl.to (sAI_ne _ _ (by decide)) (sAI_ne _ _ (by decide)) (sAI_ne _ _ (by decide))) (by omega) (by omega) X.2
    rw [sAI_ne _ _ (by decide), sAI_ne _ _ (by decide), sAI_ne _ _ (by decide)] at k2
    have k2 : am_C PG (d + 4) 212 [.ref 348, .int (nI c), .int (nI (hr + i)), .int X.2] (NG g (upd w c X.1) τ) = some (some (.int (xth W (hAI g 357) (hAI g 361) (hAI g 369) c (hr + i) X.2)), NG g (upd w c X.1) τ2) := k2
    have u2 : ∀ v, upd (upd w c X.1) c v = upd w c v := fun v => upd_upd _ _ _ _
    refine ⟨τ2, ?_⟩
    rw [k1, q_X12_cups_74]
    dsimp only
    unfold xnext
    by_cases z : hAI g 357 c = 2
    · by_cases z2 : am_rem (nI (hr + i)) 2 = 0
      · simp only [NG_K, NG_R, NG_L, NG_at, NG_E, o397, o357, am_kd, m0, f1217, k357, n357, f1259, k397, n397, f1276, k407, n407, if_true, bR_s, e5, ec, ec2, tc, e0, nI_cl0, hR, ha, k2, bI_s, am_let_e, pk_us, u2, if_pos z, d2, if_pos z2, nI_1, add0]
      · simp only [NG_K, NG_R, NG_L, NG_at, NG_E, o397, o357, am_kd, m0, f1217, k357, n357, f1259, k397, n397, f1276, k407, n407, if_true, bR_s, e5, ec, ec2, tc, e0, nI_cl0, hR, ha, k2, bI_s, am_let_e, pk_us, u2, if_pos z, d2, if_neg z2, nI_1]
    · simp only [NG_K, NG_R, NG_L, NG_at, NG_E, o397, o357, am_kd, m0, f1217, k357, n357, f1259, k397, n397, f1276, k407, n407, if_true, bR_s, e5, ec, ec2, tc, e0, nI_cl0, hR, ha, k2, bI_s, am_let_e, pk_us, u2, if_neg z, nI_1]
theorem c_mcups {d len hr n H nc : Nat} {W : Int32 → Int32 → Int32 → Int32 → Int32} {g : AH} {a : Int32} (hm : MSh g) (hl : MoL g len W) (h2 : hAI g 350 2 = nI nc) (hn6 : nc ≤ 6) (hn : n ≤ 99) (hh : hr + n < 2 ^ 31) (hR : hAI g 397 0 = nI hr) (hH : H ≤ 9999) :
    ∃ g1, Qt g g1 ∧ am_R PG (d + 10) 259 40 [some (.ref 348), some (.int (nI H)), some (.int (nI n)), some (.int a), some (.int 0), none, none] [] g = some (some (.int (cupA (needN W (hAI g 357) (hAI g 361) (hAI g 369) hr (fun c => hAI g 397 (12 + c)) n) H nc a)), g1) := by
  have hmm := hm
  have m0 := hmm.1
  have f1210 : hFR _ 1210 348 = some 350 := (hmm.2 1 (by decide)).1
  have k350 : hK _ 350 = 50 := (hmm.2 1 (by decide)).2.1
  have n350 : hLN _ 350 = 10 := (hmm.2 1 (by decide)).2.2
  have f1259 : hFR _ 1259 348 = some 397 := (hmm.2 48 (by decide)).1
  have k397 : hK _ 397 = 50 := (hmm.2 48 (by decide)).2.1
  have n397 : hLN _ 397 = 43 := (hmm.2 48 (by decide)).2.2
  have f1276 : hFR _ 1276 348 = some 407 := (hmm.2 58 (by decide)).1
  have k407 : hK _ 407 = 50 := (hmm.2 58 (by decide)).2.1
  have n407 : hLN _ 407 = 6 := (hmm.2 58 (by decide)).2.2
  have e2 : ∀ x, am_in (2 : Int32) 10 x = x := am_inN (i := 2) (by decide) (by decide)
  have t2 : Int32.toNatClampNeg 2 = 2 := by decide
  have o350 : ∀ w τ, hAI (NG g w τ) 350 = hAI g 350 := fun _ _ => NG_o _ _ _ (by decide) (by decide)
  have o397 : ∀ w τ, hAI (NG g w τ) 397 = hAI g 397 := fun _ _ => NG_o _ _ _ (by decide) (by decide)
  have hneed : ∀ c, (xneed W (hAI g 357) (hAI g 361) (hAI g 369) c hr ((fun c => hAI g 397 (12 + c)) c) n).1 = nI (needN W (hAI g 357) (hAI g 361) (hAI g 369) hr (fun c => hAI g 397 (12 + c)) n c) ∧ needN W (hAI g 357) (hAI g 361) (hAI g 369) hr (fun c => hAI g 397 (12 + c)) n c ≤ 9801 := fun c => needN_at (sh := fun c => hAI g 397 (12 + c)) hn
  dsimp only at hneed
  generalize needN W (hAI g 357) (hAI g 361) (hAI g 369) hr (fun c => hAI g 397 (12 + c)) n = N at hneed ⊢
  have hNb : ∀ c, N c ≤ 9801 := fun c => (hneed c).2
  generalize hQ : am_R PG (d + 10) 259 40 [some (.ref 348), some (.int (nI H)), some (.int (nI n)), some (.int a), some (.int 0), none, none] [] g = Q
  have lp : ∀ i, i ≤ nc → (anyN N H i = true ∧ ∃ g1, Qt g g1 ∧ Q = some (some (.int (-1)), g1)) ∨ (anyN N H i = false ∧ ∃ w τ, (∀ j, j < i → w j = nI (N j)) ∧ Q = am_R PG (d + 10) 259 40 [some (.ref 348), some (.int (nI H)), some (.int (nI n)), some (.int a), some (.int (nI i)), none, none] [] (NG g w τ)) := by
    intro i
    induction i with
    | zero => intro _; exact Or.inr ⟨rfl, hAI g 407, hAI g, fun j hj => by omega, by rw [NG_self, ← hQ]; rfl⟩
    | succ i ih =>
      intro hi
      have ea : anyN N H (i + 1) = (anyN N H i || decide (H < N i)) := rfl
      rcases ih (by omega) with ⟨b1, b2⟩ | ⟨b1, w, τ, b2, b3⟩
      · exact Or.inl ⟨by rw [ea, b1, Bool.true_or], b2⟩
      · obtain ⟨τ2, k⟩ := c_mneed (d := d + 5) (c := i) (H := nI H) (a := a) (s := hAI g 397 (12 + i)) (w := w) (ρ := τ) hm hl (by omega) hh hR n (Nat.le_refl _)
        rw [(hneed i).1] at k
        generalize (xneed W (hAI g 357) (hAI g 361) (hAI g 369) i hr (hAI g 397 (12 + i)) n).2 = sx at k
        have hNi := hNb i
        have e5 : (nI i < nI nc) = True := eq_true (nI_lt (by omega) (by omega))
        have e1 : ∀ x, am_in (nI i) 6 x = x := am_inN (by omega) (by decide)
        have t1 : Int32.toNatClampNeg (nI i) = i := nI_clamp (by omega)
        have a12 : (12 : Int32) + nI i = nI (12 + i) := nI_add 12 i
        have e12 : ∀ x, am_in (nI (12 + i)) 43 x = x := am_inN (by omega) (by decide)
        have t12 : Int32.toNatClampNeg (nI (12 + i)) = 12 + i := nI_clamp (by omega)
        have nm : (nI n < nI n) = False := eq_false (nI_nlt (Nat.le_refl _) (by omega))
        have hd : Q = am_R PG (d + 10) 259 74 [some (.ref 348), some (.int (nI H)), some (.int (nI n)), some (.int a), some (.int (nI i)), some (.int sx), some (.int (nI n))] [] (NG g (upd w i (nI (N i))) τ2) := by
          rw [← k, b3, q_X12_cups_40]
          simp only [NG_K, NG_R, NG_L, NG_at, NG_E, o350, o397, am_kd, m0, f1210, k350, n350, f1259, k397, n397, f1276, k407, n407, if_true, bR_s, e2, t2, h2, e5, a12, e12, t12, e1, t1, am_let_e]
        by_cases c1 : H < N i
        · have d1 : (nI H < nI (N i)) = True := eq_true (nI_lt c1 (by omega))
          refine Or.inl ⟨by rw [ea, decide_eq_true c1, Bool.or_true], NG g (upd w i (nI (N i))) τ2, NG_qt _ _ _, ?_⟩
          rw [hd, q_X12_cups_74]
          simp only [NG_K, NG_R, NG_L, NG_at, am_kd, m0, f1210, k350, n350, f1259, k397, n397, f1276, k407, n407, if_true, if_false, nm, bR_s, e1, t1, pk_us, d1]
        · have d1 : (nI H < nI (N i)) = False := eq_false (nI_nlt (by omega) (by omega))
          refine Or.inr ⟨by rw [ea, b1, decide_eq_false c1]; rfl, upd w i (nI (N i)), τ2, fun j hj => ?_, ?_⟩
          · by_cases e : j = i
            · subst e
              rw [pk_us]
            · rw [pk_un e]
              exact b2 j (by omega)
          · rw [hd, q_X12_cups_74]
            simp only [NG_K, NG_R, NG_L, NG_at, am_kd, m0, f1210, k350, n350, f1259, k397, n397, f1276, k407, n407, if_true, if_false, nm, bR_s, e1, t1, pk_us, d1, nI_1]
  rcases lp nc (Nat.le_refl _) with ⟨b1, g1, b2, b3⟩ | ⟨b1, w, τ, b2, b3⟩
  · refine ⟨g1, b2, ?_⟩
    rw [b3]
    unfold cupA
    rw [if_pos b1]
  · have hNl := anyN_f nc b1
    have hq : Qt g (NG g w τ) := NG_qt _ _ _
    have h350 : hAI (NG g w τ) 350 2 = nI nc := by rw [o350]; exact h2
    have h407 := NG_at g w τ
    have hm2 : MSh (NG g w τ) := hm.to rfl (fun _ => rfl) rfl
    generalize NG g w τ = g2 at b3 hq h350 h407 hm2
    obtain ⟨u', k', y', a1, a2, a3, key⟩ := c_mfill (nc := nc) (H := H) (N := N) (g := g2) hm2 h350 (fun j hj => ⟨by rw [h407]; exact b2 j hj, by have := hNb j; omega⟩) hn6 hH nc (d + (8 - nc)) 0 (fun _ => 0) (fun _ => 0) 0 (7, 0) (hAI g2 409) (hAI g2 408) (hFI g2 1280 348) (Nat.zero_add _) (Nat.le_refl _) (fun j hj => by omega) (fun j hj => rfl) (fun j hj => by omega) (Nat.le_refl _) (fun z => absurd rfl z)
    have kd : d + (8 - nc) + nc + 1 = d + 9 := by omega
    have hex := fillC_ex hNl nc (fun _ => 0) (fun _ => 0) 0 (7, 0) (Nat.le_refl _) (fun j hj => rfl)
    rw [kd, nI_0] at key
    generalize hB : fillC N H nc nc (fun _ => 0) (fun _ => 0) 0 (7, 0) = B at key a3 hex
    have hB7 : ¬ B.1 = 7 := by omega
    have hb7 : bc (7 : Nat) = -1 := if_pos rfl
    have hbB : bc B.1 = nI B.1 := if_neg hB7
    have y2 := a3 hB7
    dsimp only at key
    rw [hb7, hbB, y2] at key
    have hs : sFI g2 1279 348 (-1 : Int32) = ZC g2 (hAI g2 409) (hAI g2 408) (-1) (hFI g2 1280 348) := by
      have := ZC_s1 g2 (hAI g2 409) (hAI g2 408) (hFI g2 1279 348) (hFI g2 1280 348) (-1)
      rw [ZC_self] at this
      exact this
    have kk : am_R PG (d + 10) 259 40 [some (.ref 348), some (.int (nI H)), some (.int (nI n)), some (.int a), some (.int (nI nc)), none, none] [] g2 = if a = 0 then some (some (.int (nI B.1)), ZC g2 u' k' (nI B.1) B.2) else some (some (.int B.2), ZC g2 u' k' (nI B.1) B.2) := by
      have x1 : hK g2 348 = 13 := hm2.1
      have x2 : hFR g2 1210 348 = some 350 := (hm2.2 1 (by decide)).1
      have x3 : hK g2 350 = 50 := (hm2.2 1 (by decide)).2.1
      have x4 : hLN g2 350 = 10 := (hm2.2 1 (by decide)).2.2
      have x5 : ∀ u k c y, hK (ZC g2 u k c y) 348 = 13 := fun _ _ _ _ => x1
      rw [q_X12_cups_40, am_kd_t x1, x2, bR_s, am_kd_t x3, x4, e2, t2, h350, if_neg (nI_nlt (Nat.le_refl _) (by omega)), am_kd_t x1, am_let_e, hs, am_kd_t (x5 _ _ _ _), key, bV_s, am_kd_t (x5 _ _ _ _), am_kd_t (x5 _ _ _ _), ZC_1, ZC_2]
    refine ⟨ZC g2 u' k' (nI B.1) B.2, hq.tr (ZC_qt _ _ _ _ _), ?_⟩
    unfold cupA
    rw [b1, if_neg (by decide), hB, b3, kk]
    by_cases c1 : a = 0
    · rw [if_pos c1, if_pos c1]
    · rw [if_neg c1, if_neg c1]
theorem needN_congr {W : Int32 → Int32 → Int32 → Int32 → Int32} {kd sp he kd' sp' he' : Nat → Int32} {hr : Nat} {sh sh' : Nat → Int32} {n c : Nat} (e1 : kd c = kd' c) (e2 : sp c = sp' c) (e3 : ∀ j, j < 24 → he j = he' j) (e4 : sh c = sh' c) : needN W kd sp he hr sh n c = needN W kd' sp' he' hr sh' n c := by
  have : ∀ m, xneed W kd sp he c hr (sh c) m = xneed W kd' sp' he' c hr (sh' c) m := by
    intro m
    induction m with
    | zero => rw [xneed_0, xneed_0, e4]
    | succ m ih => rw [xneed_1, xneed_1, ih, xth_congr e1 e2 e3, e1]
  unfold needN
  rw [this]
theorem anyN_congr {N N' : Nat → Nat} {H : Nat} : ∀ n, (∀ j, j < n → N j = N' j) → anyN N H n = anyN N' H n
  | 0, _ => rfl
  | n + 1, h => by
    unfold anyN
    rw [anyN_congr n (fun j hj => h j (by omega)), h n (by omega)]
theorem fillC_congr {N N' : Nat → Nat} {H nc : Nat} (h : ∀ j, j < nc → N j = N' j) : ∀ r, r ≤ nc → ∀ L K used b, fillC N H nc r L K used b = fillC N' H nc r L K used b
  | 0, _, _, _, _, _ => rfl
  | r + 1, hr, L, K, used, b => by
    unfold fillC
    rw [h (nc - (r + 1)) (by omega)]
    congr 1
    funext cup b
    rw [fillC_congr h r (by omega)]
theorem cupA_congr {N N' : Nat → Nat} {H nc : Nat} {a : Int32} (h : ∀ j, j < nc → N j = N' j) : cupA N H nc a = cupA N' H nc a := by
  unfold cupA
  rw [anyN_congr nc h, fillC_congr h nc (Nat.le_refl _)]
