/-! A round: the reference's answer. -/
def oN (x : Option Nat) : Nat := match x with
  | none => 100000
  | some k => k
theorem oM_N (x : Option Nat) : oM x = nI (oN x) := by
  cases x <;> rfl
theorem lfB_congr {dl dl' : Nat → Option Nat} {V : Nat → Bool} (h : ∀ j, j < 5 → isS (dl j) = isS (dl' j)) : lfB dl V = lfB dl' V := by
  funext j
  unfold lfB
  by_cases c : j < 5
  · rw [h j c]
  · rw [decide_eq_false c, Bool.false_and, Bool.false_and]
theorem c_mround {d np nc ne nw n hr e q0 a : Nat} {W : Int32 → Int32 → Int32 → Int32 → Int32} {g : AH} {dm : Nat → Nat → Option Nat} {S : Nat → Nat} (hm : MSh g) (hl : MoL g n W) (h0 : hAI g 350 0 = nI np) (hn5 : np ≤ 5) (hn : MoC g nc ne nw) (hdm : ∀ a b, a < np → b < np → hAI g 385 (5 * a + b) = oM (dm a b) ∧ ∀ k, dm a b = some k → k ≤ 9999) (hS : ∀ c, c < nc → hAI g 358 c = nI (S c) ∧ S c < np) (hR : hAI g 397 0 = nI hr) (hh : hr + 241 < 2 ^ 31) (h9 : ∀ c, c < nc → (hAI g 359 c).toInt ≤ 999 ∧ okc (hAI g 359 c) (getc (dec (hAI g 397)).1 c)) (he : e < 4) (hq : hAI g 397 (24 + e) = nI q0) (hq2 : q0 < np) (ha : a < 2 ^ 31) :
    ∃ g1, Qt g g1 ∧ am_R PG (d + 12) 250 24 [some (.ref 348), some (.int (nI e)), some (.int (nI a)), some (.int 0), some (.int 0), none] [] g = some (some (.int (rdA (cntB (fun j => isS (dlF S (fun c => fsO (xstb W (hAI g 357) (hAI g 359) (hAI g 361) (hAI g 369) hr c (getc (dec (hAI g 397)).1 c)) 241) nc j)) 5) (rdF dm (dlF S (fun c => fsO (xstb W (hAI g 357) (hAI g 359) (hAI g 361) (hAI g 369) hr c (getc (dec (hAI g 397)).1 c)) 241) nc) np (cntB (fun j => isS (dlF S (fun c => fsO (xstb W (hAI g 357) (hAI g 359) (hAI g 361) (hAI g 369) hr c (getc (dec (hAI g 397)).1 c)) 241) nc j)) 5) (fun _ => false) (fun _ => 0) 0 q0 0 none) a)), g1) := by
  obtain ⟨n1, n2, n3, n4, n5, n6⟩ := hn
  have egc : ∀ h, Qt g h → ∀ c, c < 6 → getc (dec (hAI h 397)).1 c = getc (dec (hAI g 397)).1 c := fun h q c hc => by
    show (hAI h 397 (6 + c), hAI h 397 (12 + c), hAI h 397 (18 + c)) = (hAI g 397 (6 + c), hAI g 397 (12 + c), hAI g 397 (18 + c))
    rw [q.q397 (by omega), q.q397 (by omega), q.q397 (by omega)]
  have kst : ∀ h c, Qt g h → c < nc → ∃ h2, Qt g h2 ∧ hAI h2 403 = hAI h 403 ∧ am_C PG (d + 11) 239 [.ref 348, .int (nI c)] h = some (some (.int (oC (fsO (xstb W (hAI g 357) (hAI g 359) (hAI g 361) (hAI g 369) hr c (getc (dec (hAI g 397)).1 c)) 241))), h2) := by
    intro h c q hc
    have r : ∀ a, 349 ≤ a → a < 375 → hAI h a = hAI g a := fun a h1 h2 => q.row (by unfold cRow; omega)
    obtain ⟨h2, b1, b2, b3, b4⟩ := c_mstopsH (d := d + 5) (len := n) (W := W) (c := c) (hr := hr) (q.msh hm) (q.refm hl) (by omega) hh (by rw [q.q397 (by decide)]; exact hR) (by rw [r 359 (by decide) (by decide)]; exact (h9 c hc).1) (by rw [r 359 (by decide) (by decide), egc h q c (by omega)]; exact (h9 c hc).2)
    rw [r 357 (by decide) (by decide), r 359 (by decide) (by decide), r 361 (by decide) (by decide), r 369 (by decide) (by decide), egc h q c (by omega)] at b4
    exact ⟨h2, q.tr b1, b2 _ (by decide), b4⟩
  generalize hRR : (fun c => fsO (xstb W (hAI g 357) (hAI g 359) (hAI g 361) (hAI g 369) hr c (getc (dec (hAI g 397)).1 c)) 241) = R
  have kst : ∀ h c, Qt g h → c < nc → ∃ h2, Qt g h2 ∧ hAI h2 403 = hAI h 403 ∧ am_C PG (d + 11) 239 [.ref 348, .int (nI c)] h = some (some (.int (oC (R c))), h2) := by
    rw [← hRR]
    exact kst
  have hRb : ∀ i k, R i = some k → k ≤ 240 := fun i k z => by
    rw [← hRR] at z
    have := ((fsO_sp _ 241).1 k z).1
    omega
  have hdb : ∀ m j k, dlF S R m j = some k → k ≤ 240 := fun m j k z => dlF_le hRb m j k z
  have hdn : ∀ m, m ≤ nc → ∀ j, np ≤ j → dlF S R m j = none := by
    intro m
    induction m with
    | zero => intro _ j _; rfl
    | succ m ih =>
      intro hm j hj
      rw [dlF_s]
      unfold dlU
      rw [if_neg (fun z => by have := (hS m (by omega)).2; omega)]
      exact ih (by omega) j hj
  generalize hQ : am_R PG (d + 12) 250 24 [some (.ref 348), some (.int (nI e)), some (.int (nI a)), some (.int 0), some (.int 0), none] [] g = Q
  have lp1 : ∀ i, i ≤ 5 → ∃ h, Qt g h ∧ (∀ j, j < i → hAI h 403 j = 100000) ∧ Q = am_R PG (d + 12) 250 24 [some (.ref 348), some (.int (nI e)), some (.int (nI a)), some (.int 0), some (.int (nI i)), none] [] h := by
    intro i
    induction i with
    | zero => intro _; exact ⟨g, Qt.rfl' g, fun j hj => by omega, hQ.symm⟩
    | succ i ih =>
      intro hi
      obtain ⟨h, q, b1, b3⟩ := ih (by omega)
      have hmm := q.msh hm
      have m0 := hmm.1
      have f1270 : hFR _ 1270 348 = some 403 := (hmm.2 54 (by decide)).1
      have k403 : hK _ 403 = 50 := (hmm.2 54 (by decide)).2.1
      have n403 : hLN _ 403 = 5 := (hmm.2 54 (by decide)).2.2
      have e5 : (nI i < (5 : Int32)) = True := eq_true (nI_lt (b := 5) (by omega) (by decide))
      have e1 : ∀ x, am_in (nI i) 5 x = x := am_inN (by omega) (by decide)
      have t1 : Int32.toNatClampNeg (nI i) = i := nI_clamp (by omega)
      refine ⟨sEI h 403 i 100000, q.eih _ _ _ (by omega), fun j hj => ?_, ?_⟩
      · rw [sEI_at]
        by_cases z : j = i
        · subst z; rw [pk_us]
        · rw [pk_un z]; exact b1 j (by omega)
      · rw [b3, q_X12_round_24]
        simp only [am_kd, m0, f1270, k403, n403, if_true, bR_s, e5, e1, t1, am_let_e, nI_1]
  have e2 : ∀ x, am_in (2 : Int32) 10 x = x := am_inN (i := 2) (by decide) (by decide)
  have t2 : Int32.toNatClampNeg 2 = 2 := by decide
  have lp2 : ∀ i, i ≤ nc → ∃ h, Qt g h ∧ (∀ j, j < 5 → hAI h 403 j = oM (dlF S R i j)) ∧ Q = am_R PG (d + 12) 250 49 [some (.ref 348), some (.int (nI e)), some (.int (nI a)), some (.int (bitN (lfB (dlF S R i) (fun _ => false)) 6)), some (.int (nI i)), none] [] h := by
    intro i
    induction i with
    | zero =>
      intro _
      obtain ⟨h, q, b1, b3⟩ := lp1 5 (Nat.le_refl _)
      refine ⟨h, q, b1, ?_⟩
      have z : bitN (lfB (dlF S R 0) (fun _ => false)) 6 = 0 := (bit_zero (Nat.le_refl 6)).2 (fun j _ => by
        unfold lfB
        show (decide (j < 5) && (false && !false)) = false
        rw [Bool.false_and, Bool.and_false])
      rw [b3, q_X12_round_24, if_neg (show ¬ nI 5 < (5 : Int32) by decide), z]
      rfl
    | succ i ih =>
      intro hi
      obtain ⟨h, q, b1, b3⟩ := ih (by omega)
      obtain ⟨h2, q2, d1, d3⟩ := kst h i q (by omega)
      obtain ⟨s1, s2⟩ := hS i (by omega)
      have hmm := q.msh hm
      have m0 := hmm.1
      have f1210 : hFR _ 1210 348 = some 350 := (hmm.2 1 (by decide)).1
      have k350 : hK _ 350 = 50 := (hmm.2 1 (by decide)).2.1
      have n350 : hLN _ 350 = 10 := (hmm.2 1 (by decide)).2.2
      have w350 : hAI h 350 2 = nI nc := by rw [q.row (by unfold cRow; omega)]; exact n1
      have e5 : (nI i < nI nc) = True := eq_true (nI_lt (by omega) (by omega))
      rw [dlF_s]
      have hdbi := hdb i
      have hRi := hRb i
      generalize dlF S R i = dl at b1 b3 hdbi ⊢
      cases hr1 : R i with
      | none =>
        have e : dlU (S i) none dl = dl := by
          funext j
          unfold dlU
          split <;> rfl
        rw [e]
        rw [hr1] at d3
        have d3 : am_C PG (d + 11) 239 [.ref 348, .int (nI i)] h = some (some (.int (-1)), h2) := d3
        have dn : ((-1 : Int32) < 0) = True := eq_true (by decide)
        refine ⟨h2, q2, fun j hj => by rw [d1]; exact b1 j hj, ?_⟩
        rw [b3, q_X12_round_49]
        simp only [am_kd, m0, f1210, k350, n350, if_true, bR_s, e2, t2, w350, e5, d3, bI_s, dn, nI_1]
      | some x =>
        have hx := hRi x hr1
        rw [hr1] at d3
        have d3 : am_C PG (d + 11) 239 [.ref 348, .int (nI i)] h = some (some (.int (nI x)), h2) := d3
        have dn : (nI x < 0) = False := eq_false (nI_pos (by omega))
        have hmm2 := q2.msh hm
        have ki : hK h2 348 = 13 := hmm2.1
        have g18 : hFR h2 1218 348 = some 358 := (hmm2.2 9 (by decide)).1
        have g18k : hK h2 358 = 50 := (hmm2.2 9 (by decide)).2.1
        have g18n : hLN h2 358 = 12 := (hmm2.2 9 (by decide)).2.2
        have g70 : hFR h2 1270 348 = some 403 := (hmm2.2 54 (by decide)).1
        have g70k : hK h2 403 = 50 := (hmm2.2 54 (by decide)).2.1
        have g70n : hLN h2 403 = 5 := (hmm2.2 54 (by decide)).2.2
        have w358 : hAI h2 358 i = nI (S i) := by rw [q2.row (by unfold cRow; omega)]; exact s1
        have e1 : ∀ x, am_in (nI i) 12 x = x := am_inN (by omega) (by decide)
        have t1 : Int32.toNatClampNeg (nI i) = i := nI_clamp (by omega)
        have es : ∀ x, am_in (nI (S i)) 5 x = x := am_inN (by omega) (by decide)
        have ts : Int32.toNatClampNeg (nI (S i)) = S i := nI_clamp (by omega)
        have w403 : hAI h2 403 (S i) = nI (oN (dl (S i))) := by rw [d1, b1 _ (by omega), oM_N]
        have hob : oN (dl (S i)) ≤ 100000 := by
          cases z : dl (S i) with
          | none => exact Nat.le_refl _
          | some k => exact Nat.le_trans (hdbi _ k z) (by decide)
        have km := am_min (d + 10) (oN (dl (S i))) x h2 (by omega) (by omega)
        have hmin : oM (dlU (S i) (some x) dl (S i)) = nI (Nat.min (oN (dl (S i))) x) := by
          unfold dlU
          rw [if_pos rfl]
          cases z : dl (S i) with
          | none =>
            show nI x = nI (Nat.min 100000 x)
            rw [show Nat.min 100000 x = x from Nat.min_eq_right (by omega)]
          | some k => rfl
        have hbor := bit_or (lfB dl (fun _ => false)) (show S i < 6 by omega)
        have hVe : (fun k => decide (k = S i) || lfB dl (fun _ => false) k) = lfB (dlU (S i) (some x) dl) (fun _ => false) := by
          funext j
          unfold lfB dlU
          by_cases z : j = S i
          · rw [if_pos z.symm, decide_eq_true z, decide_eq_true (show j < 5 by omega)]
            cases dl j <;> rfl
          · rw [if_neg (fun q => z q.symm), decide_eq_false z]
            rfl
        rw [hVe] at hbor
        refine ⟨sEI h2 403 (S i) (nI (Nat.min (oN (dl (S i))) x)), q2.eih _ _ _ (by omega), fun j hj => ?_, ?_⟩
        · rw [sEI_at]
          by_cases z : j = S i
          · subst z
            rw [pk_us, hmin]
          · rw [pk_un z, d1]
            unfold dlU
            rw [if_neg (fun q => z q.symm)]
            exact b1 j hj
        · rw [b3, q_X12_round_49]
          simp only [am_kd, m0, f1210, k350, n350, if_true, if_false, bR_s, e2, t2, w350, e5, d3, bI_s, dn, ki, g18, g18k, g18n, g70, g70k, g70n, e1, t1, es, ts, w358, w403, km, am_let_e, hbor, nI_1]
  obtain ⟨h, q, b1, b3⟩ := lp2 nc (Nat.le_refl _)
  have hdb2 := hdb nc
  have hdn2 := hdn nc (Nat.le_refl _)
  generalize dlF S R nc = dl at b1 b3 hdb2 hdn2 ⊢
  have hs5 := cntB_le (fun j => isS (dl j)) 5
  have hcl : cntB (lfB dl (fun _ => false)) 5 = cntB (fun j => isS (dl j)) 5 := cntB_congr 5 (fun j hj => by
    unfold lfB
    rw [decide_eq_true hj, Bool.not_false, Bool.and_true, Bool.true_and])
  generalize cntB (fun j => isS (dl j)) 5 = s at hs5 hcl ⊢
  have q2 : Qt g (sFI (sFI h 1273 348 (-1)) 1274 348 0) := (q.fih _ _ _ (by unfold cFld; omega)).fih _ _ _ (by unfold cFld; omega)
  have v1 : hFI (sFI (sFI h 1273 348 (-1)) 1274 348 0) 1273 348 = -1 := by rw [sFI_o _ _ (Or.inl (by decide)), sFI_at]
  obtain ⟨h2, q3, f1, f2, f4, f5⟩ := c_mrounds hm h0 hn5 hdm hdb2 hdn2 hs5 s (d + (10 - s)) (fun _ => false) (fun _ => 0) 0 q0 0 none (sFI (sFI h 1273 348 (-1)) 1274 348 0) (by omega) hcl hq2 (by omega) q2 (fun j hj => by rw [rd_hAI_sFI, rd_hAI_sFI]; exact b1 j hj) (fun i hi => by omega) v1
  have kd : d + (10 - s) + s + 1 = d + 11 := by omega
  rw [kd, nI_0] at f5
  refine ⟨h2, q3, ?_⟩
  have hmm := q.msh hm
  have m0 := hmm.1
  have f1210 : hFR _ 1210 348 = some 350 := (hmm.2 1 (by decide)).1
  have k350 : hK _ 350 = 50 := (hmm.2 1 (by decide)).2.1
  have n350 : hLN _ 350 = 10 := (hmm.2 1 (by decide)).2.2
  have f1259 : hFR _ 1259 348 = some 397 := (hmm.2 48 (by decide)).1
  have k397 : hK _ 397 = 50 := (hmm.2 48 (by decide)).2.1
  have n397 : hLN _ 397 = 43 := (hmm.2 48 (by decide)).2.2
  have hmm2 := q3.msh hm
  have ki : hK h2 348 = 13 := hmm2.1
  have g72 : hFR h2 1272 348 = some 405 := (hmm2.2 56 (by decide)).1
  have g72k : hK h2 405 = 50 := (hmm2.2 56 (by decide)).2.1
  have g72n : hLN h2 405 = 5 := (hmm2.2 56 (by decide)).2.2
  have w350 : hAI h 350 2 = nI nc := by rw [q.row (by unfold cRow; omega)]; exact n1
  have w397 : hAI h 397 (24 + e) = nI q0 := by rw [q.q397 (by omega)]; exact hq
  have e5 : (nI nc < nI nc) = False := eq_false (nI_nlt (Nat.le_refl _) (by omega))
  have a24 : (24 : Int32) + nI e = nI (24 + e) := nI_add 24 e
  have e24 : ∀ x, am_in (nI (24 + e)) 43 x = x := am_inN (by omega) (by decide)
  have t24 : Int32.toNatClampNeg (nI (24 + e)) = 24 + e := nI_clamp (by omega)
  have hd : Q = (if hFI h2 1273 348 < 0 then some (some (.int (-1)), h2) else (if hFI h2 1274 348 < nI a then some (some (.int (-1)), h2) else (if nI a = 0 then some (some (.int (hFI h2 1273 348)), h2) else am_in (nI a - 1) 5 (some (some (.int (hAI h2 405 (Int32.toNatClampNeg (nI a - 1)))), h2))))) := by
    rw [b3, q_X12_round_49]
    simp only [am_kd, m0, f1210, k350, n350, f1259, k397, n397, if_true, if_false, bR_s, e2, t2, w350, e5, am_let_e, rd_hK_sFI, rd_hFR_sFI, rd_hLN_sFI, rd_hAI_sFI, a24, e24, t24, w397, f5, bV_s, ki, g72, g72k, g72n]
  rw [hd]
  generalize rdF dm dl np s (fun _ => false) (fun _ => 0) 0 q0 0 none = b at f4 ⊢
  cases b with
  | none =>
    have he : hFI h2 1273 348 = -1 := f4
    rw [he, if_pos (show (-1 : Int32) < 0 by decide)]
    rfl
  | some bb =>
    obtain ⟨t, O⟩ := bb
    obtain ⟨he, hmn, ht, hO⟩ := f4
    rw [he, hmn, if_neg (nI_pos (by omega))]
    have hra : rdA s (some (t, O)) a = (if s < a then -1 else if a = 0 then nI t else nI (O (a - 1))) := rfl
    rw [hra]
    by_cases c3 : s < a
    · rw [if_pos (nI_lt c3 ha), if_pos c3]
    · rw [if_neg (nI_nlt (by omega) (by omega)), if_neg c3]
      by_cases c4 : a = 0
      · rw [if_pos (show nI a = 0 by rw [c4]; rfl), if_pos c4]
      · obtain ⟨y, rfl⟩ : ∃ y, a = y + 1 := ⟨a - 1, by omega⟩
        rw [if_neg (nI_ne0 (by omega) (by omega)), if_neg c4, nI_pred, am_inN (by omega) (by decide), nI_clamp (by omega), Nat.add_sub_cancel, hO y (by omega)]
