/-! A round: the reference's side. -/
theorem Qt.refm {g h : AH} (q : Qt g h) {n : Nat} {W : Int32 → Int32 → Int32 → Int32 → Int32} (s : MoL g n W) : MoL h n W := s.to (q.row (by unfold cRow; omega)) (q.row (by unfold cRow; omega)) (q.row (by unfold cRow; omega))
theorem Qt.q397 {g h : AH} (q : Qt g h) {j : Nat} (hj : j < 43) : hAI h 397 j = hAI g 397 j := q.2.2.2.2.2.2.2.2.2 j hj
/-- stopsOf over any heap -/
theorem c_mstopsH {d len c hr : Nat} {W : Int32 → Int32 → Int32 → Int32 → Int32} {h : AH} (hm : MSh h) (hl : MoL h len W) (hc : c < 6) (hh : hr + 241 < 2 ^ 31) (hQ : hAI h 397 0 = nI hr) (h9 : (hAI h 359 c).toInt ≤ 999) (hx : okc (hAI h 359 c) (getc (dec (hAI h 397)).1 c)) :
    ∃ h2, Qt h h2 ∧ (∀ a, 384 < a → hAI h2 a = hAI h a) ∧ (∀ k, k < 1265 ∨ 1268 < k → ∀ a, hFI h2 k a = hFI h k a) ∧ am_C PG (d + 6) 239 [.ref 348, .int (nI c)] h = some (some (.int (oC (fsO (xstb W (hAI h 357) (hAI h 359) (hAI h 361) (hAI h 369) hr c (getc (dec (hAI h 397)).1 c)) 241))), h2) := by
  obtain ⟨τ, y, r, r1, r2⟩ := c_mstops (d := d) (Q := dec (hAI h 397)) (ρ := hAI h) (w := (hFI h 1265 348, hFI h 1266 348, hFI h 1267 348, hFI h 1268 348)) hm hl hc hh hQ h9 hx
  rw [enc_dec, hm_self] at r2
  rw [← fsO_eq r1]
  refine ⟨_, ?_, ?_, ?_, r2⟩
  · have := Qt.hm (g := h) (f := hAI h 397) (u := hAI h 397) (ρ := hAI h) (τ := τ) (w := (hFI h 1265 348, hFI h 1266 348, hFI h 1267 348, hFI h 1268 348)) (y := y) (fun _ _ => rfl)
    rw [hm_self] at this
    exact this
  · intro a ha
    by_cases e : a = 397
    · rw [e, hm_at]
    · exact hm_o _ _ _ _ e (Or.inr ha)
  · intro k hk a
    exact hm_fo _ _ _ _ (by omega)
/-- best as it lies in the reference -/
def rdM (s : Nat) (b : Option (Nat × (Nat → Nat))) (e mn : Int32) (o : Nat → Int32) : Prop := match b with
  | none => e = -1
  | some (t, O) => e = nI t ∧ mn = nI s ∧ t ≤ 240 ∧ ∀ i, i < s → o i = nI (O i)
theorem c_mcopy5 {d : Nat} {g h : AH} (hm : MSh g) (q : Qt g h) : ∃ h2, Qt g h2 ∧ hAI h2 403 = hAI h 403 ∧ hAI h2 404 = hAI h 404 ∧ (∀ j, j < 5 → hAI h2 405 j = hAI h 404 j) ∧ (∀ k a, hFI h2 k a = hFI h k a) ∧ am_R PG (d + 1) 249 35 [some (.ref 348), none, none, none, none, some (.int 0)] [] h = some (none, h2) := by
  generalize hQ : am_R PG (d + 1) 249 35 [some (.ref 348), none, none, none, none, some (.int 0)] [] h = Q
  have lp : ∀ i, i ≤ 5 → ∃ h2, Qt g h2 ∧ hAI h2 403 = hAI h 403 ∧ hAI h2 404 = hAI h 404 ∧ (∀ j, j < i → hAI h2 405 j = hAI h 404 j) ∧ (∀ k a, hFI h2 k a = hFI h k a) ∧ Q = am_R PG (d + 1) 249 35 [some (.ref 348), none, none, none, none, some (.int (nI i))] [] h2 := by
    intro i
    induction i with
    | zero => intro _; exact ⟨h, q, rfl, rfl, fun j hj => by omega, fun _ _ => rfl, hQ.symm⟩
    | succ i ih =>
      intro hi
      obtain ⟨h2, q2, a0, a1, a2, a3, a4⟩ := ih (by omega)
      have hmm := q2.msh hm
      have m0 := hmm.1
      have f1271 : hFR _ 1271 348 = some 404 := (hmm.2 55 (by decide)).1
      have k404 : hK _ 404 = 50 := (hmm.2 55 (by decide)).2.1
      have n404 : hLN _ 404 = 5 := (hmm.2 55 (by decide)).2.2
      have f1272 : hFR _ 1272 348 = some 405 := (hmm.2 56 (by decide)).1
      have k405 : hK _ 405 = 50 := (hmm.2 56 (by decide)).2.1
      have n405 : hLN _ 405 = 5 := (hmm.2 56 (by decide)).2.2
      have e5 : (nI i < (5 : Int32)) = True := eq_true (nI_lt (b := 5) (by omega) (by decide))
      have e1 : ∀ x, am_in (nI i) 5 x = x := am_inN (by omega) (by decide)
      have t1 : Int32.toNatClampNeg (nI i) = i := nI_clamp (by omega)
      refine ⟨sEI h2 405 i (hAI h 404 i), q2.eih _ _ _ (by omega), by rw [sEI_ne _ _ _ (by decide)]; exact a0, by rw [sEI_ne _ _ _ (by decide)]; exact a1, fun j hj => ?_, fun k a => by rw [rd_hFI_sEI]; exact a3 k a, ?_⟩
      · rw [sEI_at]
        by_cases z : j = i
        · subst z; rw [pk_us]
        · rw [pk_un z]; exact a2 j (by omega)
      · rw [a4, q_X12_rounds_35]
        simp only [am_kd, m0, f1271, k404, n404, f1272, k405, n405, if_true, bR_s, e5, e1, t1, am_let_e, a1, nI_1]
  obtain ⟨h2, q2, a0, a1, a2, a3, a4⟩ := lp 5 (Nat.le_refl _)
  refine ⟨h2, q2, a0, a1, a2, a3, ?_⟩
  rw [a4, q_X12_rounds_35, if_neg (show ¬ nI 5 < (5 : Int32) by decide)]
theorem c_mrLeaf {d s m t : Nat} {g h : AH} {O : Nat → Nat} {b : Option (Nat × (Nat → Nat))} {at_ : Int32} (hm : MSh g) (q : Qt g h) (hsm : s = m) (hm5 : m ≤ 5) (ht : t ≤ 240) (ho : ∀ i, i < m → hAI h 404 i = nI (O i)) (hb : rdM s b (hFI h 1273 348) (hFI h 1274 348) (hAI h 405)) :
    ∃ h2, Qt g h2 ∧ hAI h2 403 = hAI h 403 ∧ (∀ i, i < m → hAI h2 404 i = hAI h 404 i) ∧ rdM s (rdL t O b) (hFI h2 1273 348) (hFI h2 1274 348) (hAI h2 405) ∧ am_C PG (d + 1) 249 [.ref 348, .int at_, .int 0, .int (nI m), .int (nI t)] h = some (none, h2) := by
  have m0 := (q.msh hm).1
  have q2 : Qt g (sFI (sFI h 1273 348 (nI t)) 1274 348 (nI m)) := (q.fih _ _ _ (by unfold cFld; omega)).fih _ _ _ (by unfold cFld; omega)
  obtain ⟨h2, b1, b2, b3, b4, b5, b6⟩ := c_mcopy5 (d := d) hm q2
  have set : rdM s (some (t, O)) (hFI h2 1273 348) (hFI h2 1274 348) (hAI h2 405) := by
    refine ⟨?_, ?_, ht, fun i hi => ?_⟩
    · rw [b5, sFI_o _ _ (Or.inl (by decide)), sFI_at]
    · rw [b5, sFI_at, hsm]
    · rw [b4 i (by omega), rd_hAI_sFI, rd_hAI_sFI]
      exact ho i (by omega)
  have zz : ((0 : Int32) = 0) = True := eq_true rfl
  have w3 : hAI h2 403 = hAI h 403 := by rw [b2, rd_hAI_sFI, rd_hAI_sFI]
  have w4 : hAI h2 404 = hAI h 404 := by rw [b3, rd_hAI_sFI, rd_hAI_sFI]
  cases b with
  | none =>
    have he : hFI h 1273 348 = -1 := hb
    have d1 : ((-1 : Int32) < 0) = True := eq_true (by decide)
    refine ⟨h2, b1, w3, fun i _ => by rw [w4], set, ?_⟩
    rw [q_X12_rounds]
    simp only [zz, if_true, am_kd, m0, he, d1, am_let_e, rd_hK_sFI, b6]
  | some bb =>
    obtain ⟨u, O2⟩ := bb
    obtain ⟨he, hmn, hu, hO⟩ := hb
    have d1 : (nI u < 0) = False := eq_false (nI_pos (by omega))
    have hrd : rdL t O (some (u, O2)) = if t < u then some (t, O) else some (u, O2) := rfl
    rw [hrd]
    by_cases c1 : t < u
    · have d2 : (nI t < nI u) = True := eq_true (nI_lt c1 (by omega))
      rw [if_pos c1]
      refine ⟨h2, b1, w3, fun i _ => by rw [w4], set, ?_⟩
      rw [q_X12_rounds]
      simp only [zz, if_true, if_false, am_kd, m0, he, d1, d2, am_let_e, rd_hK_sFI, b6]
    · have d2 : (nI t < nI u) = False := eq_false (nI_nlt (by omega) (by omega))
      rw [if_neg c1]
      refine ⟨h, q, rfl, fun _ _ => rfl, ⟨he, hmn, hu, hO⟩, ?_⟩
      rw [q_X12_rounds]
      simp only [zz, if_true, if_false, am_kd, m0, he, d1, d2]
/-- the places left -/
def lfB (dl : Nat → Option Nat) (V : Nat → Bool) (j : Nat) : Bool := decide (j < 5) && (isS (dl j) && !V j)
theorem c_mrounds {np s : Nat} {g : AH} {dm : Nat → Nat → Option Nat} {dl : Nat → Option Nat} (hm : MSh g) (h0 : hAI g 350 0 = nI np) (hn5 : np ≤ 5) (hdm : ∀ a b, a < np → b < np → hAI g 385 (5 * a + b) = oM (dm a b) ∧ ∀ k, dm a b = some k → k ≤ 9999) (hdl : ∀ a k, dl a = some k → k ≤ 240) (hdn : ∀ a, np ≤ a → dl a = none) (hs5 : s ≤ 5) :
    ∀ r d V O m at_ t b h, m + r = s → cntB (lfB dl V) 5 = r → at_ < np → t ≤ 240 → Qt g h → (∀ j, j < 5 → hAI h 403 j = oM (dl j)) → (∀ i, i < m → hAI h 404 i = nI (O i)) → rdM s b (hFI h 1273 348) (hFI h 1274 348) (hAI h 405) →
    ∃ h2, Qt g h2 ∧ hAI h2 403 = hAI h 403 ∧ (∀ i, i < m → hAI h2 404 i = hAI h 404 i) ∧ rdM s (rdF dm dl np r V O m at_ t b) (hFI h2 1273 348) (hFI h2 1274 348) (hAI h2 405) ∧ am_C PG (d + r + 1) 249 [.ref 348, .int (nI at_), .int (bitN (lfB dl V) 6), .int (nI m), .int (nI t)] h = some (none, h2) := by
  intro r
  induction r with
  | zero =>
    intro d V O m at_ t b h hmr hcnt hat ht q h403 h404 hb
    have hz : bitN (lfB dl V) 6 = 0 := (bit_zero (Nat.le_refl 6)).2 (fun j hj => by
      by_cases e : j < 5
      · exact cntB_0 5 hcnt j e
      · unfold lfB
        rw [decide_eq_false e, Bool.false_and])
    rw [hz]
    exact c_mrLeaf hm q (by omega) (by omega) ht h404 hb
  | succ r ih =>
    intro d V O m at_ t b h hmr hcnt hat ht q h403 h404 hb
    have hnz : (bitN (lfB dl V) 6 = 0) = False := eq_false (fun z => by
      have := (bit_zero (Nat.le_refl 6)).1 z
      have h0 : cntB (lfB dl V) 5 = 0 := by
        have : ∀ n, n ≤ 5 → cntB (lfB dl V) n = 0 := by
          intro n
          induction n with
          | zero => intro _; rfl
          | succ n ihn =>
            intro hn
            show cntB (lfB dl V) n + (if lfB dl V n then 1 else 0) = 0
            rw [ihn (by omega), this n (by omega)]
            rfl
        exact this 5 (Nat.le_refl _)
      omega)
    have em : ∀ x, am_in (nI m) 5 x = x := am_inN (by omega) (by decide)
    have tm : Int32.toNatClampNeg (nI m) = m := nI_clamp (by omega)
    have e0 : ∀ x, am_in (0 : Int32) 10 x = x := am_inN (i := 0) (by decide) (by decide)
    have lp : ∀ j, j ≤ np → ∃ h2, Qt g h2 ∧ hAI h2 403 = hAI h 403 ∧ (∀ i, i < m → hAI h2 404 i = hAI h 404 i) ∧ rdM s (foldB (rdP (fun p t2 b => rdF dm dl np r (fun k => decide (k = p) || V k) (updN O m p) (m + 1) p t2 b) (dm at_) dl V t) j b) (hFI h2 1273 348) (hFI h2 1274 348) (hAI h2 405) ∧ am_C PG (d + (r + 1) + 1) 249 [.ref 348, .int (nI at_), .int (bitN (lfB dl V) 6), .int (nI m), .int (nI t)] h = am_R PG (d + r + 1 + 1) 249 65 [some (.ref 348), some (.int (nI at_)), some (.int (bitN (lfB dl V) 6)), some (.int (nI m)), some (.int (nI t)), some (.int (nI j))] [] h2 := by
      intro j
      induction j with
      | zero =>
        intro _
        refine ⟨h, q, rfl, fun _ _ => rfl, hb, ?_⟩
        rw [show d + (r + 1) + 1 = d + r + 1 + 1 from rfl, q_X12_rounds]
        simp only [hnz, if_false]
        rfl
      | succ j ihj =>
        intro hj
        obtain ⟨h1, q1, a1, a2, a4, a5⟩ := ihj (by omega)
        have hf : ∀ F : Nat → Option (Nat × (Nat → Nat)) → Option (Nat × (Nat → Nat)), foldB F (j + 1) b = F j (foldB F j b) := fun F => rfl
        rw [hf]
        generalize foldB (rdP (fun p t2 b => rdF dm dl np r (fun k => decide (k = p) || V k) (updN O m p) (m + 1) p t2 b) (dm at_) dl V t) j b = B at a4
        have hmm := q1.msh hm
        have m0 := hmm.1
        have f1210 : hFR _ 1210 348 = some 350 := (hmm.2 1 (by decide)).1
        have k350 : hK _ 350 = 50 := (hmm.2 1 (by decide)).2.1
        have n350 : hLN _ 350 = 10 := (hmm.2 1 (by decide)).2.2
        have f1247 : hFR _ 1247 348 = some 385 := (hmm.2 36 (by decide)).1
        have k385 : hK _ 385 = 50 := (hmm.2 36 (by decide)).2.1
        have n385 : hLN _ 385 = 25 := (hmm.2 36 (by decide)).2.2
        have f1270 : hFR _ 1270 348 = some 403 := (hmm.2 54 (by decide)).1
        have k403 : hK _ 403 = 50 := (hmm.2 54 (by decide)).2.1
        have n403 : hLN _ 403 = 5 := (hmm.2 54 (by decide)).2.2
        have f1271 : hFR _ 1271 348 = some 404 := (hmm.2 55 (by decide)).1
        have k404 : hK _ 404 = 50 := (hmm.2 55 (by decide)).2.1
        have n404 : hLN _ 404 = 5 := (hmm.2 55 (by decide)).2.2
        have w0 : hAI h1 350 0 = nI np := by rw [q1.row (by unfold cRow; omega)]; exact h0
        have w385 : hAI h1 385 (5 * at_ + j) = oM (dm at_ j) := by rw [q1.row (by unfold cRow; omega)]; exact (hdm at_ j hat (by omega)).1
        have hdb := (hdm at_ j hat (by omega)).2
        have hl1 : hAI h1 403 j = oM (dl j) := by rw [a1]; exact h403 j (by omega)
        have hlb := hdl j
        have ej : ∀ x, am_in (nI j) 5 x = x := am_inN (by omega) (by decide)
        have tj : Int32.toNatClampNeg (nI j) = j := nI_clamp (by omega)
        have m5 : (5 : Int32) * nI at_ + nI j = nI (5 * at_ + j) := by rw [show (5 : Int32) = nI 5 from rfl, pk_mul, nI_add]
        have i5 : ∀ x, am_in (nI (5 * at_ + j)) 25 x = x := am_inN (by omega) (by decide)
        have t5 : Int32.toNatClampNeg (nI (5 * at_ + j)) = 5 * at_ + j := nI_clamp (by omega)
        have e7 : (nI j < nI np) = True := eq_true (nI_lt (by omega) (by omega))
        have hbit := bit_at (lfB dl V) (show j < 6 by omega)
        have hbrm := bit_rm (lfB dl V) (show j < 5 by omega)
        have skip : rdM s B (hFI h1 1273 348) (hFI h1 1274 348) (hAI h1 405) → am_R PG (d + r + 1 + 1) 249 65 [some (.ref 348), some (.int (nI at_)), some (.int (bitN (lfB dl V) 6)), some (.int (nI m)), some (.int (nI t)), some (.int (nI j))] [] h1 = am_R PG (d + r + 1 + 1) 249 65 [some (.ref 348), some (.int (nI at_)), some (.int (bitN (lfB dl V) 6)), some (.int (nI m)), some (.int (nI t)), some (.int (nI (j + 1)))] [] h1 → ∃ h2, Qt g h2 ∧ hAI h2 403 = hAI h 403 ∧ (∀ i, i < m → hAI h2 404 i = hAI h 404 i) ∧ rdM s B (hFI h2 1273 348) (hFI h2 1274 348) (hAI h2 405) ∧ am_C PG (d + (r + 1) + 1) 249 [.ref 348, .int (nI at_), .int (bitN (lfB dl V) 6), .int (nI m), .int (nI t)] h = am_R PG (d + r + 1 + 1) 249 65 [some (.ref 348), some (.int (nI at_)), some (.int (bitN (lfB dl V) 6)), some (.int (nI m)), some (.int (nI t)), some (.int (nI (j + 1)))] [] h2 := fun z1 z2 => ⟨h1, q1, a1, a2, z1, a5.trans z2⟩
        cases hlf : lfB dl V j with
        | false =>
          rw [hlf, if_neg (by decide)] at hbit
          have hb1 : ((bitN (lfB dl V) 6 >>> (nI j &&& 31)) &&& 1 = 0) = True := eq_true hbit
          have hno : dl j = none ∨ V j = true := by
            unfold lfB at hlf
            rw [decide_eq_true (show j < 5 by omega), Bool.true_and] at hlf
            cases hdl1 : dl j with
            | none => exact Or.inl rfl
            | some k =>
              rw [hdl1] at hlf
              cases hV : V j with
              | true => exact Or.inr rfl
              | false => rw [hV] at hlf; cases hlf
          rw [rdP_no (by
            rcases hno with z | z
            · exact Or.inl z
            · exact Or.inr (Or.inl z))]
          refine skip a4 ?_
          rw [q_X12_rounds_65]
          simp only [am_kd, m0, f1210, k350, n350, f1247, k385, n385, f1270, k403, n403, f1271, k404, n404, if_true, bR_s, e0, nI_cl0, w0, e7, hb1, nI_1]
        | true =>
          rw [hlf, if_pos rfl] at hbit
          have hb1 : ((bitN (lfB dl V) 6 >>> (nI j &&& 31)) &&& 1 = 0) = False := by rw [hbit]; exact eq_false (by decide)
          have hyes : ∃ k, dl j = some k ∧ V j = false := by
            unfold lfB at hlf
            rw [decide_eq_true (show j < 5 by omega), Bool.true_and] at hlf
            cases hdl1 : dl j with
            | none => rw [hdl1] at hlf; cases hlf
            | some k =>
              rw [hdl1] at hlf
              cases hV : V j with
              | true => rw [hV] at hlf; cases hlf
              | false => exact ⟨k, rfl, rfl⟩
          obtain ⟨k, hdl1, hV⟩ := hyes
          rw [hdl1] at hl1
          have hl1 : hAI h1 403 j = nI k := hl1
          have hk := hlb k hdl1
          cases hx : dm at_ j with
          | none =>
            rw [hx] at w385
            have w385 : hAI h1 385 (5 * at_ + j) = 100000 := w385
            have d3 : (nI k < nI t + (100000 : Int32)) = True := eq_true (by rw [n100k, nI_add]; exact nI_lt (by omega) (by omega))
            rw [rdP_no (Or.inr (Or.inr (Or.inl hx)))]
            refine skip a4 ?_
            rw [q_X12_rounds_65]
            simp only [am_kd, m0, f1210, k350, n350, f1247, k385, n385, f1270, k403, n403, f1271, k404, n404, if_true, if_false, bR_s, e0, nI_cl0, w0, e7, hb1, m5, i5, t5, w385, ej, tj, hl1, d3, nI_1]
          | some x =>
            rw [hx] at w385
            have w385 : hAI h1 385 (5 * at_ + j) = nI x := w385
            have hxb := hdb x hx
            have ha : nI t + nI x = nI (t + x) := nI_add _ _
            by_cases c1 : t + x ≤ k
            · have d3 : (nI k < nI (t + x)) = False := eq_false (nI_nlt c1 (by omega))
              rw [rdP_yes hdl1 hx hV c1]
              have q2 : Qt g (sEI h1 404 m (nI j)) := q1.eih _ _ _ (by omega)
              have w3 : hAI (sEI h1 404 m (nI j)) 403 = hAI h1 403 := sEI_ne _ _ _ (by decide)
              have w5 : hAI (sEI h1 404 m (nI j)) 405 = hAI h1 405 := sEI_ne _ _ _ (by decide)
              have w6 : hAI (sEI h1 404 m (nI j)) 385 = hAI h1 385 := sEI_ne _ _ _ (by decide)
              have w4 : hAI (sEI h1 404 m (nI j)) 404 = upd (hAI h1 404) m (nI j) := sEI_at _ _ _ _
              have hVe : (fun k => !decide (k = j) && lfB dl V k) = lfB dl (fun k => decide (k = j) || V k) := by
                funext i
                unfold lfB
                by_cases z : i = j
                · subst z
                  rw [decide_eq_true rfl]
                  simp
                · simp [z]
              have hcn := cntB_rm (P := lfB dl V) (j := j) hlf 5 (by omega)
              rw [hVe] at hcn hbrm
              obtain ⟨h2, b1, b2, b3, b5, b6⟩ := ih d (fun k => decide (k = j) || V k) (updN O m j) (m + 1) j (t + x) B (sEI h1 404 m (nI j)) (by omega) (by omega) (by omega) (by omega) q2 (fun i hi => by rw [w3, a1]; exact h403 i hi) (fun i hi => by
                rw [w4]
                by_cases e : i = m
                · subst e
                  rw [pk_us, updN_s]
                · rw [pk_un e, updN_n _ _ e, a2 i (by omega)]
                  exact h404 i (by omega)) (by rw [w5]; exact a4)
              rw [← hbrm] at b6
              refine ⟨h2, b1, by rw [b2, w3, a1], fun i hi => ?_, b5, ?_⟩
              · rw [b3 i (by omega), w4, pk_un (by omega)]
                exact a2 i hi
              · rw [a5, q_X12_rounds_65]
                simp only [am_kd, m0, f1210, k350, n350, f1247, k385, n385, f1270, k403, n403, f1271, k404, n404, if_true, if_false, bR_s, e0, nI_cl0, w0, e7, hb1, m5, i5, t5, w385, w6, ej, tj, em, tm, hl1, ha, d3, am_let_e, rd_hK_sEI, rd_hFR_sEI, rd_hLN_sEI, b6, bV_s, nI_1]
            · have d3 : (nI k < nI (t + x)) = True := eq_true (nI_lt (by omega) (by omega))
              rw [rdP_no (Or.inr (Or.inr (Or.inr ⟨k, x, hdl1, hx, by omega⟩)))]
              refine skip a4 ?_
              rw [q_X12_rounds_65]
              simp only [am_kd, m0, f1210, k350, n350, f1247, k385, n385, f1270, k403, n403, f1271, k404, n404, if_true, if_false, bR_s, e0, nI_cl0, w0, e7, hb1, m5, i5, t5, w385, ej, tj, hl1, ha, d3, nI_1]
    obtain ⟨h2, q2, a1, a2, a4, a5⟩ := lp np (Nat.le_refl _)
    have hmm := q2.msh hm
    have m0 := hmm.1
    have f1210 : hFR _ 1210 348 = some 350 := (hmm.2 1 (by decide)).1
    have k350 : hK _ 350 = 50 := (hmm.2 1 (by decide)).2.1
    have n350 : hLN _ 350 = 10 := (hmm.2 1 (by decide)).2.2
    have w0 : hAI h2 350 0 = nI np := by rw [q2.row (by unfold cRow; omega)]; exact h0
    have e7 : (nI np < nI np) = False := eq_false (nI_nlt (Nat.le_refl _) (by omega))
    refine ⟨h2, q2, a1, a2, a4, ?_⟩
    rw [a5, q_X12_rounds_65]
    simp only [am_kd, m0, f1210, k350, n350, if_true, if_false, bR_s, e0, nI_cl0, w0, e7]
