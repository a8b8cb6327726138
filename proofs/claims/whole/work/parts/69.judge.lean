/-! The link between a Post of the class and the reference's post; days judged. -/
def Lk (g g2 : AH) (p np nc ne nw len n : Nat) (W : Int32 → Int32 → Int32 → Int32 → Int32) : Prop := PoC g p np nc ne nw ∧ PoL g p len W ∧ PoT g p nw ∧ MSh g2 ∧ MoL g2 n W ∧ MoC g2 nc ne nw ∧ hAI g2 350 0 = nI np ∧ PRow (rowsP g p) (hAI g2) np nc ne nw ∧ StepR (rowsP g p) (hAI g2)
theorem rowsP_scr (g : AH) (p : Nat) (f : Nat → Int32) {k : Nat} (h : k ≠ 16) : rowsP (sAI g (p + 16) f) p k = rowsP g p k := sAI_ne _ _ (by omega)
theorem Lk.scr {g g2 : AH} {p np nc ne nw len n : Nat} {W : Int32 → Int32 → Int32 → Int32 → Int32} {f : Nat → Int32} (h : Lk g g2 p np nc ne nw len n W) : Lk (sAI g (p + 16) f) g2 p np nc ne nw len n W := by
  obtain ⟨h1, h2, h3, h4, h5, h6, h7, h8, h9⟩ := h
  have e := fun k (hk : k ≠ 16) => rowsP_scr g p f hk
  refine ⟨h1.scr, h2.scr (by omega), ?_, h4, h5, h6, h7, ?_, ?_⟩
  · unfold PoT at h3 ⊢
    rw [sAI_ne _ _ (by omega)]
    exact h3
  · unfold PRow at h8 ⊢
    rw [e 4 (by decide), e 5 (by decide), e 6 (by decide), e 7 (by decide), e 8 (by decide), e 9 (by decide), e 10 (by decide), e 11 (by decide), e 12 (by decide), e 13 (by decide)]
    exact h8
  · unfold StepR at h9 ⊢
    rw [e 2 (by decide)]
    exact h9
theorem Lk.ref {g g2 g3 : AH} {p np nc ne nw len n : Nat} {W : Int32 → Int32 → Int32 → Int32 → Int32} (e1 : hK g3 = hK g2) (e2 : hFR g3 = hFR g2) (e3 : hLN g3 = hLN g2) (e4 : ∀ a, a < 375 → hAI g3 a = hAI g2 a) (h : Lk g g2 p np nc ne nw len n W) : Lk g g3 p np nc ne nw len n W := by
  obtain ⟨h1, h2, h3, h4, h5, h6, h7, h8, h9⟩ := h
  refine ⟨h1, h2, h3, h4.to e1 (fun k => by rw [e2]) e3, h5.to (e4 _ (by decide)) (e4 _ (by decide)) (e4 _ (by decide)), ?_, by rw [e4 _ (by decide)]; exact h7, ?_, ?_⟩
  · unfold MoC at h6 ⊢
    rw [e4 _ (by decide)]
    exact h6
  · unfold PRow at h8 ⊢
    rw [e4 357 (by decide), e4 358 (by decide), e4 359 (by decide), e4 361 (by decide), e4 363 (by decide), e4 365 (by decide), e4 366 (by decide), e4 367 (by decide), e4 368 (by decide), e4 369 (by decide)]
    exact h8
  · unfold StepR at h9 ⊢
    rw [e4 356 (by decide)]
    exact h9
theorem SR_M {M M' : Nat → Nat → Int32} {np nc ne nw hr : Nat} {R : SV} {Q : MQv} (e1 : M' 359 = M 359) (e2 : M' 368 = M 368) (h : SR M np nc ne nw hr R Q) : SR M' np nc ne nw hr R Q := by
  unfold SR pdw at h ⊢
  rw [e1, e2]
  exact h
theorem FQ_M {M M' : Nat → Nat → Int32} {np nc ne : Nat} {f : Nat → Int32} (e1 : M' 355 = M 355) (e2 : M' 360 = M 360) (e3 : M' 362 = M 362) (e4 : M' 364 = M 364) : FQ M' np nc ne f = FQ M np nc ne f := by
  unfold FQ
  rw [e1, e2, e3, e4]
theorem SR_paid {P M : Nat → Nat → Int32} {np nc ne nw hr : Nat} {R : SV} {Q : MQv} (hP : PRow P M np nc ne nw) (h : SR M np nc ne nw hr R Q) : sumN (fun w => if dn R w = 1 then P 12 w else 0) nw = Q.2 42 := by
  obtain ⟨s1, s2, s3, s4, s5, s6, s7, s8⟩ := h
  rw [s7]
  apply sumN_congr
  intro w hw
  unfold pdw
  rw [s6 w hw, (hP.2.2.1 w hw).2.2.2]
/-- the loop of judge and judged, from head to head -/
theorem pr_judge0 {d d2 p np nc ne nw len n m : Nat} {W : Int32 → Int32 → Int32 → Int32 → Int32} {g g2 : AH} {a : Int32} {T0 : SV} {Q0 : MQv} {f0 : Nat → Int32} {ρ : Nat → Nat → Int32} {w : M4} (L : Lk g g2 p np nc ne nw len n W) (ha : AhSh g 93 94) (hda : DaSh g 71) (hpb : p ≤ 30) (hc : hFI g 200 71 = nI m) (hc2 : hAI g2 386 0 = nI m) (hm40 : m ≤ 40)
    (hL : ∀ k, k < m → LR np nc ne (hAI g 72 k) (hAI g 73 k) (hAI g 74 k) (hAI g 75 k) (hAI g2 387 k) (hAI g2 388 k) (hAI g2 389 k) (hAI g2 390 k)) (hS : SR (hAI g2) np nc ne nw 0 T0 Q0) : ∀ i, i ≤ m →
    ∃ can bad f T Q τ y hr, hr ≤ 24 * i ∧ SR (hAI g2) np nc ne nw hr T Q ∧
      am_R PG (d + 7) 1 20 [some (.ref 93), some (.ref p), some (.ref 71), some (.int a), some (.int (-1)), some (.int (-1)), some (.int 0)] [] (putS (sAI g (p + 16) f0) 94 T0) = am_R PG (d + 7) 1 20 [some (.ref 93), some (.ref p), some (.ref 71), some (.int a), some (.int can), some (.int bad), some (.int (nI i))] [] (putS (sAI g (p + 16) f) 94 T) ∧
      am_R PG (d2 + 10) 237 41 [some (.ref 348), some (.int a), some (.int (-1)), some (.int (-1)), some (.int 0)] [] (HM g2 (enc Q0) ρ w) = am_R PG (d2 + 10) 237 41 [some (.ref 348), some (.int a), some (.int can), some (.int bad), some (.int (nI i))] [] (HM g2 (enc Q) τ y) := by
  intro i
  induction i with
  | zero => intro _; exact ⟨-1, -1, f0, T0, Q0, ρ, w, 0, by omega, hS, rfl, rfl⟩
  | succ i ih =>
    intro hi
    obtain ⟨can, bad, f, T, Q, τ, y, hr, h1, h2, h3, h4⟩ := ih (by omega)
    obtain ⟨l1, l2, l3, l4, l5, l6, l7, l8, l9⟩ := L.scr (f := f)
    obtain ⟨a1, a2, a3⟩ := ha
    have r : ∀ j, 71 < j → hAI (sAI g (p + 16) f) j = hAI g j := fun j hj => sAI_ne _ _ (by omega)
    have hLi := hL i (by omega)
    obtain ⟨ans, f2, T2, Q2, τ2, y2, hr2, b1, b2, b3, b4, k1, k2⟩ := c_line (d := d) (d2 := d2) (t := 94) (da := 71) (k := i) (R := T) (ρ := τ) (w := y) l1 l2 l3 (a3.to rfl rfl rfl) (Or.inr (by omega)) (hda.to rfl rfl rfl) (by decide) l4 l5 l6 l8 l9 h2 (by omega) (by omega) (by rw [r _ (by decide), r _ (by decide), r _ (by decide), r _ (by decide)]; exact hLi)
    rw [sAI_sAI] at k1
    have kb := c_bad (d := d + 5) (a := 94) (h := putS (sAI g (p + 16) f2) 94 T2) (PoC.put (L.scr (f := f2)).1) (a3.to rfl rfl rfl)
    rw [show (94 + 8 : Nat) = 94 + 8 from rfl, pS_8] at kb
    have kw := c_wrongs (d := d2 + 8) (Q := Q2) (ρ := τ2) (w := y2) l4
    have sb := SR_bad (l6.2.2.2.2.2) b3
    have p0 := L.1.1.1.1
    have a0 := hda.1
    have hmm := l4
    have m0 := hmm.1
    have f1248 : hFR _ 1248 348 = some 386 := (hmm.2 37 (by decide)).1
    have k386 : hK _ 386 = 50 := (hmm.2 37 (by decide)).2.1
    have n386 : hLN _ 386 = 6 := (hmm.2 37 (by decide)).2.2
    have e0 : ∀ x, am_in (0 : Int32) 6 x = x := am_inN (i := 0) (by decide) (by decide)
    have e5 : (nI i < nI m) = True := eq_true (nI_lt (by omega) (by omega))
    have y0 : hFI (putS (sAI g (p + 16) f) 94 T) 200 71 = nI m := by rw [pS_fi _ _ (Or.inl (by decide)), rd_hFI_sAI, hc]
    have o0 : hAI (HM g2 (enc Q) τ y) 386 = hAI g2 386 := hm_o _ _ _ _ (by decide) (by decide)
    have z1 : ((1 : Int32) = 0) = False := eq_false (by decide)
    change am_C PG (d + 6) 72 [.ref p, .ref 94] (putS (sAI g (p + 16) f2) 94 T2) = some (some (.int (bitN (fun w => decide (dn T2 w = 2 ∨ dn T2 w = 3)) nw)), putS (sAI g (p + 16) f2) 94 T2) at kb
    generalize bitN (fun w => decide (dn T2 w = 2 ∨ dn T2 w = 3)) nw = B at kb sb
    generalize nI (xso (fun i => ¬ 1 < dn Q2.1 i) 6) = V at kw sb
    refine ⟨if ans = 0 ∧ can < 0 then nI i else can, if bad < 0 ∧ 0 < V then nI i else bad, f2, T2, Q2, τ2, y2, hr2, by omega, b3, ?_, ?_⟩
    · rw [h3, q_X0_judge_20]
      simp only [rd_hK_putS, rd_hFR_putS, rd_hLN_putS, rd_hFJ_putS, rd_hAJ_putS, rd_hAR_putS, rd_hNX_putS, rd_hK_sAI, rd_hFR_sAI, am_kd, a1, a2, a0, p0, if_true, y0, e5, bR_s, k1, bI_s, kb, nI_1]
      rcases b4 with b4 | b4
      · subst b4
        by_cases c1 : can < 0
        · by_cases c2 : bad < 0
          · by_cases c3 : 0 < V
            · have c4 : ¬ B = 0 := fun z => (sb.1 z) c3
              simp only [if_true, if_pos c1, if_pos c2, if_neg c4, true_and, if_pos (show bad < 0 ∧ 0 < V from ⟨c2, c3⟩)]
            · have c4 : B = 0 := sb.2 c3
              simp only [if_true, if_pos c1, if_pos c2, if_pos c4, true_and, if_neg (show ¬ (bad < 0 ∧ 0 < V) from fun z => c3 z.2)]
          · simp only [if_true, if_pos c1, if_neg c2, true_and, if_neg (show ¬ (bad < 0 ∧ 0 < V) from fun z => c2 z.1)]
        · by_cases c2 : bad < 0
          · by_cases c3 : 0 < V
            · have c4 : ¬ B = 0 := fun z => (sb.1 z) c3
              simp only [if_true, if_neg c1, if_pos c2, if_neg c4, true_and, if_pos (show bad < 0 ∧ 0 < V from ⟨c2, c3⟩)]
            · have c4 : B = 0 := sb.2 c3
              simp only [if_true, if_neg c1, if_pos c2, if_pos c4, true_and, if_neg (show ¬ (bad < 0 ∧ 0 < V) from fun z => c3 z.2)]
          · simp only [if_true, if_neg c1, if_neg c2, true_and, if_neg (show ¬ (bad < 0 ∧ 0 < V) from fun z => c2 z.1)]
      · subst b4
        have n1 : ¬ ((1 : Int32) = 0 ∧ can < 0) := fun z => absurd z.1 (by decide)
        by_cases c2 : bad < 0
        · by_cases c3 : 0 < V
          · have c4 : ¬ B = 0 := fun z => (sb.1 z) c3
            simp only [z1, if_false, if_pos c2, if_neg c4, if_neg n1, if_pos (show bad < 0 ∧ 0 < V from ⟨c2, c3⟩), false_and]
          · have c4 : B = 0 := sb.2 c3
            simp only [z1, if_false, if_pos c2, if_pos c4, if_neg n1, if_neg (show ¬ (bad < 0 ∧ 0 < V) from fun z => c3 z.2), false_and]
        · simp only [z1, if_false, if_neg c2, if_neg n1, if_neg (show ¬ (bad < 0 ∧ 0 < V) from fun z => c2 z.1), false_and]
    · rw [h4, q_X12_judged_41]
      simp only [hm_K, hm_R, hm_L, hm_at, hm_E, hm_5, hm_6, hm_7, hm_8, hm_s5, hm_s6, hm_s7, hm_s8, am_kd, m0, f1248, k386, n386, if_true, bR_s, e0, nI_cl0, o0, hc2, e5, k2, bI_s, kw, nI_1]
      rcases b4 with b4 | b4
      · subst b4
        by_cases c1 : can < 0
        · by_cases c3 : 0 < V
          · by_cases c2 : bad < 0
            · simp only [if_true, if_pos c1, if_pos c2, if_pos c3, true_and, if_pos (show bad < 0 ∧ 0 < V from ⟨c2, c3⟩)]
            · simp only [if_true, if_pos c1, if_neg c2, if_pos c3, true_and, if_neg (show ¬ (bad < 0 ∧ 0 < V) from fun z => c2 z.1)]
          · simp only [if_true, if_pos c1, if_neg c3, true_and, if_neg (show ¬ (bad < 0 ∧ 0 < V) from fun z => c3 z.2)]
        · by_cases c3 : 0 < V
          · by_cases c2 : bad < 0
            · simp only [if_true, if_neg c1, if_pos c2, if_pos c3, true_and, if_pos (show bad < 0 ∧ 0 < V from ⟨c2, c3⟩)]
            · simp only [if_true, if_neg c1, if_neg c2, if_pos c3, true_and, if_neg (show ¬ (bad < 0 ∧ 0 < V) from fun z => c2 z.1)]
          · simp only [if_true, if_neg c1, if_neg c3, true_and, if_neg (show ¬ (bad < 0 ∧ 0 < V) from fun z => c3 z.2)]
      · subst b4
        have n1 : ¬ ((1 : Int32) = 0 ∧ can < 0) := fun z => absurd z.1 (by decide)
        by_cases c3 : 0 < V
        · by_cases c2 : bad < 0
          · simp only [z1, if_false, if_pos c2, if_pos c3, if_neg n1, if_pos (show bad < 0 ∧ 0 < V from ⟨c2, c3⟩), false_and]
          · simp only [z1, if_false, if_neg c2, if_pos c3, if_neg n1, if_neg (show ¬ (bad < 0 ∧ 0 < V) from fun z => c2 z.1), false_and]
        · simp only [z1, if_false, if_neg c3, if_neg n1, if_neg (show ¬ (bad < 0 ∧ 0 < V) from fun z => c3 z.2), false_and]
