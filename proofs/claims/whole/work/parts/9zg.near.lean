/-! The ways: findShortest of the class. -/
/-- hours without a step more; 100000 where no way leads -/
def ds0 (S : Nat → Nat → Nat) (i j : Nat) : Nat := if i = j then 0 else if 0 < S i j then S i j else 100000
def fw (D : Nat → Nat → Nat) (o i j : Nat) : Nat := if D i o + D o j < D i j then D i o + D o j else D i j
def fwN (S : Nat → Nat → Nat) : Nat → Nat → Nat → Nat
  | 0 => ds0 S
  | m + 1 => fw (fwN S m) m
def cN (k : Nat) : Int32 := if k = 100000 then -1 else nI k
/-- what holds of the hours all along -/
def DI (np B : Nat) (D : Nat → Nat → Nat) : Prop := (∀ i, i < 5 → D i i = 0) ∧ (∀ i j, D i j = 100000 ∨ D i j ≤ B) ∧ ∀ i j, i ≠ j → (np ≤ i ∨ np ≤ j) → D i j = 100000
theorem DI.zero {np : Nat} {S : Nat → Nat → Nat} (h9 : ∀ i j, S i j ≤ 9) (h0 : ∀ i j, (np ≤ i ∨ np ≤ j) → S i j = 0) : DI np 9 (ds0 S) := by
  refine ⟨fun i _ => if_pos rfl, fun i j => ?_, fun i j hij h => ?_⟩
  · unfold ds0
    by_cases c : i = j
    · rw [if_pos c]; exact Or.inr (by omega)
    · rw [if_neg c]
      by_cases c2 : 0 < S i j
      · rw [if_pos c2]; exact Or.inr (h9 i j)
      · rw [if_neg c2]; exact Or.inl rfl
  · unfold ds0
    rw [if_neg hij, h0 i j h, if_neg (by omega)]
theorem DI.fw {np B : Nat} {D : Nat → Nat → Nat} (hB : B ≤ 1000) (h : DI np B D) (o : Nat) (ho : o < 5) : DI np (2 * B) (fw D o) := by
  obtain ⟨h1, h2, h3⟩ := h
  refine ⟨fun i hi => ?_, fun i j => ?_, fun i j hij hn => ?_⟩
  · unfold _root_.Jvm.Pilot.CThirstHoursLaw_law_r1378_f71561.fw
    rw [h1 i hi, if_neg (by omega)]
  · unfold _root_.Jvm.Pilot.CThirstHoursLaw_law_r1378_f71561.fw
    have a := h2 i o
    have b := h2 o j
    have c := h2 i j
    split <;> omega
  · unfold _root_.Jvm.Pilot.CThirstHoursLaw_law_r1378_f71561.fw
    rw [h3 i j hij hn]
    by_cases e1 : i = o
    · subst e1
      rw [h3 i j hij hn, if_neg (by omega)]
    · by_cases e2 : o = j
      · subst e2
        rw [h3 i o hij hn, if_neg (by omega)]
      · rcases hn with hn | hn
        · rw [h3 i o e1 (Or.inl hn), if_neg (by omega)]
        · rw [h3 o j e2 (Or.inr hn), if_neg (by omega)]
theorem DI.N {np : Nat} {S : Nat → Nat → Nat} (h9 : ∀ i j, S i j ≤ 9) (h0 : ∀ i j, (np ≤ i ∨ np ≤ j) → S i j = 0) : ∀ m, m ≤ 5 → DI np (9 * 2 ^ m) (fwN S m)
  | 0, _ => DI.zero h9 h0
  | m + 1, hm => by
    have ih := DI.N h9 h0 m (by omega)
    have e : 2 ^ m ≤ 2 ^ 5 := Nat.pow_le_pow_right (by decide) (by omega)
    have e2 : (2 : Nat) ^ 5 = 32 := by decide
    have k := ih.fw (by omega) m (by omega)
    rw [show 2 * (9 * 2 ^ m) = 9 * 2 ^ (m + 1) by rw [Nat.pow_succ]; omega] at k
    exact k
/-- places that are not told shorten nothing -/
theorem fwN_far {np : Nat} {S : Nat → Nat → Nat} (h9 : ∀ i j, S i j ≤ 9) (h0 : ∀ i j, (np ≤ i ∨ np ≤ j) → S i j = 0) {i j : Nat} (hi : i < np) (hj : j < np) : ∀ k, np + k ≤ 5 → fwN S (np + k) i j = fwN S np i j
  | 0, _ => rfl
  | k + 1, hk => by
    have ih := fwN_far h9 h0 hi hj k (by omega)
    obtain ⟨d1, d2, d3⟩ := DI.N h9 h0 (np + k) (by omega)
    have e : 2 ^ (np + k) ≤ 2 ^ 5 := Nat.pow_le_pow_right (by decide) (by omega)
    have e2 : (2 : Nat) ^ 5 = 32 := by decide
    show fw (fwN S (np + k)) (np + k) i j = _
    unfold fw
    rw [d3 i (np + k) (by omega) (Or.inr (by omega))]
    have := d2 i j
    rw [if_neg (by omega), ih]
theorem cN_n {k : Nat} (h : k ≠ 100000) : cN k = nI k := if_neg h
theorem cN_lt {k : Nat} (h : k = 100000 ∨ k ≤ 10000) : (cN k < 0) = (k = 100000) := by
  unfold cN
  apply propext
  by_cases c : k = 100000
  · rw [if_pos c]
    exact ⟨fun _ => c, fun _ => by decide⟩
  · rw [if_neg c]
    exact ⟨fun z => absurd z (nI_pos (by omega)), fun z => absurd z c⟩
/-- one entry made shorter -/
theorem cN_fw {there on known : Nat} (h1 : there = 100000 ∨ there ≤ 1000) (h2 : on = 100000 ∨ on ≤ 1000) (h3 : known = 100000 ∨ known ≤ 1000) (X : Option Res) (F : Int32 → Option Res) (hX : X = F (cN known)) : (if cN there < 0 then X else if cN on < 0 then X else if cN known < 0 then F (cN there + cN on) else if cN there + cN on < cN known then F (cN there + cN on) else X) = F (cN (if there + on < known then there + on else known)) := by
  have e1 := cN_lt (k := there) (by omega)
  have e2 := cN_lt (k := on) (by omega)
  have e3 := cN_lt (k := known) (by omega)
  by_cases c1 : there = 100000
  · rw [if_pos (by rw [e1]; exact c1), if_neg (by omega), hX]
  · rw [if_neg (by rw [e1]; exact c1)]
    by_cases c2 : on = 100000
    · rw [if_pos (by rw [e2]; exact c2), if_neg (by omega), hX]
    · rw [if_neg (by rw [e2]; exact c2), cN_n c1, cN_n c2, nI_add]
      by_cases c3 : known = 100000
      · rw [if_pos (by rw [e3]; exact c3), if_pos (by omega), cN_n (by omega)]
      · rw [if_neg (by rw [e3]; exact c3), cN_n c3]
        by_cases c4 : there + on < known
        · rw [if_pos (nI_lt c4 (by omega)), if_pos c4, cN_n (by omega)]
        · rw [if_neg (nI_nlt (by omega) (by omega)), if_neg c4, hX, cN_n c3]
/-- the class's post, as far as ways go -/
def WyS (h : AH) (a np : Nat) (S : Nat → Nat → Nat) : Prop := hK h a = 6 ∧ hFR h 506 a = some (a + 2) ∧ hFR h 507 a = some (a + 3) ∧ hK h (a + 2) = 50 ∧ hK h (a + 3) = 50 ∧ hLN h (a + 2) = 25 ∧ hLN h (a + 3) = 25 ∧ hFI h 501 a = nI np ∧ np ≤ 5 ∧ (∀ i j, i < np → j < np → hAI h (a + 2) (5 * i + j) = nI (S i j)) ∧ (∀ i j, S i j ≤ 9) ∧ ∀ i j, (np ≤ i ∨ np ≤ j) → S i j = 0
theorem ix5 {i j : Nat} (hi : i < 5) (hj : j < 5) : nI i * (5 : Int32) + nI j = nI (5 * i + j) ∧ (∀ x, am_in (nI (5 * i + j)) 25 x = x) ∧ Int32.toNatClampNeg (nI (5 * i + j)) = 5 * i + j := by
  refine ⟨?_, am_inN (by omega) (by decide), nI_clamp (by omega)⟩
  rw [show (5 : Int32) = nI 5 from rfl, pk_mul, nI_add, Nat.mul_comm]
theorem c_step5 {d a np : Nat} {h : AH} {S : Nat → Nat → Nat} (w : WyS h a np S) (f : Nat → Int32) {i j : Nat} (hi : i < np) (hj : j < np) : am_C PG (d + 1) 52 [.ref a, .int (nI i), .int (nI j)] (sAI h (a + 3) f) = some (some (.int (nI (S i j))), sAI h (a + 3) f) := by
  obtain ⟨w1, w2, w3, w4, w5, w6, w7, w8, w9, w10, w11, w12⟩ := w
  obtain ⟨x1, x2, x3⟩ := ix5 (i := i) (j := j) (by omega) (by omega)
  have y1 : hK (sAI h (a + 3) f) a = 6 := by rw [rd_hK_sAI]; exact w1
  have y2 : hFR (sAI h (a + 3) f) 506 a = some (a + 2) := by rw [rd_hFR_sAI]; exact w2
  have y4 : hK (sAI h (a + 3) f) (a + 2) = 50 := by rw [rd_hK_sAI]; exact w4
  have y6 : hLN (sAI h (a + 3) f) (a + 2) = 25 := by rw [rd_hLN_sAI]; exact w6
  have y7 : hAI (sAI h (a + 3) f) (a + 2) (5 * i + j) = nI (S i j) := by rw [sAI_ne _ _ (by omega)]; exact w10 i j hi hj
  rw [q_X5_step, am_kd_t y1, y2, bR_s, am_kd_t y4, y6, x1, x2, x3, y7]
theorem c_short5 {d a np : Nat} {h : AH} {S : Nat → Nat → Nat} (w : WyS h a np S) (f : Nat → Int32) {i j : Nat} (hi : i < np) (hj : j < np) : am_C PG (d + 1) 53 [.ref a, .int (nI i), .int (nI j)] (sAI h (a + 3) f) = some (some (.int (f (5 * i + j))), sAI h (a + 3) f) := by
  obtain ⟨w1, w2, w3, w4, w5, w6, w7, w8, w9, w10, w11, w12⟩ := w
  obtain ⟨x1, x2, x3⟩ := ix5 (i := i) (j := j) (by omega) (by omega)
  have y1 : hK (sAI h (a + 3) f) a = 6 := by rw [rd_hK_sAI]; exact w1
  have y2 : hFR (sAI h (a + 3) f) 507 a = some (a + 3) := by rw [rd_hFR_sAI]; exact w3
  have y4 : hK (sAI h (a + 3) f) (a + 3) = 50 := by rw [rd_hK_sAI]; exact w5
  have y6 : hLN (sAI h (a + 3) f) (a + 3) = 25 := by rw [rd_hLN_sAI]; exact w7
  rw [q_X5_shortest, am_kd_t y1, y2, bR_s, am_kd_t y4, y6, x1, x2, x3, sAI_at]
/-- rows written: from the first lap -/
theorem r_near12 {d a np : Nat} {h : AH} {S : Nat → Nat → Nat} (w : WyS h a np S) {i : Nat} (hi : i < np) : ∀ k j, j + k = np → ∀ f : Nat → Int32, ∃ f', am_R PG (d + 2) 54 12 [some (.ref a), some (.int (nI i)), some (.int (nI j)), none] [] (sAI h (a + 3) f) = am_R PG (d + 2) 54 2 [some (.ref a), some (.int (nI (i + 1))), none, none] [] (sAI h (a + 3) f') ∧ (∀ t, j ≤ t → t < np → f' (5 * i + t) = cN (ds0 S i t)) ∧ ∀ x, (x < 5 * i + j ∨ 5 * i + 5 ≤ x) → f' x = f x
  | 0, j, hj, f => by
    have w1 := w.1
    have w8 := w.2.2.2.2.2.2.2.1
    have y1 : hK (sAI h (a + 3) f) a = 6 := by rw [rd_hK_sAI]; exact w1
    have y8 : hFI (sAI h (a + 3) f) 501 a = nI np := by rw [rd_hFI_sAI]; exact w8
    have np5 := w.2.2.2.2.2.2.2.2.1
    refine ⟨f, ?_, fun t h1 h2 => by omega, fun _ _ => rfl⟩
    rw [q_X5_findShortest_12, am_kd_t y1, y8, if_neg (nI_nlt (by omega) (by omega)), nI_1]
  | k + 1, j, hj, f => by
    have np5 := w.2.2.2.2.2.2.2.2.1
    have ks := c_step5 (d := d) w f hi (show j < np by omega)
    obtain ⟨w1, w2, w3, w4, w5, w6, w7, w8, w9, w10, w11, w12⟩ := w
    have w : WyS h a np S := ⟨w1, w2, w3, w4, w5, w6, w7, w8, w9, w10, w11, w12⟩
    have s9 := w11 i j
    obtain ⟨x1, x2, x3⟩ := ix5 (i := i) (j := j) (by omega) (by omega)
    have y1 : hK (sAI h (a + 3) f) a = 6 := by rw [rd_hK_sAI]; exact w1
    have y8 : hFI (sAI h (a + 3) f) 501 a = nI np := by rw [rd_hFI_sAI]; exact w8
    have y3 : hFR (sAI h (a + 3) f) 507 a = some (a + 3) := by rw [rd_hFR_sAI]; exact w3
    have y5 : hK (sAI h (a + 3) f) (a + 3) = 50 := by rw [rd_hK_sAI]; exact w5
    have y7 : hLN (sAI h (a + 3) f) (a + 3) = 25 := by rw [rd_hLN_sAI]; exact w7
    have lt : nI j < nI np := nI_lt (by omega) (by omega)
    obtain ⟨f', g1, g2, g3⟩ := r_near12 (d := d) w hi k (j + 1) (by omega) (upd f (5 * i + j) (cN (ds0 S i j)))
    refine ⟨f', ?_, fun t h1 h2 => ?_, fun x hx => ?_⟩
    · rw [← g1, q_X5_findShortest_12, am_kd_t y1, y8, if_pos lt, am_kd_t y1, ks, bI_s, am_kd_t y1, y3, bR_s]
      unfold ds0
      by_cases c : i = j
      · rw [if_pos (show nI i = nI j by rw [c]), am_kd_t y5, x1, y7, x2, x3, am_let_e, sEI_sAI, nI_1, if_pos c, cN_n (by decide)]
        rfl
      · rw [if_neg (fun z => c ((nI_eq (by omega) (by omega)).1 z)), if_neg c]
        by_cases c2 : 0 < S i j
        · have gt : (0 : Int32) < nI (S i j) := nI_lt (a := 0) c2 (by omega)
          rw [if_pos gt, am_kd_t y5, x1, y7, x2, x3, am_let_e, sEI_sAI, nI_1, if_pos c2, cN_n (by omega)]
        · have e0 : S i j = 0 := by omega
          rw [if_neg (by rw [e0]; decide), am_kd_t y5, x1, y7, x2, x3, am_let_e, sEI_sAI, nI_1, if_neg c2]
          rfl
    · by_cases e : t = j
      · rw [e, g3 _ (by omega), pk_us]
      · exact g2 t (by omega) h2
    · rw [g3 x (by omega), pk_un (by omega)]
theorem r_near2 {d a np : Nat} {h : AH} {S : Nat → Nat → Nat} (w : WyS h a np S) : ∀ k i, i + k = np → ∀ f : Nat → Int32, ∃ f', am_R PG (d + 2) 54 2 [some (.ref a), some (.int (nI i)), none, none] [] (sAI h (a + 3) f) = am_R PG (d + 2) 54 69 [some (.ref a), some (.int (nI 0)), none, none] [] (sAI h (a + 3) f') ∧ (∀ p t, i ≤ p → p < np → t < np → f' (5 * p + t) = cN (ds0 S p t)) ∧ ∀ x, x < 5 * i → f' x = f x
  | 0, i, hi, f => by
    have w1 := w.1
    have w8 := w.2.2.2.2.2.2.2.1
    have np5 := w.2.2.2.2.2.2.2.2.1
    have y1 : hK (sAI h (a + 3) f) a = 6 := by rw [rd_hK_sAI]; exact w1
    have y8 : hFI (sAI h (a + 3) f) 501 a = nI np := by rw [rd_hFI_sAI]; exact w8
    refine ⟨f, ?_, fun p t h1 h2 _ => by omega, fun _ _ => rfl⟩
    rw [q_X5_findShortest_2, am_kd_t y1, y8, if_neg (nI_nlt (by omega) (by omega)), nI_0]
  | k + 1, i, hi, f => by
    have w1 := w.1
    have w8 := w.2.2.2.2.2.2.2.1
    have np5 := w.2.2.2.2.2.2.2.2.1
    have y1 : hK (sAI h (a + 3) f) a = 6 := by rw [rd_hK_sAI]; exact w1
    have y8 : hFI (sAI h (a + 3) f) 501 a = nI np := by rw [rd_hFI_sAI]; exact w8
    obtain ⟨f1, g1, g2, g3⟩ := r_near12 (d := d) w (show i < np by omega) np 0 (by omega) f
    obtain ⟨f2, e1, e2, e3⟩ := r_near2 (d := d) w k (i + 1) (by omega) f1
    refine ⟨f2, ?_, fun p t h1 h2 h3 => ?_, fun x hx => ?_⟩
    · rw [← e1, ← g1, q_X5_findShortest_2, am_kd_t y1, y8, if_pos (nI_lt (by omega) (by omega)), nI_0]
    · by_cases c : p = i
      · rw [c, e3 _ (by omega), g2 t (by omega) h3]
      · exact e2 p t (by omega) h2 h3
    · rw [e3 x (by omega), g3 x (by omega)]
/-- a row made shorter over o -/
theorem r_short10 {d a np o i B : Nat} {h : AH} {S D : Nat → Nat → Nat} (w : WyS h a np S) (hD : DI np B D) (hB : B ≤ 1000) (ho : o < np) (hi : i < np) : ∀ k j, j + k = np → ∀ f : Nat → Int32, (∀ p t, p < np → t < np → f (5 * p + t) = cN (if (p < i ∨ (p = i ∧ t < j)) then fw D o p t else D p t)) → ∃ f', am_R PG (d + 2) 55 10 [some (.ref a), some (.int (nI i)), some (.int (nI o)), some (.int (cN (D i o))), some (.int (nI j)), none, none] [] (sAI h (a + 3) f) = some (none, sAI h (a + 3) f') ∧ ∀ p t, p < np → t < np → f' (5 * p + t) = cN (if p < i + 1 then fw D o p t else D p t)
  | 0, j, hj, f, hf => by
    have w1 := w.1
    have w8 := w.2.2.2.2.2.2.2.1
    have np5 := w.2.2.2.2.2.2.2.2.1
    have y1 : hK (sAI h (a + 3) f) a = 6 := by rw [rd_hK_sAI]; exact w1
    have y8 : hFI (sAI h (a + 3) f) 501 a = nI np := by rw [rd_hFI_sAI]; exact w8
    refine ⟨f, ?_, fun p t h1 h2 => ?_⟩
    · rw [q_X5_shortenOver_10, am_kd_t y1, y8, if_neg (nI_nlt (by omega) (by omega))]
    · rw [hf p t h1 h2]
      by_cases c : p < i + 1
      · rw [if_pos c, if_pos (by omega)]
      · rw [if_neg c, if_neg (by omega)]
  | k + 1, j, hj, f, hf => by
    have np5 := w.2.2.2.2.2.2.2.2.1
    have k1 := c_short5 (d := d) w f ho (show j < np by omega)
    have k2 := c_short5 (d := d) w f hi (show j < np by omega)
    obtain ⟨w1, w2, w3, w4, w5, w6, w7, w8, w9, w10, w11, w12⟩ := w
    have w : WyS h a np S := ⟨w1, w2, w3, w4, w5, w6, w7, w8, w9, w10, w11, w12⟩
    obtain ⟨x1, x2, x3⟩ := ix5 (i := i) (j := j) (by omega) (by omega)
    have y1 : hK (sAI h (a + 3) f) a = 6 := by rw [rd_hK_sAI]; exact w1
    have y8 : hFI (sAI h (a + 3) f) 501 a = nI np := by rw [rd_hFI_sAI]; exact w8
    have y3 : hFR (sAI h (a + 3) f) 507 a = some (a + 3) := by rw [rd_hFR_sAI]; exact w3
    have y5 : hK (sAI h (a + 3) f) (a + 3) = 50 := by rw [rd_hK_sAI]; exact w5
    have y7 : hLN (sAI h (a + 3) f) (a + 3) = 25 := by rw [rd_hLN_sAI]; exact w7
    have lt : nI j < nI np := nI_lt (by omega) (by omega)
    obtain ⟨d1, d2, d3⟩ := hD
    -- the row over o is as it was
    have eo : f (5 * o + j) = cN (D o j) := by
      rw [hf o j ho (by omega)]
      by_cases c : o < i ∨ (o = i ∧ j < j)
      · rw [if_pos c]
        unfold fw
        rw [d1 o (by omega), Nat.zero_add, if_neg (by omega)]
      · rw [if_neg c]
    have ei : f (5 * i + j) = cN (D i j) := by
      rw [hf i j hi (by omega), if_neg (by omega)]
    rw [eo] at k1
    rw [ei] at k2
    have hf' : ∀ p t, p < np → t < np → upd f (5 * i + j) (cN (fw D o i j)) (5 * p + t) = cN (if (p < i ∨ (p = i ∧ t < j + 1)) then fw D o p t else D p t) := fun p t h1 h2 => by
      by_cases c : p = i ∧ t = j
      · obtain ⟨rfl, rfl⟩ := c
        rw [pk_us, if_pos (by omega)]
      · rw [pk_un (by omega), hf p t h1 h2]
        by_cases c2 : p < i ∨ (p = i ∧ t < j)
        · rw [if_pos c2, if_pos (by omega)]
        · rw [if_neg c2, if_neg (by omega)]
    obtain ⟨f', g1, g2⟩ := r_short10 (d := d) w ⟨d1, d2, d3⟩ hB ho hi k (j + 1) (by omega) _ hf'
    refine ⟨f', ?_, g2⟩
    have cf := cN_fw (there := D i o) (on := D o j) (known := D i j) (by have := d2 i o; omega) (by have := d2 o j; omega) (by have := d2 i j; omega) (am_R PG (d + 2) 55 10 [some (.ref a), some (.int (nI i)), some (.int (nI o)), some (.int (cN (D i o))), some (.int (nI (j + 1))), none, none] [] (sAI h (a + 3) f)) (fun v => am_R PG (d + 2) 55 10 [some (.ref a), some (.int (nI i)), some (.int (nI o)), some (.int (cN (D i o))), some (.int (nI (j + 1))), none, none] [] (sAI h (a + 3) (upd f (5 * i + j) v))) (by rw [← ei, upd_self])
    rw [← g1]
    refine Eq.trans ?_ cf
    rw [q_X5_shortenOver_10]
    simp only [am_kd, y1, y8, eq_true lt, if_true, k1, k2, bI_s, y3, bR_s, y5, x1, y7, x2, x3, am_let_e, sEI_sAI, nI_1]
theorem c_shorten {d a np o i B : Nat} {h : AH} {S D : Nat → Nat → Nat} (w : WyS h a np S) (hD : DI np B D) (hB : B ≤ 1000) (ho : o < np) (hi : i < np) (f : Nat → Int32) (hf : ∀ p t, p < np → t < np → f (5 * p + t) = cN (if p < i then fw D o p t else D p t)) : ∃ f', am_C PG (d + 2) 55 [.ref a, .int (nI i), .int (nI o)] (sAI h (a + 3) f) = some (none, sAI h (a + 3) f') ∧ ∀ p t, p < np → t < np → f' (5 * p + t) = cN (if p < i + 1 then fw D o p t else D p t) := by
  have k1 := c_short5 (d := d) w f hi ho
  have y1 : hK (sAI h (a + 3) f) a = 6 := by rw [rd_hK_sAI]; exact w.1
  rw [hf i o hi ho, if_neg (by omega)] at k1
  obtain ⟨f', g1, g2⟩ := r_short10 (d := d) w hD hB ho hi np 0 (by omega) f (fun p t h1 h2 => by
    rw [hf p t h1 h2]
    by_cases c : p < i
    · rw [if_pos c, if_pos (by omega)]
    · rw [if_neg c, if_neg (by omega)])
  refine ⟨f', ?_, g2⟩
  rw [q_X5_shortenOver, am_kd_t y1, k1, bI_s, ← g1, nI_0]
theorem r_near79 {d a np o B : Nat} {h : AH} {S D : Nat → Nat → Nat} (w : WyS h a np S) (hD : DI np B D) (hB : B ≤ 1000) (ho : o < np) : ∀ k i, i + k = np → ∀ f : Nat → Int32, (∀ p t, p < np → t < np → f (5 * p + t) = cN (if p < i then fw D o p t else D p t)) → ∃ f', am_R PG (d + 3) 54 79 [some (.ref a), some (.int (nI o)), some (.int (nI i)), none] [] (sAI h (a + 3) f) = am_R PG (d + 3) 54 69 [some (.ref a), some (.int (nI (o + 1))), none, none] [] (sAI h (a + 3) f') ∧ ∀ p t, p < np → t < np → f' (5 * p + t) = cN (fw D o p t)
  | 0, i, hi, f, hf => by
    have w8 := w.2.2.2.2.2.2.2.1
    have np5 := w.2.2.2.2.2.2.2.2.1
    have y1 : hK (sAI h (a + 3) f) a = 6 := by rw [rd_hK_sAI]; exact w.1
    have y8 : hFI (sAI h (a + 3) f) 501 a = nI np := by rw [rd_hFI_sAI]; exact w8
    refine ⟨f, ?_, fun p t h1 h2 => by rw [hf p t h1 h2, if_pos (by omega)]⟩
    rw [q_X5_findShortest_79, am_kd_t y1, y8, if_neg (nI_nlt (by omega) (by omega)), nI_1]
  | k + 1, i, hi, f, hf => by
    have w8 := w.2.2.2.2.2.2.2.1
    have np5 := w.2.2.2.2.2.2.2.2.1
    have y1 : hK (sAI h (a + 3) f) a = 6 := by rw [rd_hK_sAI]; exact w.1
    have y8 : hFI (sAI h (a + 3) f) 501 a = nI np := by rw [rd_hFI_sAI]; exact w8
    obtain ⟨f1, g1, g2⟩ := c_shorten (d := d) w hD hB ho (show i < np by omega) f hf
    obtain ⟨f2, e1, e2⟩ := r_near79 (d := d) w hD hB ho k (i + 1) (by omega) f1 g2
    refine ⟨f2, ?_, e2⟩
    rw [← e1, q_X5_findShortest_79, am_kd_t y1, y8, if_pos (nI_lt (by omega) (by omega)), am_kd_t y1, g1, bV_s, nI_1]
theorem r_near69 {d a np : Nat} {h : AH} {S : Nat → Nat → Nat} (w : WyS h a np S) : ∀ k o, o + k = np → ∀ f : Nat → Int32, (∀ p t, p < np → t < np → f (5 * p + t) = cN (fwN S o p t)) → ∃ f', am_R PG (d + 3) 54 69 [some (.ref a), some (.int (nI o)), none, none] [] (sAI h (a + 3) f) = some (none, sAI h (a + 3) f') ∧ ∀ p t, p < np → t < np → f' (5 * p + t) = cN (fwN S np p t)
  | 0, o, ho, f, hf => by
    have w8 := w.2.2.2.2.2.2.2.1
    have np5 := w.2.2.2.2.2.2.2.2.1
    have y1 : hK (sAI h (a + 3) f) a = 6 := by rw [rd_hK_sAI]; exact w.1
    have y8 : hFI (sAI h (a + 3) f) 501 a = nI np := by rw [rd_hFI_sAI]; exact w8
    have eo : o = np := by omega
    refine ⟨f, ?_, fun p t h1 h2 => by rw [← eo]; exact hf p t h1 h2⟩
    rw [q_X5_findShortest_69, am_kd_t y1, y8, if_neg (nI_nlt (by omega) (by omega))]
  | k + 1, o, ho, f, hf => by
    have w8 := w.2.2.2.2.2.2.2.1
    have np5 := w.2.2.2.2.2.2.2.2.1
    have y1 : hK (sAI h (a + 3) f) a = 6 := by rw [rd_hK_sAI]; exact w.1
    have y8 : hFI (sAI h (a + 3) f) 501 a = nI np := by rw [rd_hFI_sAI]; exact w8
    have e : 2 ^ o ≤ 2 ^ 5 := Nat.pow_le_pow_right (by decide) (by omega)
    have e2 : (2 : Nat) ^ 5 = 32 := by decide
    obtain ⟨f1, g1, g2⟩ := r_near79 (d := d) w (DI.N w.2.2.2.2.2.2.2.2.2.2.1 w.2.2.2.2.2.2.2.2.2.2.2 o (by omega)) (by omega) (show o < np by omega) np 0 (by omega) f (fun p t h1 h2 => by rw [hf p t h1 h2, if_neg (by omega)])
    obtain ⟨f2, e1, e2⟩ := r_near69 (d := d) w k (o + 1) (by omega) f1 g2
    refine ⟨f2, ?_, e2⟩
    rw [← e1, ← g1, q_X5_findShortest_69, am_kd_t y1, y8, if_pos (nI_lt (by omega) (by omega)), nI_0]
/-- findShortest whole -/
theorem c_near {d a np : Nat} {h : AH} {S : Nat → Nat → Nat} (w : WyS h a np S) : ∃ f, am_C PG (d + 3) 54 [.ref a] h = some (none, sAI h (a + 3) f) ∧ ∀ p t, p < np → t < np → f (5 * p + t) = cN (fwN S np p t) := by
  obtain ⟨f1, g1, g2, -⟩ := r_near2 (d := d + 1) w np 0 (by omega) (hAI h (a + 3))
  obtain ⟨f2, e1, e2⟩ := r_near69 (d := d) w np 0 (by omega) f1 (fun p t h1 h2 => g2 p t (Nat.zero_le _) h1 h2)
  refine ⟨f2, ?_, e2⟩
  rw [sAI_self] at g1
  rw [q_X5_findShortest, ← e1, ← g1, nI_0]
