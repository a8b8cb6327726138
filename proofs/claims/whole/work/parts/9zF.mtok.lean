/-! The model's token. -/
/-- the model's tape: n signs -/
def Tq (h : AH) (n : Nat) (T : Nat → Nat) : Prop := MSh h ∧ n ≤ 1000 ∧ hFI h 1203 348 = nI n ∧ ∀ i, i < n → T i < 128 ∧ hAI h 349 i = nI (T i)
theorem Tq.to {h g : AH} {n : Nat} {T : Nat → Nat} (e1 : hK g = hK h) (e2 : hFR g = hFR h) (e3 : hLN g = hLN h) (e4 : hFI g 1203 348 = hFI h 1203 348) (e5 : hAI g = hAI h) (s : Tq h n T) : Tq g n T := by
  obtain ⟨s1, s2, s3, s4⟩ := s
  exact ⟨s1.to e1 (fun k => by rw [e2]) e3, s2, by rw [e4]; exact s3, fun i hi => by rw [e5]; exact s4 i hi⟩
theorem Tq.rw' {h : AH} {n : Nat} {T : Nat → Nat} (s : Tq h n T) : hK h 348 = 13 ∧ hFR h 1202 348 = some 349 ∧ hK h 349 = 50 ∧ hLN h 349 = 1000 := ⟨s.1.1, (s.1.2 0 (by decide)).1, (s.1.2 0 (by decide)).2.1, (s.1.2 0 (by decide)).2.2⟩
theorem c_signAt {d n i : Nat} {h : AH} {T : Nat → Nat} (hp : Tq h n T) (hi : i ≤ n) : am_C PG (d + 1) 165 [.ref 348, .int (nI i)] h = some (some (.int (if i < n then nI (T i) else 0)), h) := by
  obtain ⟨k1, f1, k2, n2⟩ := hp.rw'
  obtain ⟨-, hn, l1, hT⟩ := hp
  have ei : i < n → ∀ x, am_in (nI i) 1000 x = x := fun hh => am_inN (by omega) (by decide)
  have ti : Int32.toNatClampNeg (nI i) = i := nI_clamp (by omega)
  rw [q_X12_signAt, am_kd_t k1, l1]
  by_cases c : i < n
  · rw [if_pos (nI_lt c (by omega)), if_pos c, am_kd_t k1, f1, bR_s, am_kd_t k2, n2, ei c, ti, (hT i c).2]
  · rw [if_neg (nI_nlt (by omega) (by omega)), if_neg c]
/-- the number of a NUMBER, digit by digit, the model's way -/
def MH (h : AH) (j : Nat) (v : Int32) : AH := sFI (sFI h 1208 348 v) 1204 348 (nI j)
theorem MH_4 (h : AH) (j : Nat) (v w : Int32) : sFI (MH h j v) 1208 348 w = MH h j w := by
  unfold MH
  rw [sFI_comm _ _ _ (Or.inl (show (1204 : Nat) ≠ 1208 by decide)), sFI_sFI]
theorem MH_8 (h : AH) (j i : Nat) (v : Int32) : sFI (MH h j v) 1204 348 (nI i) = MH h i v := by
  unfold MH
  rw [sFI_sFI]
theorem MH_v (h : AH) (j : Nat) (v : Int32) : hFI (MH h j v) 1208 348 = v := by
  unfold MH
  rw [sFI_o _ _ (Or.inl (by decide)), sFI_at]
theorem MH_n (h : AH) (j : Nat) (v : Int32) : hFI (MH h j v) 1204 348 = nI j := sFI_at _ _ _ _
theorem MH_o (h : AH) (j : Nat) (v : Int32) {k a : Nat} (e : (k ≠ 1208 ∧ k ≠ 1204) ∨ a ≠ 348) : hFI (MH h j v) k a = hFI h k a := by
  unfold MH
  rw [sFI_o _ _ (by omega), sFI_o _ _ (by omega)]
/-- the number as the model has it: at most four digits count -/
def numM (T : Nat → Nat) (i m : Nat) : Int32 := numW T i (if m < 4 then m else 4)
theorem numM_s {T : Nat → Nat} {i j : Nat} (h : i ≤ j) : numM T i (j + 1 - i) = if j - i < 4 then numM T i (j - i) * 10 + nI (T j) - 48 else numM T i (j - i) := by
  unfold numM
  by_cases c : j - i < 4
  · rw [if_pos c, if_pos c]
    have e : (if j + 1 - i < 4 then j + 1 - i else 4) = (j - i) + 1 := by
      by_cases c2 : j + 1 - i < 4
      · rw [if_pos c2]; omega
      · rw [if_neg c2]; omega
    rw [e]
    show numW T i (j - i) * 10 + (nI (T (i + (j - i))) - 48) = _
    rw [show i + (j - i) = j by omega, Int32.sub_eq_add_neg, Int32.sub_eq_add_neg, Int32.add_assoc]
  · rw [if_neg c, if_neg c, if_neg (by omega)]
theorem c_mnum0 {d n i : Nat} {h : AH} {T : Nat → Nat} (hp : Tq h n T) (h3 : hFI h 1205 348 = nI i) : ∀ k j, j + k = n → i ≤ j → am_R PG (d + 2) 166 224 [some (.ref 348), none] [] (MH h j (numM T i (j - i))) = some (none, sFI (MH h (scn bDi T k j) (numM T i (scn bDi T k j - i))) 1206 348 (if 4 < scn bDi T k j - i then 4 else 2)) := by
  have tail : ∀ j, i ≤ j → j ≤ n → ∀ (v w : Int32), (v < 48 ∨ 57 < v) → am_C PG (d + 1) 165 [.ref 348, .int (nI j)] (MH h j w) = some (some (.int v), MH h j w) → am_R PG (d + 2) 166 224 [some (.ref 348), none] [] (MH h j w) = some (none, sFI (MH h j w) 1206 348 (if 4 < j - i then 4 else 2)) := fun j hij hjn v w hv ks => by
    have hn : n ≤ 1000 := hp.2.1
    have w1 : hK (MH h j w) 348 = 13 := hp.1.1
    have e3 : hFI (MH h j w) 1205 348 = nI i := (MH_o _ _ _ (Or.inl ⟨by decide, by decide⟩)).trans h3
    rw [q_X12_nextToken_224]
    simp only [am_kd, w1, if_true, MH_n, ks, bI_s, e3, nI_subN hij, am_let_e]
    by_cases c4 : 4 < j - i
    · have z : ((4 : Int32) < nI (j - i)) = True := eq_true (nI_lt c4 (by omega) : nI 4 < nI (j - i))
      simp only [z, if_true, if_pos c4]
      rcases hv with hv | hv
      · rw [if_pos hv]
      · by_cases c5 : v < 48
        · rw [if_pos c5]
        · rw [if_neg c5, if_pos hv]
    · have z : ((4 : Int32) < nI (j - i)) = False := eq_false (nI_nlt (by omega) (by omega) : ¬ nI 4 < nI (j - i))
      simp only [z, if_false, if_neg c4]
      rcases hv with hv | hv
      · rw [if_pos hv]
      · by_cases c5 : v < 48
        · rw [if_pos c5]
        · rw [if_neg c5, if_pos hv]
  intro k
  induction k with
  | zero =>
    intro j hj hij
    have hq : Tq (MH h j (numM T i (j - i))) n T := hp.to rfl rfl rfl (MH_o _ _ _ (Or.inl ⟨by decide, by decide⟩)) rfl
    have ks := c_signAt (d := d) (i := j) hq (by omega)
    rw [if_neg (by omega)] at ks
    exact tail j hij (by omega) 0 _ (Or.inl (by decide)) ks
  | succ k ih =>
    intro j hj hij
    have hq : Tq (MH h j (numM T i (j - i))) n T := hp.to rfl rfl rfl (MH_o _ _ _ (Or.inl ⟨by decide, by decide⟩)) rfl
    have ks := c_signAt (d := d) (i := j) hq (by omega)
    have t1 : T j < 128 := (hp.2.2.2 j (by omega)).1
    rw [if_pos (by omega)] at ks
    by_cases c : bDi (T j) = true
    · have cc : 48 ≤ T j ∧ T j ≤ 57 := of_decide_eq_true c
      have hn : n ≤ 1000 := hp.2.1
      have w1 : ∀ j v, hK (MH h j v) 348 = 13 := fun _ _ => hp.1.1
      have e3 : hFI (MH h j (numM T i (j - i))) 1205 348 = nI i := (MH_o _ _ _ (Or.inl ⟨by decide, by decide⟩)).trans h3
      have es : scn bDi T (k + 1) j = scn bDi T k (j + 1) := by
        show (if bDi (T j) then scn bDi T k (j + 1) else j) = _
        rw [if_pos c]
      have z1 : (nI (T j) < (48 : Int32)) = False := eq_false (nI_nlt (b := 48) (by omega) (by omega))
      have z2 : ((57 : Int32) < nI (T j)) = False := eq_false (nI_nlt (by omega) (by omega) : ¬ nI 57 < nI (T j))
      rw [es, ← ih (j + 1) (by omega) (by omega), numM_s hij, q_X12_nextToken_224]
      simp only [am_kd, w1, if_true, if_false, MH_n, ks, bI_s, e3, nI_subN hij, am_let_e, z1, z2, MH_v, MH_4, MH_8, nI_1]
      by_cases c4 : j - i < 4
      · have z : (nI (j - i) < (4 : Int32)) = True := eq_true (nI_lt (b := 4) c4 (by decide))
        simp only [z, if_true, if_pos c4]
      · have z : (nI (j - i) < (4 : Int32)) = False := eq_false (nI_nlt (b := 4) (by omega) (by omega))
        simp only [z, if_false, if_neg c4]
    · have es : scn bDi T (k + 1) j = j := by
        show (if bDi (T j) then scn bDi T k (j + 1) else j) = _
        rw [if_neg c]
      rw [es]
      have cc : ¬ (48 ≤ T j ∧ T j ≤ 57) := fun z => c (decide_eq_true z)
      refine tail j hij (by omega) _ _ ?_ ks
      by_cases c1 : T j < 48
      · exact Or.inl (nI_lt (b := 48) c1 (by decide))
      · exact Or.inr (nI_lt (by omega) (by omega) : nI 57 < nI (T j))
