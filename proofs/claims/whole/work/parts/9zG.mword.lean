/-! The model's token: a WORD. -/
def VH (h : AH) (j : Nat) (s : Int64) : AH := sFJ (sFI h 1204 348 (nI j)) 1207 348 s
theorem VH_5 (h : AH) (j : Nat) (s t : Int64) : sFJ (VH h j s) 1207 348 t = VH h j t := AH_ext rfl rfl (am_up2_up2 _ _ _ _ _) rfl rfl rfl rfl rfl rfl
theorem VH_8 (h : AH) (j i : Nat) (s : Int64) : sFI (VH h j s) 1204 348 (nI i) = VH h i s := AH_ext rfl (am_up2_up2 _ _ _ _ _) rfl rfl rfl rfl rfl rfl rfl
theorem VH_s (h : AH) (j : Nat) (s : Int64) : hFJ (VH h j s) 1207 348 = s := by
  unfold VH
  rw [rd_hFJ_sFJ]
  unfold am_up2
  rw [if_pos ⟨rfl, rfl⟩]
theorem VH_n (h : AH) (j : Nat) (s : Int64) : hFI (VH h j s) 1204 348 = nI j := by
  unfold VH
  rw [rd_hFI_sFJ]
  exact sFI_at _ _ _ _
theorem VH_o (h : AH) (j : Nat) (s : Int64) {k a : Nat} (e : k ≠ 1204 ∨ a ≠ 348) : hFI (VH h j s) k a = hFI h k a := by
  unfold VH
  rw [rd_hFI_sFJ]
  exact sFI_o _ _ e
theorem spc : ∀ c : Fin 128, Int32.toInt64 ((nI c.1 - 97) + 1) = Int32.toInt64 (nI c.1) - 96 := by decide +kernel
/-- at most eight letters count -/
def spM (T : Nat → Nat) (i m : Nat) : Int64 := spW T i (if m < 8 then m else 8)
theorem spM_s {T : Nat → Nat} {i j : Nat} (h : i ≤ j) (ht : T j < 128) : spM T i (j + 1 - i) = if j - i < 8 then spM T i (j - i) * 27 + Int32.toInt64 (nI (T j)) - 96 else spM T i (j - i) := by
  unfold spM
  by_cases c : j - i < 8
  · rw [if_pos c, if_pos c]
    have e : (if j + 1 - i < 8 then j + 1 - i else 8) = (j - i) + 1 := by
      by_cases c2 : j + 1 - i < 8
      · rw [if_pos c2]; omega
      · rw [if_neg c2]; omega
    have ec := spc ⟨T j, ht⟩
    rw [e]
    show spW T i (j - i) * 27 + Int32.toInt64 ((nI (T (i + (j - i))) - 97) + 1) = _
    rw [show i + (j - i) = j by omega, ec, Int64.sub_eq_add_neg, Int64.sub_eq_add_neg, Int64.add_assoc]
  · rw [if_neg c, if_neg c, if_neg (by omega)]
theorem c_mword0 {d n i : Nat} {h : AH} {T : Nat → Nat} (hp : Tq h n T) (h3 : hFI h 1205 348 = nI i) : ∀ k j, j + k = n → i ≤ j → am_R PG (d + 2) 166 109 [some (.ref 348), none] [] (VH h j (spM T i (j - i))) = some (none, sFI (VH h (scn bLe T k j) (spM T i (scn bLe T k j - i))) 1206 348 (if 8 < scn bLe T k j - i then 4 else 1)) := by
  have tail : ∀ j, i ≤ j → j ≤ n → ∀ (v : Int32) (w : Int64), (v < 97 ∨ 122 < v) → am_C PG (d + 1) 165 [.ref 348, .int (nI j)] (VH h j w) = some (some (.int v), VH h j w) → am_R PG (d + 2) 166 109 [some (.ref 348), none] [] (VH h j w) = some (none, sFI (VH h j w) 1206 348 (if 8 < j - i then 4 else 1)) := fun j hij hjn v w hv ks => by
    have hn : n ≤ 1000 := hp.2.1
    have w1 : hK (VH h j w) 348 = 13 := hp.1.1
    have e3 : hFI (VH h j w) 1205 348 = nI i := (VH_o _ _ _ (Or.inl (by decide))).trans h3
    rw [q_X12_nextToken_109]
    simp only [am_kd, w1, if_true, VH_n, ks, bI_s, e3, nI_subN hij, am_let_e]
    by_cases c4 : 8 < j - i
    · have z : ((8 : Int32) < nI (j - i)) = True := eq_true (nI_lt c4 (by omega) : nI 8 < nI (j - i))
      simp only [z, if_true, if_pos c4]
      rcases hv with hv | hv
      · rw [if_pos hv]
      · by_cases c5 : v < 97
        · rw [if_pos c5]
        · rw [if_neg c5, if_pos hv]
    · have z : ((8 : Int32) < nI (j - i)) = False := eq_false (nI_nlt (by omega) (by omega) : ¬ nI 8 < nI (j - i))
      simp only [z, if_false, if_neg c4]
      rcases hv with hv | hv
      · rw [if_pos hv]
      · by_cases c5 : v < 97
        · rw [if_pos c5]
        · rw [if_neg c5, if_pos hv]
  intro k
  induction k with
  | zero =>
    intro j hj hij
    have hq : Tq (VH h j (spM T i (j - i))) n T := hp.to rfl rfl rfl (VH_o _ _ _ (Or.inl (by decide))) rfl
    have ks := c_signAt (d := d) (i := j) hq (by omega)
    rw [if_neg (by omega)] at ks
    exact tail j hij (by omega) 0 _ (Or.inl (by decide)) ks
  | succ k ih =>
    intro j hj hij
    have hq : Tq (VH h j (spM T i (j - i))) n T := hp.to rfl rfl rfl (VH_o _ _ _ (Or.inl (by decide))) rfl
    have ks := c_signAt (d := d) (i := j) hq (by omega)
    have t1 : T j < 128 := (hp.2.2.2 j (by omega)).1
    rw [if_pos (by omega)] at ks
    by_cases c : bLe (T j) = true
    · have cc : 97 ≤ T j ∧ T j ≤ 122 := of_decide_eq_true c
      have hn : n ≤ 1000 := hp.2.1
      have w1 : ∀ j v, hK (VH h j v) 348 = 13 := fun _ _ => hp.1.1
      have e3 : hFI (VH h j (spM T i (j - i))) 1205 348 = nI i := (VH_o _ _ _ (Or.inl (by decide))).trans h3
      have es : scn bLe T (k + 1) j = scn bLe T k (j + 1) := by
        show (if bLe (T j) then scn bLe T k (j + 1) else j) = _
        rw [if_pos c]
      have z1 : (nI (T j) < (97 : Int32)) = False := eq_false (nI_nlt (b := 97) (by omega) (by omega))
      have z2 : ((122 : Int32) < nI (T j)) = False := eq_false (nI_nlt (by omega) (by omega) : ¬ nI 122 < nI (T j))
      rw [es, ← ih (j + 1) (by omega) (by omega), spM_s hij t1, q_X12_nextToken_109]
      simp only [am_kd, w1, if_true, if_false, VH_n, ks, bI_s, e3, nI_subN hij, am_let_e, z1, z2, VH_s, VH_5, VH_8, nI_1]
      by_cases c4 : j - i < 8
      · have z : (nI (j - i) < (8 : Int32)) = True := eq_true (nI_lt (b := 8) c4 (by decide))
        simp only [z, if_true, if_pos c4]
      · have z : (nI (j - i) < (8 : Int32)) = False := eq_false (nI_nlt (b := 8) (by omega) (by omega))
        simp only [z, if_false, if_neg c4]
    · have es : scn bLe T (k + 1) j = j := by
        show (if bLe (T j) then scn bLe T k (j + 1) else j) = _
        rw [if_neg c]
      rw [es]
      have cc : ¬ (97 ≤ T j ∧ T j ≤ 122) := fun z => c (decide_eq_true z)
      refine tail j hij (by omega) _ _ ?_ ks
      by_cases c1 : T j < 97
      · exact Or.inl (nI_lt (b := 97) c1 (by decide))
      · exact Or.inr (nI_lt (by omega) (by omega) : nI 122 < nI (T j))
