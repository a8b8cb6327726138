/-! The model's next token, put together. -/
theorem spM_8 {T : Nat → Nat} {b m : Nat} (h : ¬ 8 < m) : spM T b m = spW T b m := by
  unfold spM
  by_cases c : m < 8
  · rw [if_pos c]
  · rw [if_neg c, show m = 8 by omega]
theorem numM_4 {T : Nat → Nat} {b m : Nat} (h : ¬ 4 < m) : numM T b m = numW T b m := by
  unfold numM
  by_cases c : m < 4
  · rw [if_pos c]
  · rw [if_neg c, show m = 4 by omega]
theorem c_msign {d n b : Nat} {h : AH} {T : Nat → Nat} (k1 : hK h 348 = 13) (e4 : hFI h 1204 348 = nI b) (t1 : T b < 128) (hd : bDi (T b) = false) : am_R PG (d + 2) 166 212 [some (.ref 348), some (.int (nI (T b)))] [] h = some (none, sFI (sFI h 1204 348 (nI (b + 1))) 1206 348 (if bSg (T b) then 3 else 4)) := by
  have cc : ¬ (48 ≤ T b ∧ T b ≤ 57) := fun z => by
    rw [show bDi (T b) = true from decide_eq_true z] at hd
    cases hd
  have k2 : hK (sFI h 1204 348 (nI (b + 1))) 348 = 13 := k1
  generalize T b = c at t1 cc ⊢
  have L : ∀ m, m < 128 → (nI c < nI m) = (c < m) := fun m hm => propext (nI_ltI (by omega) (by omega))
  have G : ∀ m, m < 128 → (nI m < nI c) = (m < c) := fun m hm => propext (nI_ltI (by omega) (by omega))
  have E : (nI c = nI 45) = (c = 45) := propext (nI_eq (by omega) (by omega))
  have l48 : (nI c < (48 : Int32)) = (c < 48) := L 48 (by omega)
  have l40 : (nI c < (40 : Int32)) = (c < 40) := L 40 (by omega)
  have l59 : (nI c < (59 : Int32)) = (c < 59) := L 59 (by omega)
  have g57 : ((57 : Int32) < nI c) = (57 < c) := G 57 (by omega)
  have g43 : ((43 : Int32) < nI c) = (43 < c) := G 43 (by omega)
  have g61 : ((61 : Int32) < nI c) = (61 < c) := G 61 (by omega)
  have e45 : (nI c = (45 : Int32)) = (c = 45) := E
  rw [q_X12_nextToken_212]
  simp only [am_kd, k1, k2, if_true, e4, am_let_e, nI_1, l48, l40, l59, g57, g43, g61, e45]
  unfold bSg
  by_cases a1 : c < 40
  · rw [if_pos (by omega), if_pos a1, if_neg (by omega), if_pos (by omega), decide_eq_false (by omega)]
    rfl
  · by_cases a2 : 43 < c
    · by_cases a3 : c = 45
      · rw [if_pos (by omega), if_neg a1, if_pos a2, if_pos a3, decide_eq_true (by omega)]
        rfl
      · by_cases a4 : c < 48
        · rw [if_pos a4, if_neg a1, if_pos a2, if_neg a3, if_pos (by omega), decide_eq_false (by omega)]
          rfl
        · rw [if_neg a4, if_pos (by omega), if_neg a1, if_pos a2, if_neg a3]
          by_cases a5 : c < 59
          · rw [if_pos a5, decide_eq_false (by omega)]
            rfl
          · by_cases a6 : 61 < c
            · rw [if_neg a5, if_pos a6, decide_eq_false (by omega)]
              rfl
            · rw [if_neg a5, if_neg a6, decide_eq_true (by omega)]
              rfl
    · rw [if_pos (by omega), if_neg a1, if_neg a2, decide_eq_true (by omega)]
      rfl
