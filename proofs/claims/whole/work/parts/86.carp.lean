/-! caravan: the last test always holds; class and reference find the same. -/
theorem lg_nlt {q : Nat} (h : q ≤ 1000000) : ¬ lg_cmp (1000000 : Int64) (lN q) < 0 := by
  have e : (1000000 : Int64) = lN 1000000 := rfl
  unfold lg_cmp
  rw [e]
  by_cases c : q = 1000000
  · rw [c]
    decide
  · rw [if_pos (show lN 1000000 > lN q from (lN_lt (by omega) (by decide)).2 (by omega))]
    decide
theorem cG_fin {legs ch q : Nat} (h1 : legs ≤ 12) (h2 : ch ≤ 10) (h3 : q ≤ 1000000) : cG legs (nI ch) (nI q) (legs + 1) = true := by
  unfold cG
  have e := (p10_pos ⟨legs, by omega⟩).2
  dsimp only at e
  rw [wE_tot h1 h2, e, nI_l (by omega), decide_eq_false (lg_nlt h3)]
  rfl
theorem cG_0 {legs q : Nat} {ch : Int32} (h1 : legs ≤ 12) (h3 : q ≤ 1000000) (h0 : 0 < q) : cG legs ch (nI q) 0 = false := by
  unfold cG
  have e : wE legs ch 0 * (1000000 : Int64) / p10 legs = 0 := by
    have z : ∀ l : Fin 13, (0 : Int64) * 1000000 / p10 l.1 = 0 := by decide +kernel
    exact z ⟨legs, by omega⟩
  have g : lg_cmp 0 (lN q) < 0 := by
    have e0 : (0 : Int64) = lN 0 := rfl
    unfold lg_cmp
    rw [e0, if_neg (show ¬ lN 0 > lN q from fun z => by have := (lN_lt (a := q) (b := 0) (by omega) (by decide)).1 z; omega), if_neg (fun z => by have := (lN_eq (a := 0) (b := q) (by decide) (by omega)).1 z; omega)]
    decide
  rw [e, nI_l (by omega), decide_eq_true g]
  rfl
theorem cG_00 {legs : Nat} {ch : Int32} (h1 : legs ≤ 12) : cG legs ch 0 0 = true := by
  unfold cG
  have e : wE legs ch 0 * (1000000 : Int64) / p10 legs = 0 := by
    have z : ∀ l : Fin 13, (0 : Int64) * 1000000 / p10 l.1 = 0 := by decide +kernel
    exact z ⟨legs, by omega⟩
  rw [e]
  decide
/-- the same k -/
theorem car_same {legs k k' : Nat} {G : Nat → Bool} (g0 : G 0 = false) (h1 : k ≤ legs + 1) (h2 : ∀ j, j < k → G j = false) (h3 : k = legs + 1 ∨ G k = true) (m1 : k' ≤ legs) (m2 : ∀ j, 1 ≤ j → j ≤ k' → G j = false) (m3 : G (k' + 1) = true) : k = k' + 1 := by
  by_cases c : k < k' + 1
  · exfalso
    rcases h3 with z | z
    · omega
    · by_cases c0 : k = 0
      · rw [c0, g0] at z
        cases z
      · rw [m2 k (by omega) (by omega)] at z
        cases z
  · by_cases c2 : k' + 1 < k
    · rw [h2 _ c2] at m3
      cases m3
    · omega
