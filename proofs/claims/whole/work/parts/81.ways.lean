/-! Ways in which so many legs take two hours. -/
def wA (legs : Nat) : Nat → Int64
  | 0 => 1
  | i + 1 => wA legs i * (nI legs - nI i).toInt64 / (nI (i + 1)).toInt64
def wB (legs two : Nat) (ch : Int32) : Nat → Int64
  | 0 => wA legs two
  | i + 1 => wB legs two ch i * (if i < two then ch else 10 - ch).toInt64
theorem c_ways {d legs two : Nat} {ch : Int32} (h1 : legs ≤ 12) (h2 : two ≤ legs) (h : AH) : am_C PG (d + 1) 6 [.int (nI legs), .int (nI two), .int ch] h = some (some (.long (wB legs two ch legs)), h) := by
  have lp : ∀ i, i ≤ two → am_C PG (d + 1) 6 [.int (nI legs), .int (nI two), .int ch] h = am_R PG (d + 1) 6 5 [some (.int (nI legs)), some (.int (nI two)), some (.int ch), some (.long (wA legs i)), none, some (.int (nI i))] [] h := by
    intro i
    induction i with
    | zero => intro _; rw [q_X0_waysOfTwo]; rfl
    | succ i ih =>
      intro hi
      rw [ih (by omega), q_X0_waysOfTwo_5, if_pos (nI_lt (by omega) (by omega)), nI_1, am_dzJ_t (l0 (by omega) (by omega))]
      rfl
  have lp2 : ∀ i, i ≤ legs → am_C PG (d + 1) 6 [.int (nI legs), .int (nI two), .int ch] h = am_R PG (d + 1) 6 34 [some (.int (nI legs)), some (.int (nI two)), some (.int ch), some (.long (wB legs two ch i)), none, some (.int (nI i))] [] h := by
    intro i
    induction i with
    | zero => intro _; rw [lp two (Nat.le_refl _), q_X0_waysOfTwo_5, if_neg (nI_nlt (Nat.le_refl _) (by omega))]; rfl
    | succ i ih =>
      intro hi
      have e : wB legs two ch (i + 1) = wB legs two ch i * (if i < two then ch else 10 - ch).toInt64 := rfl
      rw [ih (by omega), q_X0_waysOfTwo_34, if_pos (nI_lt (by omega) (by omega)), nI_1, e]
      by_cases c : i < two
      · rw [if_pos (nI_lt c (by omega)), if_pos c]
      · rw [if_neg (nI_nlt (by omega) (by omega)), if_neg c]
  rw [lp2 legs (Nat.le_refl _), q_X0_waysOfTwo_34, if_neg (nI_nlt (Nat.le_refl _) (by omega))]
