/-! The reader: tokens, as both sides see them. -/
/-- the token at b: its sign, its WORD, its NUMBER; where the next begins -/
def sgn (n : Nat) (T : Nat → Nat) (b : Nat) : Int32 := if tkS n T b = 3 then nI (T b) else 0
def wrd (n : Nat) (T : Nat → Nat) (b : Nat) : Int64 := if tkS n T b = 1 then spW T b (tkE n T b - b) else 0
def num (n : Nat) (T : Nat → Nat) (b : Nat) : Int32 := numW T b (tkE n T b - b)
def nxt (n : Nat) (T : Nat → Nat) (b : Nat) : Nat := tkB n T (tkE n T b)
/-- a NAME -/
def nam (n : Nat) (T : Nat → Nat) (b : Nat) : Bool := decide (tkS n T b = 1 ∧ ¬ wdo (wrd n T b) 31 0 < 1000027)
theorem tkE_le {n : Nat} {T : Nat → Nat} {b : Nat} (hb : b ≤ n) : tkE n T b ≤ n ∧ b ≤ tkE n T b ∧ (b < n → b < tkE n T b) := by
  unfold tkE
  by_cases c : b < n
  · rw [if_pos c]
    have st : ∀ P : Nat → Bool, P (T b) = true → scn P T (n - b) b ≤ n ∧ b ≤ scn P T (n - b) b ∧ (b < n → b < scn P T (n - b) b) := fun P hP => by
      obtain ⟨k, hk⟩ : ∃ k, n - b = k + 1 := ⟨n - b - 1, by omega⟩
      rw [hk]
      unfold scn
      rw [if_pos hP]
      have := scn_le P T k (b + 1)
      omega
    by_cases c1 : bLe (T b) = true
    · rw [if_pos c1]; exact st _ c1
    · rw [if_neg c1]
      by_cases c2 : bDi (T b) = true
      · rw [if_pos c2]; exact st _ c2
      · rw [if_neg c2]; omega
  · rw [if_neg c]; omega
theorem tkB_le {n : Nat} {T : Nat → Nat} {i : Nat} (hi : i ≤ n) : tkB n T i ≤ n ∧ i ≤ tkB n T i := by
  unfold tkB
  have := scn_le bBl T (n - i) i
  omega
theorem nxt_le {n : Nat} {T : Nat → Nat} {b : Nat} (hb : b ≤ n) : nxt n T b ≤ n ∧ b ≤ nxt n T b ∧ (b < n → b < nxt n T b) := by
  unfold nxt
  have h1 := tkE_le (T := T) hb
  have h2 := tkB_le (T := T) h1.1
  omega
theorem tkS_lt {n : Nat} {T : Nat → Nat} {b : Nat} (h : tkS n T b ≠ 0) : b < n := by
  unfold tkS at h
  by_cases c : b < n
  · exact c
  · rw [if_neg c] at h
    exact absurd rfl h
theorem tkS_le (n : Nat) (T : Nat → Nat) (b : Nat) : tkS n T b ≤ 4 := by
  unfold tkS
  repeat' split
  all_goals omega
/-- of what sort a token is -/
theorem tkS_1 {n : Nat} {T : Nat → Nat} {b : Nat} (h : tkS n T b = 1) : b < n ∧ bLe (T b) = true ∧ tkE n T b = scn bLe T (n - b) b ∧ tkE n T b - b ≤ 8 := by
  have c0 : b < n := tkS_lt (T := T) (by omega)
  unfold tkS at h
  rw [if_pos c0] at h
  by_cases c1 : bLe (T b) = true
  · rw [if_pos c1] at h
    have eE : tkE n T b = scn bLe T (n - b) b := by unfold tkE; rw [if_pos c0, if_pos c1]
    refine ⟨c0, c1, eE, ?_⟩
    by_cases c2 : 8 < tkE n T b - b
    · rw [if_pos c2] at h; exact absurd h (by decide)
    · omega
  · rw [if_neg c1] at h
    by_cases c2 : bDi (T b) = true
    · rw [if_pos c2] at h
      by_cases c3 : 4 < tkE n T b - b
      · rw [if_pos c3] at h; exact absurd h (by decide)
      · rw [if_neg c3] at h; exact absurd h (by decide)
    · rw [if_neg c2] at h
      by_cases c3 : bSg (T b) = true
      · rw [if_pos c3] at h; exact absurd h (by decide)
      · rw [if_neg c3] at h; exact absurd h (by decide)
theorem tkS_2 {n : Nat} {T : Nat → Nat} {b : Nat} (h : tkS n T b = 2) : b < n ∧ bDi (T b) = true ∧ tkE n T b = scn bDi T (n - b) b ∧ tkE n T b - b ≤ 4 := by
  have c0 : b < n := tkS_lt (T := T) (by omega)
  unfold tkS at h
  rw [if_pos c0] at h
  by_cases c1 : bLe (T b) = true
  · rw [if_pos c1] at h
    by_cases c3 : 8 < tkE n T b - b
    · rw [if_pos c3] at h; exact absurd h (by decide)
    · rw [if_neg c3] at h; exact absurd h (by decide)
  · rw [if_neg c1] at h
    by_cases c2 : bDi (T b) = true
    · rw [if_pos c2] at h
      have eE : tkE n T b = scn bDi T (n - b) b := by unfold tkE; rw [if_pos c0, if_neg c1, if_pos c2]
      refine ⟨c0, c2, eE, ?_⟩
      by_cases c3 : 4 < tkE n T b - b
      · rw [if_pos c3] at h; exact absurd h (by decide)
      · omega
    · rw [if_neg c2] at h
      by_cases c3 : bSg (T b) = true
      · rw [if_pos c3] at h; exact absurd h (by decide)
      · rw [if_neg c3] at h; exact absurd h (by decide)
theorem tkS_3 {n : Nat} {T : Nat → Nat} {b : Nat} (h : tkS n T b = 3) : b < n ∧ bSg (T b) = true := by
  have c0 : b < n := tkS_lt (T := T) (by omega)
  unfold tkS at h
  rw [if_pos c0] at h
  refine ⟨c0, ?_⟩
  by_cases c1 : bLe (T b) = true
  · rw [if_pos c1] at h
    by_cases c3 : 8 < tkE n T b - b
    · rw [if_pos c3] at h; exact absurd h (by decide)
    · rw [if_neg c3] at h; exact absurd h (by decide)
  · rw [if_neg c1] at h
    by_cases c2 : bDi (T b) = true
    · rw [if_pos c2] at h
      by_cases c3 : 4 < tkE n T b - b
      · rw [if_pos c3] at h; exact absurd h (by decide)
      · rw [if_neg c3] at h; exact absurd h (by decide)
    · rw [if_neg c2] at h
      by_cases c3 : bSg (T b) = true
      · exact c3
      · rw [if_neg c3] at h; exact absurd h (by decide)
theorem scn_all (P : Nat → Bool) (T : Nat → Nat) : ∀ k i j, i ≤ j → j < scn P T k i → P (T j) = true
  | 0, i, j, h1, h2 => by
    have h2 : j < i := h2
    omega
  | k + 1, i, j, h1, h2 => by
    unfold scn at h2
    by_cases c : P (T i) = true
    · rw [if_pos c] at h2
      by_cases e : j = i
      · rw [e]; exact c
      · exact scn_all P T k (i + 1) j (by omega) h2
    · rw [if_neg c] at h2
      omega
theorem spW_n {T : Nat → Nat} {b : Nat} : ∀ m, m ≤ 8 → (∀ i, i < m → 97 ≤ T (b + i) ∧ T (b + i) ≤ 122) → ∃ k, k < 27 ^ m ∧ (0 < m → 0 < k) ∧ spW T b m = lN k
  | 0, _, _ => ⟨0, by decide, fun h => absurd h (by decide), rfl⟩
  | m + 1, h8, hT => by
    obtain ⟨k, k1, k2, k3⟩ := spW_n (T := T) (b := b) m (by omega) (fun i hi => hT i (by omega))
    obtain ⟨t1, t2⟩ := hT m (by omega)
    refine ⟨k * 27 + (T (b + m) - 96), ?_, fun _ => by omega, ?_⟩
    · rw [Nat.pow_succ]; omega
    · have e1 : (nI (T (b + m)) - 97) + 1 = nI (T (b + m) - 96) := by
        rw [show (97 : Int32) = nI 97 from rfl, nI_subN t1, nI_1]
        congr 1
        omega
      show spW T b m * 27 + Int32.toInt64 ((nI (T (b + m)) - 97) + 1) = _
      rw [e1, nI_l (by omega), k3, show (27 : Int64) = lN 27 from rfl, lN_mul, lN_add]
theorem wrd_n {n : Nat} {T : Nat → Nat} {b : Nat} (h : tkS n T b = 1) : ∃ k, 0 < k ∧ k < 2 ^ 63 ∧ wrd n T b = lN k := by
  obtain ⟨h1, h2, h3, h4⟩ := tkS_1 h
  have h5 := (tkE_le (T := T) (Nat.le_of_lt h1)).2.2 h1
  obtain ⟨k, k1, k2, k3⟩ := spW_n (T := T) (b := b) (tkE n T b - b) h4 (fun i hi => by
    have := scn_all bLe T (n - b) b (b + i) (by omega) (by omega)
    exact of_decide_eq_true this)
  refine ⟨k, k2 (by omega), ?_, ?_⟩
  · have : 27 ^ (tkE n T b - b) ≤ 27 ^ 8 := Nat.pow_le_pow_right (by decide) h4
    have : (27 : Nat) ^ 8 < 2 ^ 63 := by decide
    omega
  · unfold wrd
    rw [if_pos h, k3]
theorem wrd_0 {n : Nat} {T : Nat → Nat} {b : Nat} : wrd n T b = 0 ↔ tkS n T b ≠ 1 := by
  constructor
  · intro h z
    obtain ⟨k, k1, k2, k3⟩ := wrd_n z
    rw [h] at k3
    have := (pk_lEQ (a := 0) (b := k) (by decide) k2).1 k3
    omega
  · intro h
    unfold wrd
    rw [if_neg h]
theorem numW_n {T : Nat → Nat} {b : Nat} : ∀ m, m ≤ 4 → (∀ i, i < m → 48 ≤ T (b + i) ∧ T (b + i) ≤ 57) → ∃ k, k < 10 ^ m ∧ numW T b m = nI k
  | 0, _, _ => ⟨0, by decide, rfl⟩
  | m + 1, h8, hT => by
    obtain ⟨k, k1, k3⟩ := numW_n (T := T) (b := b) m (by omega) (fun i hi => hT i (by omega))
    obtain ⟨t1, t2⟩ := hT m (by omega)
    refine ⟨k * 10 + (T (b + m) - 48), ?_, ?_⟩
    · rw [Nat.pow_succ]; omega
    · show numW T b m * 10 + (nI (T (b + m)) - 48) = _
      rw [show (48 : Int32) = nI 48 from rfl, nI_subN t1, k3, show (10 : Int32) = nI 10 from rfl, pk_mul, nI_add]
theorem num_n {n : Nat} {T : Nat → Nat} {b : Nat} (h : tkS n T b = 2) : ∃ k, k ≤ 9999 ∧ num n T b = nI k := by
  obtain ⟨h1, h2, h3, h4⟩ := tkS_2 h
  obtain ⟨k, k1, k3⟩ := numW_n (T := T) (b := b) (tkE n T b - b) h4 (fun i hi => by
    have := scn_all bDi T (n - b) b (b + i) (by omega) (by omega)
    exact of_decide_eq_true this)
  refine ⟨k, ?_, k3⟩
  have : 10 ^ (tkE n T b - b) ≤ 10 ^ 4 := Nat.pow_le_pow_right (by decide) h4
  have : (10 : Nat) ^ 4 = 10000 := by decide
  omega
theorem wdo_c (s : Int64) : ∀ k i, i + k = 31 → (wdo s k i = nul ∧ ∀ j, i ≤ j → j < 31 → lN (wsp.getD j 0) ≠ s) ∨ ∃ j, i ≤ j ∧ j < 31 ∧ wdo s k i = 1000000 + j ∧ lN (wsp.getD j 0) = s
  | 0, i, hi => Or.inl ⟨rfl, fun j h1 h2 => by omega⟩
  | k + 1, i, hi => by
    unfold wdo
    by_cases c : lN (wsp.getD i 0) = s
    · rw [if_pos c]
      exact Or.inr ⟨i, by omega, by omega, rfl, c⟩
    · rw [if_neg c]
      rcases wdo_c s k (i + 1) (by omega) with ⟨h1, h2⟩ | ⟨j, h1, h2, h3, h4⟩
      · refine Or.inl ⟨h1, fun j j1 j2 => ?_⟩
        by_cases e : j = i
        · rw [e]; exact c
        · exact h2 j (by omega) j2
      · exact Or.inr ⟨j, by omega, h2, h3, h4⟩
theorem wsp_inj : ∀ i j : Fin 31, lN (wsp.getD i.1 0) = lN (wsp.getD j.1 0) → i = j := by decide +kernel
theorem wdo_p (s : Int64) {k : Nat} (hk : k < 31) : (wdo s 31 0 = 1000000 + k) = (s = lN (wsp.getD k 0)) := by
  apply propext
  rcases wdo_c s 31 0 rfl with ⟨h1, h2⟩ | ⟨j, h1, h2, h3, h4⟩
  · constructor
    · intro z
      rw [h1] at z
      have z : (1999999 : Nat) = 1000000 + k := z
      omega
    · intro z
      exact absurd z.symm (h2 k (by omega) hk)
  · constructor
    · intro z
      have : j = k := by omega
      rw [← h4, this]
    · intro z
      have := wsp_inj ⟨j, h2⟩ ⟨k, hk⟩ (h4.trans z)
      have : j = k := congrArg (fun x : Fin 31 => x.1) this
      rw [h3, this]
theorem am_wd_w (s : Int64) (x : Option Res) : am_wd (wdo s 31 0) x = x := by
  refine if_pos ?_
  rcases wdo_c s 31 0 rfl with ⟨h1, h2⟩ | ⟨j, h1, h2, h3, h4⟩
  · exact Or.inl h1
  · right; omega
theorem wdo_0 : wdo 0 31 0 = nul := by decide +kernel
theorem wd_0 (s : Int64) : (wdo s 31 0 = 1000000) = (s = (8740067 : Int64)) := wdo_p s (k := 0) (by decide)
theorem am_wd_0 (x : Option Res) : am_wd 1000000 x = x := if_pos (by decide)
theorem wd_1 (s : Int64) : (wdo s 31 0 = 1000001) = (s = (456690 : Int64)) := wdo_p s (k := 1) (by decide)
theorem am_wd_1 (x : Option Res) : am_wd 1000001 x = x := if_pos (by decide)
theorem wd_2 (s : Int64) : (wdo s 31 0 = 1000002) = (s = (16819 : Int64)) := wdo_p s (k := 2) (by decide)
theorem am_wd_2 (x : Option Res) : am_wd 1000002 x = x := if_pos (by decide)
theorem wd_3 (s : Int64) : (wdo s 31 0 = 1000003) = (s = (1841546 : Int64)) := wdo_p s (k := 3) (by decide)
theorem am_wd_3 (x : Option Res) : am_wd 1000003 x = x := if_pos (by decide)
theorem wd_4 (s : Int64) : (wdo s 31 0 = 1000004) = (s = (47 : Int64)) := wdo_p s (k := 4) (by decide)
theorem am_wd_4 (x : Option Res) : am_wd 1000004 x = x := if_pos (by decide)
theorem wd_5 (s : Int64) : (wdo s 31 0 = 1000005) = (s = (4555648 : Int64)) := wdo_p s (k := 5) (by decide)
theorem am_wd_5 (x : Option Res) : am_wd 1000005 x = x := if_pos (by decide)
theorem wd_6 (s : Int64) : (wdo s 31 0 = 1000006) = (s = (5878 : Int64)) := wdo_p s (k := 6) (by decide)
theorem am_wd_6 (x : Option Res) : am_wd 1000006 x = x := if_pos (by decide)
theorem wd_7 (s : Int64) : (wdo s 31 0 = 1000007) = (s = (380989 : Int64)) := wdo_p s (k := 7) (by decide)
theorem am_wd_7 (x : Option Res) : am_wd 1000007 x = x := if_pos (by decide)
theorem wd_8 (s : Int64) : (wdo s 31 0 = 1000008) = (s = (232608281 : Int64)) := wdo_p s (k := 8) (by decide)
theorem am_wd_8 (x : Option Res) : am_wd 1000008 x = x := if_pos (by decide)
theorem wd_9 (s : Int64) : (wdo s 31 0 = 1000009) = (s = (464141 : Int64)) := wdo_p s (k := 9) (by decide)
theorem am_wd_9 (x : Option Res) : am_wd 1000009 x = x := if_pos (by decide)
theorem wd_10 (s : Int64) : (wdo s 31 0 = 1000010) = (s = (79 : Int64)) := wdo_p s (k := 10) (by decide)
theorem am_wd_10 (x : Option Res) : am_wd 1000010 x = x := if_pos (by decide)
theorem wd_11 (s : Int64) : (wdo s 31 0 = 1000011) = (s = (168984 : Int64)) := wdo_p s (k := 11) (by decide)
theorem am_wd_11 (x : Option Res) : am_wd 1000011 x = x := if_pos (by decide)
theorem wd_12 (s : Int64) : (wdo s 31 0 = 1000012) = (s = (316351 : Int64)) := wdo_p s (k := 12) (by decide)
theorem am_wd_12 (x : Option Res) : am_wd 1000012 x = x := if_pos (by decide)
theorem wd_13 (s : Int64) : (wdo s 31 0 = 1000013) = (s = (161156 : Int64)) := wdo_p s (k := 13) (by decide)
theorem am_wd_13 (x : Option Res) : am_wd 1000013 x = x := if_pos (by decide)
theorem wd_14 (s : Int64) : (wdo s 31 0 = 1000014) = (s = (555 : Int64)) := wdo_p s (k := 14) (by decide)
theorem am_wd_14 (x : Option Res) : am_wd 1000014 x = x := if_pos (by decide)
theorem wd_15 (s : Int64) : (wdo s 31 0 = 1000015) = (s = (291420470 : Int64)) := wdo_p s (k := 15) (by decide)
theorem am_wd_15 (x : Option Res) : am_wd 1000015 x = x := if_pos (by decide)
theorem wd_16 (s : Int64) : (wdo s 31 0 = 1000016) = (s = (326448 : Int64)) := wdo_p s (k := 16) (by decide)
theorem am_wd_16 (x : Option Res) : am_wd 1000016 x = x := if_pos (by decide)
theorem wd_17 (s : Int64) : (wdo s 31 0 = 1000017) = (s = (91904 : Int64)) := wdo_p s (k := 17) (by decide)
theorem am_wd_17 (x : Option Res) : am_wd 1000017 x = x := if_pos (by decide)
theorem wd_18 (s : Int64) : (wdo s 31 0 = 1000018) = (s = (204 : Int64)) := wdo_p s (k := 18) (by decide)
theorem am_wd_18 (x : Option Res) : am_wd 1000018 x = x := if_pos (by decide)
theorem wd_19 (s : Int64) : (wdo s 31 0 = 1000019) = (s = (10494723 : Int64)) := wdo_p s (k := 19) (by decide)
theorem am_wd_19 (x : Option Res) : am_wd 1000019 x = x := if_pos (by decide)
theorem wd_20 (s : Int64) : (wdo s 31 0 = 1000020) = (s = (8740238 : Int64)) := wdo_p s (k := 20) (by decide)
theorem am_wd_20 (x : Option Res) : am_wd 1000020 x = x := if_pos (by decide)
theorem wd_21 (s : Int64) : (wdo s 31 0 = 1000021) = (s = (11263 : Int64)) := wdo_p s (k := 21) (by decide)
theorem am_wd_21 (x : Option Res) : am_wd 1000021 x = x := if_pos (by decide)
theorem wd_22 (s : Int64) : (wdo s 31 0 = 1000022) = (s = (262775 : Int64)) := wdo_p s (k := 22) (by decide)
theorem am_wd_22 (x : Option Res) : am_wd 1000022 x = x := if_pos (by decide)
theorem wd_23 (s : Int64) : (wdo s 31 0 = 1000023) = (s = (3074 : Int64)) := wdo_p s (k := 23) (by decide)
theorem am_wd_23 (x : Option Res) : am_wd 1000023 x = x := if_pos (by decide)
theorem wd_24 (s : Int64) : (wdo s 31 0 = 1000024) = (s = (10631 : Int64)) := wdo_p s (k := 24) (by decide)
theorem am_wd_24 (x : Option Res) : am_wd 1000024 x = x := if_pos (by decide)
theorem wd_25 (s : Int64) : (wdo s 31 0 = 1000025) = (s = (1111 : Int64)) := wdo_p s (k := 25) (by decide)
theorem am_wd_25 (x : Option Res) : am_wd 1000025 x = x := if_pos (by decide)
theorem wd_26 (s : Int64) : (wdo s 31 0 = 1000026) = (s = (423 : Int64)) := wdo_p s (k := 26) (by decide)
theorem am_wd_26 (x : Option Res) : am_wd 1000026 x = x := if_pos (by decide)
theorem wd_27 (s : Int64) : (wdo s 31 0 = 1000027) = (s = (40613 : Int64)) := wdo_p s (k := 27) (by decide)
theorem am_wd_27 (x : Option Res) : am_wd 1000027 x = x := if_pos (by decide)
theorem wd_28 (s : Int64) : (wdo s 31 0 = 1000028) = (s = (6257 : Int64)) := wdo_p s (k := 28) (by decide)
theorem am_wd_28 (x : Option Res) : am_wd 1000028 x = x := if_pos (by decide)
theorem wd_29 (s : Int64) : (wdo s 31 0 = 1000029) = (s = (223456 : Int64)) := wdo_p s (k := 29) (by decide)
theorem am_wd_29 (x : Option Res) : am_wd 1000029 x = x := if_pos (by decide)
theorem wd_30 (s : Int64) : (wdo s 31 0 = 1000030) = (s = (10266413 : Int64)) := wdo_p s (k := 30) (by decide)
theorem am_wd_30 (x : Option Res) : am_wd 1000030 x = x := if_pos (by decide)
/-! the class's side -/
/-- the class stands at b: the post is a -/
def CX (h : AH) (a n : Nat) (T : Nat → Nat) (b : Nat) : Prop := hK h 3 = 7 ∧ hFR h 600 3 = some 1 ∧ hFR h 601 3 = some a ∧ PoSh h a ∧ WdSh h ∧ Tp h n T ∧ TkC h n T b ∧ b ≤ n
/-- the model stands at b -/
def MX (g : AH) (n : Nat) (T : Nat → Nat) (b : Nat) : Prop := Tq g n T ∧ TkM g n T b ∧ b ≤ n
theorem CX.to {h g : AH} {a n b : Nat} {T : Nat → Nat} (e1 : hK g = hK h) (e2 : hFR g = hFR h) (e3 : hLN g = hLN h) (e4 : hAR g = hAR h) (e5 : hAI g 2 = hAI h 2) (e6 : ∀ k a, a = 1 ∨ 1000000 ≤ a → hFI g k a = hFI h k a) (e7 : hFJ g = hFJ h) (c : CX h a n T b) : CX g a n T b := by
  obtain ⟨c1, c2, c3, c4, c5, ⟨t1, t2, t3, t4, t5, t6, t7⟩, c7, c8⟩ := c
  refine ⟨by rw [e1]; exact c1, by rw [e2]; exact c2, by rw [e2]; exact c3, c4.to e1 e2 e3, c5.to e1 e4 e3 (fun k a _ => by rw [e7]) (fun a ha => e6 _ a (Or.inr ha)), ⟨by rw [e1]; exact t1, by rw [e2]; exact t2, by rw [e1]; exact t3, by rw [e3]; exact t4, t5, by rw [e6 _ _ (Or.inl rfl)]; exact t6, by rw [e5]; exact t7⟩, ?_, c8⟩
  unfold TkC at c7 ⊢
  rw [e6 _ _ (Or.inl rfl), e6 _ _ (Or.inl rfl), e6 _ _ (Or.inl rfl), e6 _ _ (Or.inl rfl), e6 _ _ (Or.inl rfl), e2, e7]
  exact c7
theorem MX.to {h g : AH} {n b : Nat} {T : Nat → Nat} (e1 : hK g = hK h) (e2 : hFR g = hFR h) (e3 : hLN g = hLN h) (e4 : hAI g 349 = hAI h 349) (e5 : ∀ k, 1203 ≤ k → k ≤ 1208 → hFI g k 348 = hFI h k 348) (e6 : hFJ g 1207 348 = hFJ h 1207 348) (c : MX h n T b) : MX g n T b := by
  obtain ⟨⟨t1, t2, t3, t4⟩, c7, c8⟩ := c
  refine ⟨⟨t1.to e1 (fun k => by rw [e2]) e3, t2, by rw [e5 _ (by decide) (by decide)]; exact t3, by rw [e4]; exact t4⟩, ?_, c8⟩
  unfold TkM at c7 ⊢
  rw [e5 _ (by decide) (by decide), e5 _ (by decide) (by decide), e5 _ (by decide) (by decide), e5 _ (by decide) (by decide), e6]
  exact c7
/-- the class's token and what was found may differ; the model's token and what was given -/
def CT (h g : AH) : Prop := hK g = hK h ∧ hLN g = hLN h ∧ hAI g = hAI h ∧ hAJ g = hAJ h ∧ hAR g = hAR h ∧ hNX g = hNX h ∧ (∀ k a, (k ≠ 906 ∨ a ≠ 1) → hFR g k a = hFR h k a) ∧ (∀ k a, (k ≠ 905 ∨ a ≠ 1) → hFJ g k a = hFJ h k a) ∧ ∀ k a, (a ≠ 1 ∨ k < 902 ∨ 908 < k) → (a ≠ 3 ∨ k ≠ 605) → hFI g k a = hFI h k a
def MT (h g : AH) : Prop := hK g = hK h ∧ hFR g = hFR h ∧ hLN g = hLN h ∧ hAI g = hAI h ∧ hAJ g = hAJ h ∧ hAR g = hAR h ∧ hNX g = hNX h ∧ (∀ k a, (k ≠ 1207 ∨ a ≠ 348) → hFJ g k a = hFJ h k a) ∧ ∀ k a, (a ≠ 348 ∨ k < 1204 ∨ 1208 < k) → (a ≠ 348 ∨ k ≠ 1246) → hFI g k a = hFI h k a
theorem CT.rfl' (h : AH) : CT h h := ⟨rfl, rfl, rfl, rfl, rfl, rfl, fun _ _ _ => rfl, fun _ _ _ => rfl, fun _ _ _ _ => rfl⟩
theorem MT.rfl' (h : AH) : MT h h := ⟨rfl, rfl, rfl, rfl, rfl, rfl, rfl, fun _ _ _ => rfl, fun _ _ _ _ => rfl⟩
theorem CT.tr {h g k : AH} (a : CT h g) (b : CT g k) : CT h k := by
  obtain ⟨a1, a2, a3, a4, a5, a6, a7, a8, a9⟩ := a
  obtain ⟨b1, b2, b3, b4, b5, b6, b7, b8, b9⟩ := b
  exact ⟨b1.trans a1, b2.trans a2, b3.trans a3, b4.trans a4, b5.trans a5, b6.trans a6, fun k a e => (b7 k a e).trans (a7 k a e), fun k a e => (b8 k a e).trans (a8 k a e), fun k a e f => (b9 k a e f).trans (a9 k a e f)⟩
theorem MT.tr {h g k : AH} (a : MT h g) (b : MT g k) : MT h k := by
  obtain ⟨a1, a2, a3, a4, a5, a6, a7, a8, a9⟩ := a
  obtain ⟨b1, b2, b3, b4, b5, b6, b7, b8, b9⟩ := b
  exact ⟨b1.trans a1, b2.trans a2, b3.trans a3, b4.trans a4, b5.trans a5, b6.trans a6, b7.trans a7, fun k a e => (b8 k a e).trans (a8 k a e), fun k a e f => (b9 k a e f).trans (a9 k a e f)⟩
theorem TQ.ct {h g : AH} (q : TQ h g) : CT h g := by
  obtain ⟨a1, a2, a3, a4, a5, a6, a7, a8, a9⟩ := q
  exact ⟨a1, a2, a3, a4, a5, a6, a7, a8, fun k a e _ => a9 k a e⟩
theorem MQt.mt {h g : AH} (q : MQt h g) : MT h g := by
  obtain ⟨a1, a2, a3, a4, a5, a6, a7, a8, a9⟩ := q
  exact ⟨a1, a2, a3, a4, a5, a6, a7, a8, fun k a e _ => a9 k a e⟩
theorem CT.fi (h : AH) (v : Int32) : CT h (sFI h 605 3 v) := ⟨rfl, rfl, rfl, rfl, rfl, rfl, fun _ _ _ => rfl, fun _ _ _ => rfl, fun k a _ f => sFI_o _ _ (by omega)⟩
theorem MT.fi (h : AH) (v : Int32) : MT h (sFI h 1246 348 v) := ⟨rfl, rfl, rfl, rfl, rfl, rfl, rfl, fun _ _ _ => rfl, fun k a _ f => sFI_o _ _ (by omega)⟩
theorem CX.fi {h : AH} {a n b : Nat} {T : Nat → Nat} (c : CX h a n T b) (k : Nat) (v : Int32) : CX (sFI h k 3 v) a n T b := CX.to (h := h) rfl rfl rfl rfl rfl (fun j x e => sFI_o _ _ (by omega)) rfl c
theorem MX.fi {h : AH} {n b : Nat} {T : Nat → Nat} (c : MX h n T b) {k : Nat} (v : Int32) (hk : k < 1203 ∨ 1208 < k) : MX (sFI h k 348 v) n T b := MX.to (h := h) rfl rfl rfl rfl (fun j h1 h2 => sFI_o _ _ (by omega)) rfl c
/-- what the class's token shows -/
theorem CX.wd {h : AH} {a n b : Nat} {T : Nat → Nat} (c : CX h a n T b) : (hFR h 906 1).getD nul = wdo (wrd n T b) 31 0 := by
  obtain ⟨-, -, -, -, -, -, ⟨k1, k2, k3, k4, k5, k6, k7⟩, -⟩ := c
  unfold wrd
  by_cases e : tkS n T b = 1
  · rw [(k5 e).2, if_pos e]
    unfold am_on
    split
    · rename_i z
      rw [z]; rfl
    · rfl
  · rw [k6 e, if_neg e, wdo_0]
    rfl
theorem CX.ff {h : AH} {a n b : Nat} {T : Nat → Nat} (c : CX h a n T b) : hK h 3 = 7 ∧ hFR h 600 3 = some 1 ∧ hFR h 601 3 = some a ∧ hK h 1 = 10 ∧ hFI h 903 1 = nI b ∧ hFI h 902 1 = nI (tkS n T b) ∧ hFI h 907 1 = sgn n T b ∧ n ≤ 1000 := by
  obtain ⟨c1, c2, c3, -, -, t, ⟨k1, k2, k3, k4, k5, k6, k7⟩, -⟩ := c
  exact ⟨c1, c2, c3, t.1, k1, k3, k4, t.2.2.2.2.1⟩
theorem MX.ff {g : AH} {n b : Nat} {T : Nat → Nat} (c : MX g n T b) : hK g 348 = 13 ∧ hFI g 1205 348 = nI b ∧ hFI g 1206 348 = nI (tkS n T b) ∧ n ≤ 1000 := by
  obtain ⟨⟨t1, t2, t3, t4⟩, ⟨k1, k2, k3, k4, k5⟩, -⟩ := c
  exact ⟨t1.1, k1, k3, t2⟩
theorem r_adv {d a n b : Nat} {h : AH} {T : Nat → Nat} (c : CX h a n T b) : ∃ g, am_C PG (d + 3) 115 [.ref 1] h = some (none, g) ∧ TQ h g ∧ CX g a n T (nxt n T b) := by
  obtain ⟨c1, c2, c3, c4, c5, c6, c7, c8⟩ := c
  have he := tkE_le (T := T) c8
  obtain ⟨g, k1, k2, k3⟩ := c_adv (d := d) c6 c5 c7.2.1 he.1
  refine ⟨g, k1, k2, ?_, ?_, ?_, ?_, k2.wd c5, k2.tp c6, k3, (nxt_le c8).1⟩
  · rw [k2.1]; exact c1
  · rw [k2.2.2.2.2.2.2.1 _ _ (by omega)]; exact c2
  · rw [k2.2.2.2.2.2.2.1 _ _ (by omega)]; exact c3
  · obtain ⟨a1, a2, a3, a4, a5, a6, a7, a8, a9⟩ := k2
    have f : ∀ k x, k ≠ 906 → hFR g k x = hFR h k x := fun k x e => a7 k x (Or.inl e)
    obtain ⟨q1, q2, q3⟩ := c4
    refine ⟨?_, ?_, ?_⟩
    · unfold PoSh0 at q1 ⊢
      rw [a1, a2]
      simp only [f _ _ (show (500 : Nat) ≠ 906 by decide), f _ _ (show (506 : Nat) ≠ 906 by decide), f _ _ (show (507 : Nat) ≠ 906 by decide), f _ _ (show (508 : Nat) ≠ 906 by decide), f _ _ (show (509 : Nat) ≠ 906 by decide), f _ _ (show (510 : Nat) ≠ 906 by decide), f _ _ (show (511 : Nat) ≠ 906 by decide), f _ _ (show (512 : Nat) ≠ 906 by decide), f _ _ (show (513 : Nat) ≠ 906 by decide), f _ _ (show (514 : Nat) ≠ 906 by decide), f _ _ (show (515 : Nat) ≠ 906 by decide), f _ _ (show (516 : Nat) ≠ 906 by decide), f _ _ (show (517 : Nat) ≠ 906 by decide), f _ _ (show (518 : Nat) ≠ 906 by decide), f _ _ (show (519 : Nat) ≠ 906 by decide)]
      exact q1
    · unfold LwSh at q2 ⊢
      rw [a1, a2, f _ _ (show (400 : Nat) ≠ 906 by decide), f _ _ (show (402 : Nat) ≠ 906 by decide)]
      exact q2
    · unfold StSh at q3 ⊢
      rw [a1, a2]
      simp only [f _ _ (show (701 : Nat) ≠ 906 by decide), f _ _ (show (702 : Nat) ≠ 906 by decide), f _ _ (show (703 : Nat) ≠ 906 by decide), f _ _ (show (704 : Nat) ≠ 906 by decide), f _ _ (show (705 : Nat) ≠ 906 by decide), f _ _ (show (706 : Nat) ≠ 906 by decide), f _ _ (show (707 : Nat) ≠ 906 by decide), f _ _ (show (708 : Nat) ≠ 906 by decide)]
      exact q3
theorem m_adv {d n b : Nat} {g : AH} {T : Nat → Nat} (c : MX g n T b) : ∃ k, am_C PG (d + 2) 166 [.ref 348] g = some (none, k) ∧ MQt g k ∧ MX k n T (nxt n T b) := by
  obtain ⟨c6, c7, c8⟩ := c
  have he := tkE_le (T := T) c8
  obtain ⟨k, k1, k2, k3⟩ := c_mtok (d := d) c6 c7.2.1 he.1
  exact ⟨k, k1, k2, k2.tq c6, k3, (nxt_le c8).1⟩
