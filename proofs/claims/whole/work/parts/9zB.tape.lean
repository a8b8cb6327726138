/-! The class's tape: blanks, numbers. -/
/-- the tape: n signs, T their numbers -/
def Tp (h : AH) (n : Nat) (T : Nat → Nat) : Prop := hK h 1 = 10 ∧ hFR h 900 1 = some 2 ∧ hK h 2 = 51 ∧ hLN h 2 = 1000 ∧ n ≤ 1000 ∧ hFI h 901 1 = nI n ∧ ∀ i, i < n → T i < 128 ∧ hAI h 2 i = nI (T i)
theorem Tp.to {h g : AH} {n : Nat} {T : Nat → Nat} (e1 : hK g = hK h) (e2 : hFR g 900 1 = hFR h 900 1) (e3 : hLN g = hLN h) (e4 : hFI g 901 1 = hFI h 901 1) (e5 : hAI g = hAI h) (s : Tp h n T) : Tp g n T := by
  obtain ⟨s1, s2, s3, s4, s5, s6, s7⟩ := s
  exact ⟨by rw [e1]; exact s1, by rw [e2]; exact s2, by rw [e1]; exact s3, by rw [e3]; exact s4, s5, by rw [e4]; exact s6, fun i hi => by rw [e5]; exact s7 i hi⟩
/-- the first place from i on, within k, whose sign is not one of P -/
def scn (P : Nat → Bool) (T : Nat → Nat) : Nat → Nat → Nat
  | 0, i => i
  | k + 1, i => if P (T i) then scn P T k (i + 1) else i
theorem scn_le (P : Nat → Bool) (T : Nat → Nat) : ∀ k i, i ≤ scn P T k i ∧ scn P T k i ≤ i + k
  | 0, i => ⟨Nat.le_refl _, Nat.le_refl _⟩
  | k + 1, i => by
    unfold scn
    by_cases c : P (T i) = true
    · rw [if_pos c]
      have := scn_le P T k (i + 1)
      omega
    · rw [if_neg c]
      omega
def bBl (c : Nat) : Bool := decide (c = 32 ∨ c = 10)
def bLe (c : Nat) : Bool := decide (97 ≤ c ∧ c ≤ 122)
def bDi (c : Nat) : Bool := decide (48 ≤ c ∧ c ≤ 57)
theorem c_letter {d c : Nat} {h : AH} (hc : c < 128) : am_C PG (d + 1) 121 [.int (nI c)] h = some (some (.int (if bLe c then 1 else 0)), h) := by
  rw [q_X9_isLetter, am_nar4_0, am_nar4_1]
  unfold bLe
  by_cases c1 : c < 97
  · rw [if_pos (show nI c < (97 : Int32) from nI_lt (b := 97) c1 (by decide)), decide_eq_false (by omega)]
    rfl
  · rw [if_neg (show ¬ nI c < (97 : Int32) from nI_nlt (b := 97) (by omega) (by omega))]
    by_cases c2 : 122 < c
    · rw [if_pos (show (122 : Int32) < nI c from (nI_lt c2 (by omega) : nI 122 < nI c)), decide_eq_false (by omega)]
      rfl
    · rw [if_neg (show ¬ (122 : Int32) < nI c from (nI_nlt (by omega) (by omega) : ¬ nI 122 < nI c)), decide_eq_true (by omega)]
      rfl
theorem c_digit {d c : Nat} {h : AH} (hc : c < 128) : am_C PG (d + 1) 122 [.int (nI c)] h = some (some (.int (if bDi c then 1 else 0)), h) := by
  rw [q_X9_isDigit, am_nar4_0, am_nar4_1]
  unfold bDi
  by_cases c1 : c < 48
  · rw [if_pos (show nI c < (48 : Int32) from nI_lt (b := 48) c1 (by decide)), decide_eq_false (by omega)]
    rfl
  · rw [if_neg (show ¬ nI c < (48 : Int32) from nI_nlt (b := 48) (by omega) (by omega))]
    by_cases c2 : 57 < c
    · rw [if_pos (show (57 : Int32) < nI c from (nI_lt c2 (by omega) : nI 57 < nI c)), decide_eq_false (by omega)]
      rfl
    · rw [if_neg (show ¬ (57 : Int32) < nI c from (nI_nlt (by omega) (by omega) : ¬ nI 57 < nI c)), decide_eq_true (by omega)]
      rfl
theorem c_skip0 {d n : Nat} {h : AH} {T : Nat → Nat} (hp : Tp h n T) : ∀ k j, j + k = n → am_R PG (d + 1) 116 5 [some (.ref 1), some (.int (nI j))] [] (sFI h 908 1 (nI j)) = some (none, sFI h 908 1 (nI (scn bBl T k j)))
  | 0, j, hj => by
    obtain ⟨k1, f1, k2, n2, hn, l1, hT⟩ := hp
    have e1 : hFI (sFI h 908 1 (nI j)) 901 1 = nI n := (sFI_o _ _ (Or.inl (by decide))).trans l1
    have e5 : (nI j < nI n) = False := eq_false (nI_nlt (by omega) (by omega))
    rw [q_X9_skipBlanks_5]
    simp only [am_kd, rd_hK_sFI, k1, if_true, e1, e5, if_false]
    rfl
  | k + 1, j, hj => by
    have ih := c_skip0 (d := d) hp k (j + 1) (by omega)
    obtain ⟨k1, f1, k2, n2, hn, l1, hT⟩ := hp
    have e1 : hFI (sFI h 908 1 (nI j)) 901 1 = nI n := (sFI_o _ _ (Or.inl (by decide))).trans l1
    have e2 : hFI (sFI h 908 1 (nI j)) 908 1 = nI j := sFI_at _ _ _ _
    have e5 : (nI j < nI n) = True := eq_true (nI_lt (by omega) (by omega))
    have ei : ∀ x, am_in (nI j) 1000 x = x := am_inN (by omega) (by decide)
    have ti : Int32.toNatClampNeg (nI j) = j := nI_clamp (by omega)
    obtain ⟨t1, t2⟩ := hT j (by omega)
    rw [q_X9_skipBlanks_5]
    simp only [am_kd, rd_hK_sFI, rd_hFR_sFI, rd_hLN_sFI, rd_hAI_sFI, k1, k2, n2, f1, if_true, e1, e2, e5, bR_s, ei, ti, t2, am_let_e, nI_1, sFI_sFI]
    by_cases c1 : T j = 32
    · have z : (nI (T j) = (32 : Int32)) = True := eq_true (by rw [c1]; rfl)
      have zz : bBl (T j) = true := decide_eq_true (Or.inl c1)
      simp only [z, if_true]
      rw [ih]
      unfold scn
      rw [if_pos zz]
      cases k <;> rfl
    · have z : (nI (T j) = (32 : Int32)) = False := eq_false (by intro z; exact c1 ((nI_eq (b := 32) (by omega) (by decide)).1 z))
      simp only [z, if_false]
      by_cases c2 : T j = 10
      · have z2 : (nI (T j) = (10 : Int32)) = True := eq_true (by rw [c2]; rfl)
        have zz : bBl (T j) = true := decide_eq_true (Or.inr c2)
        simp only [z2, if_true]
        rw [ih]
        unfold scn
        rw [if_pos zz]
        cases k <;> rfl
      · have z2 : (nI (T j) = (10 : Int32)) = False := eq_false (by intro z; exact c2 ((nI_eq (b := 10) (by omega) (by decide)).1 z))
        have zz : bBl (T j) = false := decide_eq_false (by omega)
        simp only [z2, if_false]
        unfold scn
        rw [zz]
        rfl
theorem c_skip {d n i : Nat} {h : AH} {T : Nat → Nat} (hp : Tp h n T) (h8 : hFI h 908 1 = nI i) (hi : i ≤ n) : am_C PG (d + 1) 116 [.ref 1] h = some (none, sFI h 908 1 (nI (scn bBl T (n - i) i))) := by
  have k := c_skip0 (d := d) hp (n - i) i (by omega)
  have e : sFI h 908 1 (nI i) = h := by
    have : sFI h 908 1 (nI i) = sFI h 908 1 (hFI h 908 1) := by rw [h8]
    rw [this]
    exact AH_ext rfl (am_up2_self _ _ _) rfl rfl rfl rfl rfl rfl rfl
  rw [e] at k
  have k1 := hp.1
  rw [q_X9_skipBlanks]
  simp only [am_kd, k1, if_true, h8]
  exact k
/-- the NUMBER told by m signs from i on -/
def numW (T : Nat → Nat) (i : Nat) : Nat → Int32
  | 0 => 0
  | m + 1 => numW T i m * 10 + (nI (T (i + m)) - 48)
