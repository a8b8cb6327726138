/-! The class's tape: a sign, a NUMBER. -/
theorem nI_subN {a b : Nat} (h : b ≤ a) : nI a - nI b = nI (a - b) := by
  have := nI_add (a - b) b
  rw [show a - b + b = a by omega] at this
  rw [← this]
  exact Int32.add_sub_cancel _ _
theorem am_nar5 {c : Nat} (h : c ≤ 65535) (x : Option Res) : am_nar 5 (nI c) x = x := by
  show (if nI c < 0 ∨ 65535 < nI c then none else x) = x
  rw [if_neg]
  intro z
  rcases z with z | z
  · exact nI_nlt (b := 0) (by omega) (by omega) z
  · exact (show ¬ nI 65535 < nI c from nI_nlt (by omega) (by omega)) z
def bSg (c : Nat) : Bool := decide (c = 40 ∨ c = 41 ∨ c = 42 ∨ c = 43 ∨ c = 45 ∨ c = 59 ∨ c = 60 ∨ c = 61)
def SGh (h : AH) (i c : Nat) : AH := if bSg c then sFI (sFI (sFI h 907 1 (nI c)) 908 1 (nI (i + 1))) 902 1 3 else sFI (sFI (sFI (sFI h 907 1 (nI c)) 908 1 (nI (i + 1))) 902 1 4) 907 1 0
theorem c_sign {d n i : Nat} {h : AH} {T : Nat → Nat} (hp : Tp h n T) (h8 : hFI h 908 1 = nI i) (hi : i < n) : am_C PG (d + 1) 119 [.ref 1] h = some (none, SGh h i (T i)) := by
  obtain ⟨k1, f1, k2, n2, hn, l1, hT⟩ := hp
  obtain ⟨t1, t2⟩ := hT i hi
  have ei : ∀ x, am_in (nI i) 1000 x = x := am_inN (by omega) (by decide)
  have ti : Int32.toNatClampNeg (nI i) = i := nI_clamp (by omega)
  have a5 := am_nar5 (c := T i) (by omega)
  have a0 : ∀ x, am_nar 5 0 x = x := am_nar5 (c := 0) (by omega)
  have e8 : hFI (sFI h 907 1 (nI (T i))) 908 1 = nI i := (sFI_o _ _ (Or.inl (by decide))).trans h8
  have e7 : hFI (sFI (sFI h 907 1 (nI (T i))) 908 1 (nI (i + 1))) 907 1 = nI (T i) := (sFI_o _ _ (Or.inl (by decide))).trans (sFI_at _ _ _ _)
  have et : Int32.toInt (nI (T i)) = (T i : Int) := nI_toInt (by omega)
  unfold SGh
  rw [q_X9_takeSign]
  simp only [am_kd, rd_hK_sFI, k1, k2, n2, f1, if_true, bR_s, h8, ei, ti, t2, a5, a0, am_let_e, e8, nI_1, e7, et]
  clear e7 e8 a5 et t2
  generalize T i = c at t1 ⊢
  unfold bSg
  by_cases c40 : c = 40
  · rw [if_pos (by omega)]
    rw [decide_eq_true (by omega), if_pos rfl]
  rw [if_neg (by omega)]
  by_cases c41 : c = 41
  · rw [if_pos (by omega)]
    rw [decide_eq_true (by omega), if_pos rfl]
  rw [if_neg (by omega)]
  by_cases c42 : c = 42
  · rw [if_pos (by omega)]
    rw [decide_eq_true (by omega), if_pos rfl]
  rw [if_neg (by omega)]
  by_cases c43 : c = 43
  · rw [if_pos (by omega)]
    rw [decide_eq_true (by omega), if_pos rfl]
  rw [if_neg (by omega)]
  by_cases c44 : c = 44
  · rw [if_pos (by omega)]
    rw [decide_eq_false (by omega), if_neg (by decide)]
  rw [if_neg (by omega)]
  by_cases c45 : c = 45
  · rw [if_pos (by omega)]
    rw [decide_eq_true (by omega), if_pos rfl]
  rw [if_neg (by omega)]
  by_cases c46 : c = 46
  · rw [if_pos (by omega)]
    rw [decide_eq_false (by omega), if_neg (by decide)]
  rw [if_neg (by omega)]
  by_cases c47 : c = 47
  · rw [if_pos (by omega)]
    rw [decide_eq_false (by omega), if_neg (by decide)]
  rw [if_neg (by omega)]
  by_cases c48 : c = 48
  · rw [if_pos (by omega)]
    rw [decide_eq_false (by omega), if_neg (by decide)]
  rw [if_neg (by omega)]
  by_cases c49 : c = 49
  · rw [if_pos (by omega)]
    rw [decide_eq_false (by omega), if_neg (by decide)]
  rw [if_neg (by omega)]
  by_cases c50 : c = 50
  · rw [if_pos (by omega)]
    rw [decide_eq_false (by omega), if_neg (by decide)]
  rw [if_neg (by omega)]
  by_cases c51 : c = 51
  · rw [if_pos (by omega)]
    rw [decide_eq_false (by omega), if_neg (by decide)]
  rw [if_neg (by omega)]
  by_cases c52 : c = 52
  · rw [if_pos (by omega)]
    rw [decide_eq_false (by omega), if_neg (by decide)]
  rw [if_neg (by omega)]
  by_cases c53 : c = 53
  · rw [if_pos (by omega)]
    rw [decide_eq_false (by omega), if_neg (by decide)]
  rw [if_neg (by omega)]
  by_cases c54 : c = 54
  · rw [if_pos (by omega)]
    rw [decide_eq_false (by omega), if_neg (by decide)]
  rw [if_neg (by omega)]
  by_cases c55 : c = 55
  · rw [if_pos (by omega)]
    rw [decide_eq_false (by omega), if_neg (by decide)]
  rw [if_neg (by omega)]
  by_cases c56 : c = 56
  · rw [if_pos (by omega)]
    rw [decide_eq_false (by omega), if_neg (by decide)]
  rw [if_neg (by omega)]
  by_cases c57 : c = 57
  · rw [if_pos (by omega)]
    rw [decide_eq_false (by omega), if_neg (by decide)]
  rw [if_neg (by omega)]
  by_cases c58 : c = 58
  · rw [if_pos (by omega)]
    rw [decide_eq_false (by omega), if_neg (by decide)]
  rw [if_neg (by omega)]
  by_cases c59 : c = 59
  · rw [if_pos (by omega)]
    rw [decide_eq_true (by omega), if_pos rfl]
  rw [if_neg (by omega)]
  by_cases c60 : c = 60
  · rw [if_pos (by omega)]
    rw [decide_eq_true (by omega), if_pos rfl]
  rw [if_neg (by omega)]
  by_cases c61 : c = 61
  · rw [if_pos (by omega)]
    rw [decide_eq_true (by omega), if_pos rfl]
  rw [if_neg (by omega)]
  rw [decide_eq_false (by omega), if_neg (by decide)]
def NH (h : AH) (j : Nat) (v : Int32) : AH := sFI (sFI h 904 1 v) 908 1 (nI j)
theorem NH_4 (h : AH) (j : Nat) (v w : Int32) : sFI (NH h j v) 904 1 w = NH h j w := by
  unfold NH
  rw [sFI_comm _ _ _ (Or.inl (show (908 : Nat) ≠ 904 by decide)), sFI_sFI]
theorem NH_8 (h : AH) (j i : Nat) (v : Int32) : sFI (NH h j v) 908 1 (nI i) = NH h i v := by
  unfold NH
  rw [sFI_sFI]
theorem NH_v (h : AH) (j : Nat) (v : Int32) : hFI (NH h j v) 904 1 = v := by
  unfold NH
  rw [sFI_o _ _ (Or.inl (by decide)), sFI_at]
theorem NH_n (h : AH) (j : Nat) (v : Int32) : hFI (NH h j v) 908 1 = nI j := sFI_at _ _ _ _
theorem NH_o (h : AH) (j : Nat) (v : Int32) {k a : Nat} (e : (k ≠ 904 ∧ k ≠ 908) ∨ a ≠ 1) : hFI (NH h j v) k a = hFI h k a := by
  unfold NH
  rw [sFI_o _ _ (by omega), sFI_o _ _ (by omega)]
theorem NH_tail {e i : Nat} {h' : AH} (k1 : hK h' 1 = 10) (e8 : hFI h' 908 1 = nI e) (e3 : hFI h' 903 1 = nI i) (hie : i ≤ e) (he : e ≤ 1000) : (if (4 : Int32) < hFI h' 908 1 - hFI h' 903 1 then am_kd h' 1 10 (am_let (sFI h' 902 1 (4 : Int32)) fun h2 => (some (none, h2) : Option Res)) else am_kd h' 1 10 (am_let (sFI h' 902 1 (2 : Int32)) fun h1 => some (none, h1))) = some (none, sFI h' 902 1 (if 4 < e - i then 4 else 2)) := by
  rw [e8, e3, nI_subN hie, am_kd_t k1, am_kd_t k1]
  by_cases c : 4 < e - i
  · rw [if_pos (show (4 : Int32) < nI (e - i) from (nI_lt c (by omega) : nI 4 < nI (e - i))), if_pos c]
    rfl
  · rw [if_neg (show ¬ (4 : Int32) < nI (e - i) from (nI_nlt (by omega) (by omega) : ¬ nI 4 < nI (e - i))), if_neg c]
    rfl
theorem c_num0 {d n i : Nat} {h : AH} {T : Nat → Nat} (hp : Tp h n T) (h3 : hFI h 903 1 = nI i) : ∀ k j, j + k = n → i ≤ j → am_R PG (d + 2) 118 10 [some (.ref 1), some (.int (nI j))] [] (NH h j (numW T i (j - i))) = some (none, sFI (NH h (scn bDi T k j) (numW T i (scn bDi T k j - i))) 902 1 (if 4 < scn bDi T k j - i then 4 else 2))
  | 0, j, hj, hij => by
    obtain ⟨k1, f1, k2, n2, hn, l1, hT⟩ := hp
    have w1 : hK (NH h j (numW T i (j - i))) 1 = 10 := k1
    have e1 : hFI (NH h j (numW T i (j - i))) 901 1 = nI n := (NH_o _ _ _ (Or.inl ⟨by decide, by decide⟩)).trans l1
    have e3 : hFI (NH h j (numW T i (j - i))) 903 1 = nI i := (NH_o _ _ _ (Or.inl ⟨by decide, by decide⟩)).trans h3
    have tl := NH_tail w1 (NH_n _ _ _) e3 hij (by omega)
    rw [q_X9_takeNumber_10, am_kd_t w1, e1, if_neg (nI_nlt (by omega) (by omega)), am_kd_t w1, am_kd_t w1]
    exact tl
  | k + 1, j, hj, hij => by
    have ih := c_num0 (d := d) hp h3 k (j + 1) (by omega) (by omega)
    obtain ⟨k1, f1, k2, n2, hn, l1, hT⟩ := hp
    obtain ⟨t1, t2⟩ := hT j (by omega)
    have w1 : hK (NH h j (numW T i (j - i))) 1 = 10 := k1
    have w2 : hFR (NH h j (numW T i (j - i))) 900 1 = some 2 := f1
    have w3 : hK (NH h j (numW T i (j - i))) 2 = 51 := k2
    have w4 : hLN (NH h j (numW T i (j - i))) 2 = 1000 := n2
    have w5 : hAI (NH h j (numW T i (j - i))) 2 j = nI (T j) := t2
    have w6 : ∀ v, hK (NH h j v) 1 = 10 := fun v => k1
    have e1 : hFI (NH h j (numW T i (j - i))) 901 1 = nI n := (NH_o _ _ _ (Or.inl ⟨by decide, by decide⟩)).trans l1
    have e3 : hFI (NH h j (numW T i (j - i))) 903 1 = nI i := (NH_o _ _ _ (Or.inl ⟨by decide, by decide⟩)).trans h3
    have ei : ∀ x, am_in (nI j) 1000 x = x := am_inN (by omega) (by decide)
    have ti : Int32.toNatClampNeg (nI j) = j := nI_clamp (by omega)
    have kd := c_digit (d := d) (h := NH h j (numW T i (j - i))) t1
    have e5 : (nI j < nI n) = True := eq_true (nI_lt (by omega) (by omega))
    by_cases c : bDi (T j) = true
    · rw [c, if_pos rfl] at kd
      have z1 : ((1 : Int32) = 0) = False := eq_false (by decide)
      have es : scn bDi T (k + 1) j = scn bDi T k (j + 1) := by
        show (if bDi (T j) then scn bDi T k (j + 1) else j) = _
        rw [if_pos c]
      have en : numW T i (j - i) * 10 + (nI (T j) - 48) = numW T i (j + 1 - i) := by
        rw [show j + 1 - i = (j - i) + 1 by omega]
        show _ = numW T i (j - i) * 10 + (nI (T (i + (j - i))) - 48)
        rw [show i + (j - i) = j by omega]
      rw [es, ← ih, q_X9_takeNumber_10]
      simp only [am_kd, w1, w2, w3, w4, w5, w6, e1, e5, if_true, bR_s, ei, ti, kd, bI_s, z1, if_false, NH_v, NH_n, NH_4, NH_8, am_let_e, nI_1, en]
    · have c' : bDi (T j) = false := by
        cases hb : bDi (T j)
        · rfl
        · exact absurd hb c
      rw [c', if_neg (by decide)] at kd
      have z0 : ((0 : Int32) = 0) = True := eq_true rfl
      have es : scn bDi T (k + 1) j = j := by
        show (if bDi (T j) then scn bDi T k (j + 1) else j) = _
        rw [if_neg c]
      have tl := NH_tail w1 (NH_n _ _ _) e3 hij (by omega)
      rw [es, q_X9_takeNumber_10, am_kd_t w1, e1, if_pos (nI_lt (by omega) (by omega)), am_kd_t w1, w2, bR_s, am_kd_t w3, w4, ei, ti, w5, kd, bI_s, if_pos rfl, am_kd_t w1, am_kd_t w1]
      exact tl
theorem c_num {d n i : Nat} {h : AH} {T : Nat → Nat} (hp : Tp h n T) (h3 : hFI h 903 1 = nI i) (h8 : hFI h 908 1 = nI i) (hi : i ≤ n) : am_C PG (d + 2) 118 [.ref 1] h = some (none, sFI (NH h (scn bDi T (n - i) i) (numW T i (scn bDi T (n - i) i - i))) 902 1 (if 4 < scn bDi T (n - i) i - i then 4 else 2)) := by
  have k := c_num0 (d := d) hp h3 (n - i) i (by omega) (Nat.le_refl _)
  have e8 : hFI (sFI h 904 1 0) 908 1 = nI i := (sFI_o _ _ (Or.inl (by decide))).trans h8
  have e : NH h i (numW T i (i - i)) = sFI h 904 1 0 := by
    rw [Nat.sub_self]
    unfold NH
    show sFI (sFI h 904 1 0) 908 1 (nI i) = _
    rw [← e8]
    exact AH_ext rfl (am_up2_self _ _ _) rfl rfl rfl rfl rfl rfl rfl
  rw [e] at k
  have k1 := hp.1
  have w1 : hK (sFI h 904 1 0) 1 = 10 := k1
  rw [q_X9_takeNumber, am_kd_t k1, am_let_e, am_kd_t w1, e8]
  exact k
