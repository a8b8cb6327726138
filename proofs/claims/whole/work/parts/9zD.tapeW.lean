/-! The class's tape: a WORD; what it means by itself. -/
theorem lg0 (x y : Int64) : (lg_cmp x y = 0) = (x = y) := by
  unfold lg_cmp
  by_cases c1 : x > y
  · rw [if_pos c1]
    refine propext ⟨fun z => absurd z (by decide), fun z => ?_⟩
    subst z
    exact absurd c1 (Int64.lt_irrefl)
  · rw [if_neg c1]
    by_cases c2 : x = y
    · rw [if_pos c2]
      exact propext ⟨fun _ => c2, fun _ => rfl⟩
    · rw [if_neg c2]
      exact propext ⟨fun z => absurd z (by decide), fun z => absurd z c2⟩
/-- Word.of: k more words from the i-th on -/
def wdo (s : Int64) : Nat → Nat → Nat
  | 0, _ => nul
  | k + 1, i => if lN (wsp.getD i 0) = s then 1000000 + i else wdo s k (i + 1)
theorem c_of0 {d : Nat} {h : AH} (hw : WdSh h) (s : Int64) : ∀ k i, i + k = 31 → am_R PG (d + 1) 123 2 [some (.long s), none, some (.int (nI i))] [] h = some (some (.ref (wdo s k i)), h)
  | 0, i, hi => by
    obtain ⟨w1, w2, w3⟩ := hw
    have e : i = 31 := by omega
    have e5 : (nI i < Int32.ofNat 31) = False := eq_false (nI_nlt (b := 31) (by omega) (by omega))
    rw [q_X10_of_2]
    simp only [am_kd, w1, w2, if_true, e5, if_false]
    rfl
  | k + 1, i, hi => by
    have ih := c_of0 (d := d) hw s k (i + 1) (by omega)
    obtain ⟨w1, w2, w3⟩ := hw
    obtain ⟨t1, t2, t3, t4⟩ := w3 i (by omega)
    have e5 : (nI i < Int32.ofNat 31) = True := eq_true (nI_lt (b := 31) (by omega) (by omega))
    have ei : ∀ x, am_in (nI i) 31 x = x := am_inN (by omega) (by decide)
    have ti : Int32.toNatClampNeg (nI i) = i := nI_clamp (by omega)
    rw [q_X10_of_2]
    simp only [am_kd, w1, w2, if_true, e5, ei, ti, t1, bR_s, t2, t3, lg0, nI_1]
    show _ = some (some (Value.ref (if lN (wsp.getD i 0) = s then 1000000 + i else wdo s k (i + 1))), h)
    by_cases c : lN (wsp.getD i 0) = s
    · rw [if_pos c, if_pos c]
    · rw [if_neg c, if_neg c]
      exact ih
theorem c_of {d : Nat} {h : AH} (hw : WdSh h) (s : Int64) : am_C PG (d + 1) 123 [.long s] h = some (some (.ref (wdo s 31 0)), h) := by
  rw [q_X10_of]
  exact c_of0 hw s 31 0 rfl
/-- the WORD spelt by m letters from i on -/
def spW (T : Nat → Nat) (i : Nat) : Nat → Int64
  | 0 => 0
  | m + 1 => spW T i m * 27 + Int32.toInt64 ((nI (T (i + m)) - 97) + 1)
theorem c_spell {d : Nat} {h : AH} (s : Int64) (c : Int32) : am_C PG (d + 1) 112 [.long s, .int c] h = some (some (.long (s * 27 + Int32.toInt64 ((c - 97) + 1))), h) := q_X9_spell d s c h
def WH (h : AH) (j : Nat) (s : Int64) : AH := sFJ (sFI h 908 1 (nI j)) 905 1 s
theorem WH_5 (h : AH) (j : Nat) (s t : Int64) : sFJ (WH h j s) 905 1 t = WH h j t := AH_ext rfl rfl (am_up2_up2 _ _ _ _ _) rfl rfl rfl rfl rfl rfl
theorem WH_8 (h : AH) (j i : Nat) (s : Int64) : sFI (WH h j s) 908 1 (nI i) = WH h i s := AH_ext rfl (am_up2_up2 _ _ _ _ _) rfl rfl rfl rfl rfl rfl rfl
theorem WH_s (h : AH) (j : Nat) (s : Int64) : hFJ (WH h j s) 905 1 = s := by
  unfold WH
  rw [rd_hFJ_sFJ]
  unfold am_up2
  rw [if_pos ⟨rfl, rfl⟩]
theorem WH_n (h : AH) (j : Nat) (s : Int64) : hFI (WH h j s) 908 1 = nI j := by
  unfold WH
  rw [rd_hFI_sFJ]
  exact sFI_at _ _ _ _
theorem WH_o (h : AH) (j : Nat) (s : Int64) {k a : Nat} (e : k ≠ 908 ∨ a ≠ 1) : hFI (WH h j s) k a = hFI h k a := by
  unfold WH
  rw [rd_hFI_sFJ]
  exact sFI_o _ _ e
def WR (H : AH) (m : Nat) (s : Int64) : AH := if 8 < m then sFI H 902 1 4 else sFR (sFI H 902 1 1) 906 1 (am_on (wdo s 31 0))
theorem WdSh.fi {h : AH} (hw : WdSh h) (k : Nat) (v : Int32) : WdSh (sFI h k 1 v) := WdSh.to (h := h) rfl rfl rfl (fun _ _ _ => rfl) (fun a ha => sFI_o _ _ (Or.inr (by omega))) hw
theorem WdSh.fj {h : AH} (hw : WdSh h) (k : Nat) (v : Int64) : WdSh (sFJ h k 1 v) := WdSh.to (h := h) rfl rfl rfl (fun j a ha => by
  rw [rd_hFJ_sFJ]
  unfold am_up2
  rw [if_neg (by omega)]) (fun _ _ => rfl) hw
theorem WdSh.fr' {h : AH} (hw : WdSh h) (k : Nat) (v : Option Nat) : WdSh (sFR h k 1 v) := WdSh.to (h := h) rfl rfl rfl (fun _ _ _ => rfl) (fun _ _ => rfl) hw
theorem WH_tail {d e i : Nat} {h' : AH} {s : Int64} (hw : WdSh h') (k1 : hK h' 1 = 10) (e8 : hFI h' 908 1 = nI e) (e3 : hFI h' 903 1 = nI i) (e9 : hFJ h' 905 1 = s) (hie : i ≤ e) (he : e ≤ 1000) : (if (8 : Int32) < hFI h' 908 1 - hFI h' 903 1 then am_kd h' 1 10 (am_let (sFI h' 902 1 (4 : Int32)) fun h5 => am_kd h5 1 10 (if hFI h5 902 1 = (1 : Int32) then (am_kd h5 1 10 (bA (am_C PG (d + 1) 123 [.long (hFJ h5 905 1)] h5) fun v7 h6 => am_kd h6 1 10 (am_let (sFR h6 906 1 (am_on v7)) fun h8 => (some (none, h8) : Option Res)))) else some (none, h5))) else am_kd h' 1 10 (am_let (sFI h' 902 1 (1 : Int32)) fun h1 => am_kd h1 1 10 (if hFI h1 902 1 = (1 : Int32) then (am_kd h1 1 10 (bA (am_C PG (d + 1) 123 [.long (hFJ h1 905 1)] h1) fun v3 h2 => am_kd h2 1 10 (am_let (sFR h2 906 1 (am_on v3)) fun h4 => (some (none, h4) : Option Res)))) else some (none, h1)))) = some (none, WR h' (e - i) s) := by
  unfold WR
  rw [e8, e3, nI_subN hie, am_kd_t k1, am_kd_t k1]
  by_cases c : 8 < e - i
  · have w1 : hK (sFI h' 902 1 4) 1 = 10 := k1
    rw [if_pos (show (8 : Int32) < nI (e - i) from (nI_lt c (by omega) : nI 8 < nI (e - i))), if_pos c, am_let_e, am_kd_t w1, sFI_at, if_neg (by decide)]
  · have w1 : hK (sFI h' 902 1 1) 1 = 10 := k1
    have w2 : hFJ (sFI h' 902 1 1) 905 1 = s := e9
    rw [if_neg (show ¬ (8 : Int32) < nI (e - i) from (nI_nlt (by omega) (by omega) : ¬ nI 8 < nI (e - i))), if_neg c, am_let_e, am_kd_t w1, sFI_at, if_pos rfl, am_kd_t w1, w2, c_of (hw.fi 902 1), bA_s, am_kd_t w1, am_let_e]
theorem c_word0 {d n i : Nat} {h : AH} {T : Nat → Nat} (hp : Tp h n T) (hw : WdSh h) (h3 : hFI h 903 1 = nI i) : ∀ k j, j + k = n → i ≤ j → am_R PG (d + 2) 117 10 [some (.ref 1), some (.int (nI j))] [] (WH h j (spW T i (j - i))) = some (none, WR (WH h (scn bLe T k j) (spW T i (scn bLe T k j - i))) (scn bLe T k j - i) (spW T i (scn bLe T k j - i)))
  | 0, j, hj, hij => by
    obtain ⟨k1, f1, k2, n2, hn, l1, hT⟩ := hp
    have w1 : hK (WH h j (spW T i (j - i))) 1 = 10 := k1
    have e1 : hFI (WH h j (spW T i (j - i))) 901 1 = nI n := (WH_o _ _ _ (Or.inl (by decide))).trans l1
    have e3 : hFI (WH h j (spW T i (j - i))) 903 1 = nI i := (WH_o _ _ _ (Or.inl (by decide))).trans h3
    have tl := WH_tail (d := d) (hw := (hw.fi 908 (nI j)).fj 905 (spW T i (j - i))) w1 (WH_n _ _ _) e3 (WH_s _ _ _) hij (by omega)
    rw [q_X9_takeWord_10, am_kd_t w1, e1, if_neg (nI_nlt (by omega) (by omega)), am_kd_t w1, am_kd_t w1]
    exact tl
  | k + 1, j, hj, hij => by
    have ih := c_word0 (d := d) hp hw h3 k (j + 1) (by omega) (by omega)
    obtain ⟨k1, f1, k2, n2, hn, l1, hT⟩ := hp
    obtain ⟨t1, t2⟩ := hT j (by omega)
    have w1 : hK (WH h j (spW T i (j - i))) 1 = 10 := k1
    have w2 : hFR (WH h j (spW T i (j - i))) 900 1 = some 2 := f1
    have w3 : hK (WH h j (spW T i (j - i))) 2 = 51 := k2
    have w4 : hLN (WH h j (spW T i (j - i))) 2 = 1000 := n2
    have w5 : hAI (WH h j (spW T i (j - i))) 2 j = nI (T j) := t2
    have w6 : ∀ v, hK (WH h j v) 1 = 10 := fun v => k1
    have e1 : hFI (WH h j (spW T i (j - i))) 901 1 = nI n := (WH_o _ _ _ (Or.inl (by decide))).trans l1
    have e3 : hFI (WH h j (spW T i (j - i))) 903 1 = nI i := (WH_o _ _ _ (Or.inl (by decide))).trans h3
    have ei : ∀ x, am_in (nI j) 1000 x = x := am_inN (by omega) (by decide)
    have ti : Int32.toNatClampNeg (nI j) = j := nI_clamp (by omega)
    have kd := c_letter (d := d) (h := WH h j (spW T i (j - i))) t1
    have ks := c_spell (d := d) (h := WH h j (spW T i (j - i))) (spW T i (j - i)) (nI (T j))
    have e5 : (nI j < nI n) = True := eq_true (nI_lt (by omega) (by omega))
    by_cases c : bLe (T j) = true
    · rw [c, if_pos rfl] at kd
      have z1 : ((1 : Int32) = 0) = False := eq_false (by decide)
      have es : scn bLe T (k + 1) j = scn bLe T k (j + 1) := by
        show (if bLe (T j) then scn bLe T k (j + 1) else j) = _
        rw [if_pos c]
      have en : spW T i (j - i) * 27 + Int32.toInt64 ((nI (T j) - 97) + 1) = spW T i (j + 1 - i) := by
        rw [show j + 1 - i = (j - i) + 1 by omega]
        show _ = spW T i (j - i) * 27 + Int32.toInt64 ((nI (T (i + (j - i))) - 97) + 1)
        rw [show i + (j - i) = j by omega]
      rw [en] at ks
      rw [es, ← ih, q_X9_takeWord_10]
      simp only [am_kd, w1, w2, w3, w4, w5, w6, e1, e5, if_true, bR_s, ei, ti, kd, bI_s, z1, if_false, WH_s, WH_n, ks, bJ_s, WH_5, WH_8, am_let_e, nI_1]
    · have c' : bLe (T j) = false := by
        cases hb : bLe (T j)
        · rfl
        · exact absurd hb c
      rw [c', if_neg (by decide)] at kd
      have es : scn bLe T (k + 1) j = j := by
        show (if bLe (T j) then scn bLe T k (j + 1) else j) = _
        rw [if_neg c]
      have tl := WH_tail (d := d) (hw := (hw.fi 908 (nI j)).fj 905 (spW T i (j - i))) w1 (WH_n _ _ _) e3 (WH_s _ _ _) hij (by omega)
      rw [es, q_X9_takeWord_10, am_kd_t w1, e1, if_pos (nI_lt (by omega) (by omega)), am_kd_t w1, w2, bR_s, am_kd_t w3, w4, ei, ti, w5, kd, bI_s, if_pos rfl, am_kd_t w1, am_kd_t w1]
      exact tl
theorem c_word {d n i : Nat} {h : AH} {T : Nat → Nat} (hp : Tp h n T) (hw : WdSh h) (h3 : hFI h 903 1 = nI i) (h8 : hFI h 908 1 = nI i) (hi : i ≤ n) : am_C PG (d + 2) 117 [.ref 1] h = some (none, WR (WH h (scn bLe T (n - i) i) (spW T i (scn bLe T (n - i) i - i))) (scn bLe T (n - i) i - i) (spW T i (scn bLe T (n - i) i - i))) := by
  have k := c_word0 (d := d) hp hw h3 (n - i) i (by omega) (Nat.le_refl _)
  have e : WH h i (spW T i (i - i)) = sFJ h 905 1 0 := by
    rw [Nat.sub_self]
    unfold WH
    show sFJ (sFI h 908 1 (nI i)) 905 1 0 = _
    rw [← h8]
    exact AH_ext rfl (am_up2_self _ _ _) rfl rfl rfl rfl rfl rfl rfl
  rw [e] at k
  have k1 := hp.1
  have w1 : hK (sFJ h 905 1 0) 1 = 10 := k1
  have w2 : hFI (sFJ h 905 1 0) 908 1 = nI i := h8
  rw [q_X9_takeWord, am_kd_t k1, am_let_e, am_kd_t w1, w2]
  exact k
