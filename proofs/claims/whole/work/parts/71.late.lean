/-! Works that will go wrong: lateWorks against late. -/
theorem bx_bit0 : ∀ b0 b1 b2 b3 b4 b5 : Bool, (bx b0 b1 b2 b3 b4 b5 >>> (nI 0 &&& 31)) &&& 1 = (if b0 = true then 1 else 0) := by decide +kernel
theorem bx_bit1 : ∀ b0 b1 b2 b3 b4 b5 : Bool, (bx b0 b1 b2 b3 b4 b5 >>> (nI 1 &&& 31)) &&& 1 = (if b1 = true then 1 else 0) := by decide +kernel
theorem bx_bit2 : ∀ b0 b1 b2 b3 b4 b5 : Bool, (bx b0 b1 b2 b3 b4 b5 >>> (nI 2 &&& 31)) &&& 1 = (if b2 = true then 1 else 0) := by decide +kernel
theorem bx_bit3 : ∀ b0 b1 b2 b3 b4 b5 : Bool, (bx b0 b1 b2 b3 b4 b5 >>> (nI 3 &&& 31)) &&& 1 = (if b3 = true then 1 else 0) := by decide +kernel
theorem bx_bit4 : ∀ b0 b1 b2 b3 b4 b5 : Bool, (bx b0 b1 b2 b3 b4 b5 >>> (nI 4 &&& 31)) &&& 1 = (if b4 = true then 1 else 0) := by decide +kernel
theorem bx_bit5 : ∀ b0 b1 b2 b3 b4 b5 : Bool, (bx b0 b1 b2 b3 b4 b5 >>> (nI 5 &&& 31)) &&& 1 = (if b5 = true then 1 else 0) := by decide +kernel
theorem bit_at (P : Nat → Bool) {j : Nat} (hj : j < 6) : (bitN P 6 >>> (nI j &&& 31)) &&& 1 = (if P j = true then 1 else 0) := by
  have : j = 0 ∨ j = 1 ∨ j = 2 ∨ j = 3 ∨ j = 4 ∨ j = 5 := by omega
  rw [bitN_6]
  rcases this with z | z | z | z | z | z <;> subst z
  · exact bx_bit0 _ _ _ _ _ _
  · exact bx_bit1 _ _ _ _ _ _
  · exact bx_bit2 _ _ _ _ _ _
  · exact bx_bit3 _ _ _ _ _ _
  · exact bx_bit4 _ _ _ _ _ _
  · exact bx_bit5 _ _ _ _ _ _
theorem bx_or0 : ∀ b0 b1 b2 b3 b4 b5 : Bool, bx b0 b1 b2 b3 b4 b5 ||| ((1 : Int32) <<< (nI 0 &&& 31)) = bx true b1 b2 b3 b4 b5 := by decide +kernel
theorem bx_or1 : ∀ b0 b1 b2 b3 b4 b5 : Bool, bx b0 b1 b2 b3 b4 b5 ||| ((1 : Int32) <<< (nI 1 &&& 31)) = bx b0 true b2 b3 b4 b5 := by decide +kernel
theorem bx_or2 : ∀ b0 b1 b2 b3 b4 b5 : Bool, bx b0 b1 b2 b3 b4 b5 ||| ((1 : Int32) <<< (nI 2 &&& 31)) = bx b0 b1 true b3 b4 b5 := by decide +kernel
theorem bx_or3 : ∀ b0 b1 b2 b3 b4 b5 : Bool, bx b0 b1 b2 b3 b4 b5 ||| ((1 : Int32) <<< (nI 3 &&& 31)) = bx b0 b1 b2 true b4 b5 := by decide +kernel
theorem bx_or4 : ∀ b0 b1 b2 b3 b4 b5 : Bool, bx b0 b1 b2 b3 b4 b5 ||| ((1 : Int32) <<< (nI 4 &&& 31)) = bx b0 b1 b2 b3 true b5 := by decide +kernel
theorem bx_or5 : ∀ b0 b1 b2 b3 b4 b5 : Bool, bx b0 b1 b2 b3 b4 b5 ||| ((1 : Int32) <<< (nI 5 &&& 31)) = bx b0 b1 b2 b3 b4 true := by decide +kernel
theorem bit_or (P : Nat → Bool) {j : Nat} (hj : j < 6) : bitN P 6 ||| ((1 : Int32) <<< (nI j &&& 31)) = bitN (fun k => decide (k = j) || P k) 6 := by
  have : j = 0 ∨ j = 1 ∨ j = 2 ∨ j = 3 ∨ j = 4 ∨ j = 5 := by omega
  rw [bitN_6, bitN_6]
  rcases this with z | z | z | z | z | z <;> subst z
  · exact bx_or0 _ _ _ _ _ _
  · exact bx_or1 _ _ _ _ _ _
  · exact bx_or2 _ _ _ _ _ _
  · exact bx_or3 _ _ _ _ _ _
  · exact bx_or4 _ _ _ _ _ _
  · exact bx_or5 _ _ _ _ _ _
theorem bx_an : ∀ b0 b1 b2 b3 b4 b5 k0 k1 k2 k3 k4 k5 : Bool, bx b0 b1 b2 b3 b4 b5 &&& (bx k0 k1 k2 k3 k4 k5 ^^^ (-1)) = bx (b0 && !k0) (b1 && !k1) (b2 && !k2) (b3 && !k3) (b4 && !k4) (b5 && !k5) := by decide +kernel
theorem bit_an {P K : Nat → Bool} {n : Nat} (hn : n ≤ 6) : bitN P n &&& (bitN K n ^^^ (-1)) = bitN (ext6 (fun j => P j && !K j) n) 6 := by
  rw [bitN_ext hn, bitN_ext hn, bitN_6, bitN_6, bitN_6, bx_an]
  have e : ∀ j, (ext6 P n j && !ext6 K n j) = ext6 (fun j => P j && !K j) n j := by
    intro j
    unfold ext6
    by_cases c : j < n
    · rw [decide_eq_true c]; rfl
    · rw [decide_eq_false c]; rfl
  rw [e, e, e, e, e, e]
/-- the least of the first n -/
def lst (B : Nat → Bool) : Nat → Int32
  | 0 => -1
  | n + 1 => if lst B n < 0 then (if B n = true then nI n else -1) else lst B n
theorem lst_neg (B : Nat → Bool) : ∀ n, n < 2 ^ 31 → (lst B n < 0 → lst B n = -1 ∧ ∀ j, j < n → B j = false) ∧ (¬ lst B n < 0 → ∃ j, j < n ∧ B j = true ∧ lst B n = nI j ∧ ∀ i, i < j → B i = false)
  | 0, _ => ⟨fun _ => ⟨rfl, fun j hj => by omega⟩, fun h => absurd (show (-1 : Int32) < 0 by decide) h⟩
  | n + 1, hn => by
    obtain ⟨i1, i2⟩ := lst_neg B n (by omega)
    show ((if lst B n < 0 then (if B n = true then nI n else -1) else lst B n) < 0 → _ ∧ _) ∧ _
    have e : lst B (n + 1) = if lst B n < 0 then (if B n = true then nI n else -1) else lst B n := rfl
    rw [e]
    by_cases c : lst B n < 0
    · obtain ⟨j1, j2⟩ := i1 c
      rw [if_pos c]
      cases c2 : B n with
      | true =>
        rw [if_pos rfl]
        exact ⟨fun z => absurd z (nI_pos (by omega)), fun _ => ⟨n, by omega, c2, rfl, j2⟩⟩
      | false =>
        rw [if_neg (by decide)]
        refine ⟨fun _ => ⟨rfl, fun j hj => ?_⟩, fun z => absurd (show (-1 : Int32) < 0 by decide) z⟩
        by_cases e : j = n
        · rw [e, c2]
        · exact j2 j (by omega)
    · rw [if_neg c]
      obtain ⟨j, h1, h2, h3, h4⟩ := i2 c
      exact ⟨fun z => absurd z c, fun _ => ⟨j, by omega, h2, h3, h4⟩⟩
theorem lst_bit {B : Nat → Bool} : bitN B 6 = 0 ↔ lst B 6 < 0 := by
  rw [bit_zero (Nat.le_refl 6)]
  constructor
  · intro h
    by_cases c : lst B 6 < 0
    · exact c
    · obtain ⟨j, h1, h2, _⟩ := (lst_neg B 6 (by decide)).2 c
      rw [h j h1] at h2
      cases h2
  · intro h
    exact ((lst_neg B 6 (by decide)).1 h).2
theorem c_lowest {d : Nat} (B : Nat → Bool) (h : AH) : am_C PG (d + 1) 5 [.int (bitN B 6)] h = some (some (.int (lst B 6)), h) := by
  have lp : ∀ i, i ≤ 6 → am_C PG (d + 1) 5 [.int (bitN B 6)] h = (if lst B i < 0 then am_R PG (d + 1) 5 2 [some (.int (bitN B 6)), some (.int (nI i))] [] h else some (some (.int (lst B i)), h)) := by
    intro i
    induction i with
    | zero => intro _; rw [q_X0_lowestBit]; rfl
    | succ i ih =>
      intro hi
      have e5 : nI i < (6 : Int32) := nI_lt (b := 6) (by omega) (by decide)
      have e : lst B (i + 1) = if lst B i < 0 then (if B i = true then nI i else -1) else lst B i := rfl
      rw [ih (by omega)]
      by_cases c : lst B i < 0
      · rw [if_pos c, q_X0_lowestBit_2, if_pos e5, bit_at B (show i < 6 by omega), nI_1, e, if_pos c]
        cases c2 : B i with
        | true =>
          have z : ¬ nI i < 0 := nI_pos (by omega)
          simp only [if_true, if_neg z]
        | false =>
          have z : ¬ (0 : Int32) = 1 := by decide
          have z2 : (-1 : Int32) < 0 := by decide
          simp only [Bool.false_eq_true, if_false, if_neg z, if_pos z2]
      · rw [if_neg c, e, if_neg c, if_neg c]
  rw [lp 6 (Nat.le_refl _)]
  by_cases c : lst B 6 < 0
  · rw [if_pos c, q_X0_lowestBit_2, if_neg (show ¬ nI 6 < (6 : Int32) from nI_nlt (b := 6) (Nat.le_refl _) (by decide)), ((lst_neg B 6 (by decide)).1 c).1]
  · rw [if_neg c]
theorem xst1_keep {do_ ti du : Nat → Int32} {bits hr : Int32} {sh : Nat → Int32} {w : Nat} {o : Int32} (h : ¬ o = 0) : xst1 do_ ti du bits hr sh w o = o := by
  unfold xst1
  rw [if_neg]
  intro z
  exact h z.1
/-- what is settled stays so -/
theorem mhour_dn {W : Int32 → Int32 → Int32 → Int32 → Int32} {M : Nat → Nat → Int32} {nc ne nw hr : Nat} {Q : MQv} {k : Nat} (h : ¬ dn Q.1 k = 0) : dn (mhour W M nc ne nw hr Q).1 k = dn Q.1 k := by
  unfold mhour dn xst
  dsimp only
  unfold cp
  by_cases c : k < nw
  · rw [if_pos c]
    exact xst1_keep h
  · rw [if_neg c]
    rfl
theorem mhours_dn {W : Int32 → Int32 → Int32 → Int32 → Int32} {M : Nat → Nat → Int32} {nc ne nw hr : Nat} {Q : MQv} {k : Nat} (h : ¬ dn Q.1 k = 0) : ∀ i, dn (mhours W M nc ne nw hr i Q).1 k = dn Q.1 k
  | 0 => rfl
  | i + 1 => by
    have ih := mhours_dn (W := W) (M := M) (nc := nc) (ne := ne) (nw := nw) (hr := hr) h i
    show dn (mhour W M nc ne nw (hr + i) (mhours W M nc ne nw hr i Q)).1 k = _
    rw [mhour_dn (by rw [ih]; exact h), ih]
/-- newly wrong -/
def nwr (D0 D : Nat → Int32) (nw : Nat) : Nat → Bool := ext6 (fun k => decide (D0 k = 0) && decide (1 < D k)) nw
theorem nwr_mono {W : Int32 → Int32 → Int32 → Int32 → Int32} {M : Nat → Nat → Int32} {nc ne nw hr : Nat} {Q : MQv} {D0 : Nat → Int32} {k : Nat} (h : nwr D0 (dn Q.1) nw k = true) : nwr D0 (dn (mhour W M nc ne nw hr Q).1) nw k = true := by
  unfold nwr ext6 at h ⊢
  rw [Bool.and_eq_true, Bool.and_eq_true, decide_eq_true_iff, decide_eq_true_iff, decide_eq_true_iff] at h ⊢
  obtain ⟨h1, h2, h3⟩ := h
  refine ⟨h1, h2, ?_⟩
  rw [mhour_dn]
  · exact h3
  · intro z
    rw [z] at h3
    exact absurd h3 (by decide)
theorem i2v : (2 : Int32).toInt = 2 := rfl
theorem SR_new {M : Nat → Nat → Int32} {W : Int32 → Int32 → Int32 → Int32 → Int32} {np nc ne nw hr hr2 i : Nat} {R T : SV} {Q : MQv} (hn : nw ≤ 6) (h : SR M np nc ne nw hr R Q) (h2 : SR M np nc ne nw hr2 T (mhours W M nc ne nw hr i Q)) : bitN (fun w => decide (dn T w = 2 ∨ dn T w = 3)) nw &&& (bitN (fun w => decide (dn R w = 2 ∨ dn R w = 3)) nw ^^^ (-1)) = bitN (nwr (dn Q.1) (dn (mhours W M nc ne nw hr i Q).1) nw) 6 := by
  rw [bit_an hn]
  obtain ⟨s1, s2, s3, s4, s5, s6, s7, s8, s9, s10, s11, s12, s13, s14, s15⟩ := h
  obtain ⟨t1, t2, t3, t4, t5, t6, t7, t8, t9, t10, t11, t12, t13, t14, t15⟩ := h2
  apply bitN_congr
  intro j hj
  unfold nwr ext6
  by_cases c : j < nw
  · rw [decide_eq_true c, Bool.true_and, Bool.true_and]
    dsimp only
    rw [s6 j c, t6 j c]
    have kp := mhours_dn (W := W) (M := M) (nc := nc) (ne := ne) (nw := nw) (hr := hr) (Q := Q) (k := j)
    rcases s11 j c with a | a | a | a
    · rw [a]
      have tt := t11 j c
      generalize dn (mhours W M nc ne nw hr i Q).1 j = x at tt ⊢
      rcases tt with b | b | b | b <;> rw [b] <;> decide
    · rw [kp (by rw [a]; decide), a]; decide
    · rw [kp (by rw [a]; decide), a]; decide
    · rw [kp (by rw [a]; decide), a]; decide
  · rw [decide_eq_false c, Bool.false_and, Bool.false_and]
