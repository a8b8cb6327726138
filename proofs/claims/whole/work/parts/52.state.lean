/-! States and posts: their shapes, a State as a value. -/
/-- a State at a -/
def StSh (h : AH) (a : Nat) : Prop := hK h a = 8 ∧ hFR h 701 a = some (a + 1) ∧ hFR h 702 a = some (a + 2) ∧ hFR h 703 a = some (a + 3) ∧ hFR h 704 a = some (a + 4) ∧ hFR h 705 a = some (a + 5) ∧ hFR h 706 a = some (a + 6) ∧ hFR h 707 a = some (a + 7) ∧ hFR h 708 a = some (a + 8) ∧ hK h (a + 1) = 50 ∧ hK h (a + 2) = 50 ∧ hK h (a + 3) = 50 ∧ hK h (a + 4) = 50 ∧ hK h (a + 5) = 50 ∧ hK h (a + 6) = 50 ∧ hK h (a + 7) = 50 ∧ hK h (a + 8) = 50 ∧ hLN h (a + 1) = 6 ∧ hLN h (a + 2) = 6 ∧ hLN h (a + 3) = 6 ∧ hLN h (a + 4) = 4 ∧ hLN h (a + 5) = 4 ∧ hLN h (a + 6) = 4 ∧ hLN h (a + 7) = 5 ∧ hLN h (a + 8) = 6
/-- a Post at p, but for its law and its first State -/
def PoSh0 (h : AH) (p : Nat) : Prop := hK h p = 6 ∧ hFR h 500 p = some (p + 1) ∧ hFR h 506 p = some (p + 2) ∧ hFR h 507 p = some (p + 3) ∧ hFR h 508 p = some (p + 4) ∧ hFR h 509 p = some (p + 5) ∧ hFR h 510 p = some (p + 6) ∧ hFR h 511 p = some (p + 7) ∧ hFR h 512 p = some (p + 8) ∧ hFR h 513 p = some (p + 9) ∧ hFR h 514 p = some (p + 10) ∧ hFR h 515 p = some (p + 11) ∧ hFR h 516 p = some (p + 12) ∧ hFR h 517 p = some (p + 13) ∧ hFR h 518 p = some (p + 14) ∧ hFR h 519 p = some (p + 17) ∧ hK h (p + 1) = 53 ∧ hK h (p + 2) = 50 ∧ hK h (p + 3) = 50 ∧ hK h (p + 4) = 50 ∧ hK h (p + 5) = 50 ∧ hK h (p + 6) = 50 ∧ hK h (p + 7) = 50 ∧ hK h (p + 8) = 50 ∧ hK h (p + 9) = 50 ∧ hK h (p + 10) = 50 ∧ hK h (p + 11) = 50 ∧ hK h (p + 12) = 50 ∧ hK h (p + 13) = 50 ∧ hLN h (p + 1) = 21 ∧ hLN h (p + 2) = 25 ∧ hLN h (p + 3) = 25 ∧ hLN h (p + 4) = 6 ∧ hLN h (p + 5) = 6 ∧ hLN h (p + 6) = 6 ∧ hLN h (p + 7) = 6 ∧ hLN h (p + 8) = 4 ∧ hLN h (p + 9) = 6 ∧ hLN h (p + 10) = 6 ∧ hLN h (p + 11) = 6 ∧ hLN h (p + 12) = 6 ∧ hLN h (p + 13) = 24
def PoSh (h : AH) (p : Nat) : Prop := PoSh0 h p ∧ LwSh h (p + 14) ∧ StSh h (p + 17)
theorem StSh.to {h g : AH} {a : Nat} (e1 : hK g = hK h) (e2 : hFR g = hFR h) (e3 : hLN g = hLN h) (s : StSh h a) : StSh g a := by
  unfold StSh at s ⊢
  rw [e1, e2, e3]
  exact s
theorem LwSh.to {h g : AH} {a : Nat} (e1 : hK g = hK h) (e2 : hFR g = hFR h) (e3 : hLN g = hLN h) (s : LwSh h a) : LwSh g a := by
  unfold LwSh at s ⊢
  rw [e1, e2, e3]
  exact s
theorem PoSh0.to {h g : AH} {a : Nat} (e1 : hK g = hK h) (e2 : hFR g = hFR h) (e3 : hLN g = hLN h) (s : PoSh0 h a) : PoSh0 g a := by
  unfold PoSh0 at s ⊢
  rw [e1, e2, e3]
  exact s
theorem PoSh.to {h g : AH} {a : Nat} (e1 : hK g = hK h) (e2 : hFR g = hFR h) (e3 : hLN g = hLN h) (s : PoSh h a) : PoSh g a := ⟨s.1.to e1 e2 e3, s.2.1.to e1 e2 e3, s.2.2.to e1 e2 e3⟩
/-- a State's value: hour, has, shown, still, where, water, dry, wells, done -/
abbrev SV : Type := Int32 × (Nat → Int32) × (Nat → Int32) × (Nat → Int32) × (Nat → Int32) × (Nat → Int32) × (Nat → Int32) × (Nat → Int32) × (Nat → Int32)
def getS (h : AH) (a : Nat) : SV := (hFI h 700 a, hAI h (a + 1), hAI h (a + 2), hAI h (a + 3), hAI h (a + 4), hAI h (a + 5), hAI h (a + 6), hAI h (a + 7), hAI h (a + 8))
def rowS (R : SV) (k : Nat) : Nat → Int32 := match k with
  | 1 => R.2.1
  | 2 => R.2.2.1
  | 3 => R.2.2.2.1
  | 4 => R.2.2.2.2.1
  | 5 => R.2.2.2.2.2.1
  | 6 => R.2.2.2.2.2.2.1
  | 7 => R.2.2.2.2.2.2.2.1
  | _ => R.2.2.2.2.2.2.2.2
def putS (h : AH) (a : Nat) (R : SV) : AH := (hK h, am_up2 (hFI h) 700 a R.1, hFJ h, hFR h, hLN h, fun b => if a < b ∧ b ≤ a + 8 then rowS R (b - a) else hAI h b, hAJ h, hAR h, hNX h)
theorem rd_hK_putS (h : AH) (a : Nat) (R : SV) : hK (putS h a R) = hK h := rfl
theorem rd_hFI_putS (h : AH) (a : Nat) (R : SV) : hFI (putS h a R) = am_up2 (hFI h) 700 a R.1 := rfl
theorem rd_hFJ_putS (h : AH) (a : Nat) (R : SV) : hFJ (putS h a R) = hFJ h := rfl
theorem rd_hFR_putS (h : AH) (a : Nat) (R : SV) : hFR (putS h a R) = hFR h := rfl
theorem rd_hLN_putS (h : AH) (a : Nat) (R : SV) : hLN (putS h a R) = hLN h := rfl
theorem rd_hAI_putS (h : AH) (a : Nat) (R : SV) : hAI (putS h a R) = fun b => if a < b ∧ b ≤ a + 8 then rowS R (b - a) else hAI h b := rfl
theorem rd_hAJ_putS (h : AH) (a : Nat) (R : SV) : hAJ (putS h a R) = hAJ h := rfl
theorem rd_hAR_putS (h : AH) (a : Nat) (R : SV) : hAR (putS h a R) = hAR h := rfl
theorem rd_hNX_putS (h : AH) (a : Nat) (R : SV) : hNX (putS h a R) = hNX h := rfl
theorem pS_row (h : AH) (a : Nat) (R : SV) {k : Nat} (h1 : 1 ≤ k) (h8 : k ≤ 8) : hAI (putS h a R) (a + k) = rowS R k := by
  rw [rd_hAI_putS]
  dsimp only
  rw [if_pos ⟨by omega, by omega⟩, Nat.add_sub_cancel_left]
theorem pS_1 (h : AH) (a : Nat) (R : SV) : hAI (putS h a R) (a + 1) = R.2.1 := pS_row h a R (by decide) (by decide)
theorem pS_2 (h : AH) (a : Nat) (R : SV) : hAI (putS h a R) (a + 2) = R.2.2.1 := pS_row h a R (by decide) (by decide)
theorem pS_3 (h : AH) (a : Nat) (R : SV) : hAI (putS h a R) (a + 3) = R.2.2.2.1 := pS_row h a R (by decide) (by decide)
theorem pS_4 (h : AH) (a : Nat) (R : SV) : hAI (putS h a R) (a + 4) = R.2.2.2.2.1 := pS_row h a R (by decide) (by decide)
theorem pS_5 (h : AH) (a : Nat) (R : SV) : hAI (putS h a R) (a + 5) = R.2.2.2.2.2.1 := pS_row h a R (by decide) (by decide)
theorem pS_6 (h : AH) (a : Nat) (R : SV) : hAI (putS h a R) (a + 6) = R.2.2.2.2.2.2.1 := pS_row h a R (by decide) (by decide)
theorem pS_7 (h : AH) (a : Nat) (R : SV) : hAI (putS h a R) (a + 7) = R.2.2.2.2.2.2.2.1 := pS_row h a R (by decide) (by decide)
theorem pS_8 (h : AH) (a : Nat) (R : SV) : hAI (putS h a R) (a + 8) = R.2.2.2.2.2.2.2.2 := pS_row h a R (by decide) (by decide)
theorem pS_far (h : AH) {a b : Nat} (R : SV) (e : b ≤ a ∨ a + 8 < b) : hAI (putS h a R) b = hAI h b := by
  rw [rd_hAI_putS]
  dsimp only
  rw [if_neg (by omega)]
theorem pS_hr (h : AH) (a : Nat) (R : SV) : hFI (putS h a R) 700 a = R.1 := by
  rw [rd_hFI_putS]
  unfold am_up2
  rw [if_pos ⟨rfl, rfl⟩]
theorem pS_fi (h : AH) {a b k : Nat} (R : SV) (e : k ≠ 700 ∨ b ≠ a) : hFI (putS h a R) k b = hFI h k b := by
  rw [rd_hFI_putS]
  unfold am_up2
  rw [if_neg (by omega)]
theorem getS_put (h : AH) (a : Nat) (R : SV) : getS (putS h a R) a = R := by
  unfold getS
  rw [pS_hr, pS_1, pS_2, pS_3, pS_4, pS_5, pS_6, pS_7, pS_8]
theorem rowS_get (h : AH) (a : Nat) {k : Nat} (h1 : 1 ≤ k) (h8 : k ≤ 8) : rowS (getS h a) k = hAI h (a + k) := by
  rcases (show k = 1 ∨ k = 2 ∨ k = 3 ∨ k = 4 ∨ k = 5 ∨ k = 6 ∨ k = 7 ∨ k = 8 by omega) with rfl | rfl | rfl | rfl | rfl | rfl | rfl | rfl <;> rfl
theorem putS_get (h : AH) (a : Nat) : putS h a (getS h a) = h := by
  apply AH_ext
  all_goals simp only [rd_hK_putS, rd_hFI_putS, rd_hFJ_putS, rd_hFR_putS, rd_hLN_putS, rd_hAI_putS, rd_hAJ_putS, rd_hAR_putS, rd_hNX_putS]
  · exact am_up2_self _ _ _
  · funext b
    split
    · rename_i e
      rw [rowS_get h a (by omega) (by omega), show a + (b - a) = b by omega]
    · rfl
theorem putS_put (h : AH) (a : Nat) (R T : SV) : putS (putS h a R) a T = putS h a T := by
  apply AH_ext
  all_goals simp only [rd_hK_putS, rd_hFI_putS, rd_hFJ_putS, rd_hFR_putS, rd_hLN_putS, rd_hAI_putS, rd_hAJ_putS, rd_hAR_putS, rd_hNX_putS]
  · exact am_up2_up2 _ _ _ _ _
  · funext b
    split <;> rfl
theorem getS_far (h : AH) {a b : Nat} (R : SV) (e : b + 8 < a ∨ a + 8 < b) : getS (putS h a R) b = getS h b := by
  unfold getS
  rw [pS_fi h R (by omega), pS_far h R (by omega), pS_far h R (by omega), pS_far h R (by omega), pS_far h R (by omega), pS_far h R (by omega), pS_far h R (by omega), pS_far h R (by omega), pS_far h R (by omega)]
theorem putS_sFI (h : AH) (a : Nat) (R : SV) (v : Int32) : sFI (putS h a R) 700 a v = putS h a (v, R.2) := by
  apply AH_ext
  all_goals simp only [rd_hK_putS, rd_hFI_putS, rd_hFJ_putS, rd_hFR_putS, rd_hLN_putS, rd_hAI_putS, rd_hAJ_putS, rd_hAR_putS, rd_hNX_putS, rd_hK_sFI, rd_hFI_sFI, rd_hFJ_sFI, rd_hFR_sFI, rd_hLN_sFI, rd_hAI_sFI, rd_hAJ_sFI, rd_hAR_sFI, rd_hNX_sFI, rd_hK_sEI, rd_hFI_sEI, rd_hFJ_sEI, rd_hFR_sEI, rd_hLN_sEI, rd_hAI_sEI, rd_hAJ_sEI, rd_hAR_sEI, rd_hNX_sEI, rd_hK_sAI, rd_hFI_sAI, rd_hFJ_sAI, rd_hFR_sAI, rd_hLN_sAI, rd_hAI_sAI, rd_hAJ_sAI, rd_hAR_sAI, rd_hNX_sAI, rd_hK_sCP, rd_hFI_sCP, rd_hFJ_sCP, rd_hFR_sCP, rd_hLN_sCP, rd_hAI_sCP, rd_hAJ_sCP, rd_hAR_sCP, rd_hNX_sCP]
  · exact am_up2_up2 _ _ _ _ _
  · funext b
    split
    · rename_i e
      obtain ⟨k, rfl⟩ : ∃ k, b = a + k := ⟨b - a, by omega⟩
      rw [Nat.add_sub_cancel_left]
      rcases (show k = 1 ∨ k = 2 ∨ k = 3 ∨ k = 4 ∨ k = 5 ∨ k = 6 ∨ k = 7 ∨ k = 8 by omega) with rfl | rfl | rfl | rfl | rfl | rfl | rfl | rfl <;> rfl
    · rfl
theorem putS_sAIk (h : AH) (a : Nat) (R T : SV) {k : Nat} (h1 : 1 ≤ k) (h8 : k ≤ 8) (f : Nat → Int32) (e0 : T.1 = R.1) (e1 : rowS T k = f) (e2 : ∀ j, 1 ≤ j → j ≤ 8 → j ≠ k → rowS T j = rowS R j) : sAI (putS h a R) (a + k) f = putS h a T := by
  apply AH_ext
  all_goals simp only [rd_hK_putS, rd_hFI_putS, rd_hFJ_putS, rd_hFR_putS, rd_hLN_putS, rd_hAI_putS, rd_hAJ_putS, rd_hAR_putS, rd_hNX_putS, rd_hK_sFI, rd_hFI_sFI, rd_hFJ_sFI, rd_hFR_sFI, rd_hLN_sFI, rd_hAI_sFI, rd_hAJ_sFI, rd_hAR_sFI, rd_hNX_sFI, rd_hK_sEI, rd_hFI_sEI, rd_hFJ_sEI, rd_hFR_sEI, rd_hLN_sEI, rd_hAI_sEI, rd_hAJ_sEI, rd_hAR_sEI, rd_hNX_sEI, rd_hK_sAI, rd_hFI_sAI, rd_hFJ_sAI, rd_hFR_sAI, rd_hLN_sAI, rd_hAI_sAI, rd_hAJ_sAI, rd_hAR_sAI, rd_hNX_sAI, rd_hK_sCP, rd_hFI_sCP, rd_hFJ_sCP, rd_hFR_sCP, rd_hLN_sCP, rd_hAI_sCP, rd_hAJ_sCP, rd_hAR_sCP, rd_hNX_sCP]
  · rw [e0]
  · funext b
    unfold am_up
    by_cases e : b = a + k
    · rw [if_pos e, if_pos (by omega), show b - a = k by omega, e1]
    · rw [if_neg e]
      dsimp only
      split
      · rw [e2 (b - a) (by omega) (by omega) (by omega)]
      · rfl
theorem putS_sEI (h : AH) (a : Nat) (R T : SV) {k : Nat} (h1 : 1 ≤ k) (h8 : k ≤ 8) (i : Nat) (v : Int32) (e0 : T.1 = R.1) (e1 : rowS T k = upd (rowS R k) i v) (e2 : ∀ j, 1 ≤ j → j ≤ 8 → j ≠ k → rowS T j = rowS R j) : sEI (putS h a R) (a + k) i v = putS h a T := by
  unfold sEI
  rw [pS_row h a R h1 h8]
  exact putS_sAIk h a R T h1 h8 _ e0 e1 e2
theorem rowS_ne {R T : SV} {k : Nat} (h : (k = 1 ∨ T.2.1 = R.2.1) ∧ (k = 2 ∨ T.2.2.1 = R.2.2.1) ∧ (k = 3 ∨ T.2.2.2.1 = R.2.2.2.1) ∧ (k = 4 ∨ T.2.2.2.2.1 = R.2.2.2.2.1) ∧ (k = 5 ∨ T.2.2.2.2.2.1 = R.2.2.2.2.2.1) ∧ (k = 6 ∨ T.2.2.2.2.2.2.1 = R.2.2.2.2.2.2.1) ∧ (k = 7 ∨ T.2.2.2.2.2.2.2.1 = R.2.2.2.2.2.2.2.1) ∧ (k = 8 ∨ T.2.2.2.2.2.2.2.2 = R.2.2.2.2.2.2.2.2)) : ∀ j, 1 ≤ j → j ≤ 8 → j ≠ k → rowS T j = rowS R j := by
  intro j h1 h8 hk
  obtain ⟨a1, a2, a3, a4, a5, a6, a7, a8⟩ := h
  rcases (show j = 1 ∨ j = 2 ∨ j = 3 ∨ j = 4 ∨ j = 5 ∨ j = 6 ∨ j = 7 ∨ j = 8 by omega) with rfl | rfl | rfl | rfl | rfl | rfl | rfl | rfl
  · exact a1.resolve_left (Ne.symm hk)
  · exact a2.resolve_left (Ne.symm hk)
  · exact a3.resolve_left (Ne.symm hk)
  · exact a4.resolve_left (Ne.symm hk)
  · exact a5.resolve_left (Ne.symm hk)
  · exact a6.resolve_left (Ne.symm hk)
  · exact a7.resolve_left (Ne.symm hk)
  · exact a8.resolve_left (Ne.symm hk)
theorem pE_1 (h : AH) (a : Nat) (R : SV) (i : Nat) (v : Int32) : sEI (putS h a R) (a + 1) i v = putS h a (R.1, upd R.2.1 i v, R.2.2) := putS_sEI h a R _ (by decide) (by decide) i v rfl rfl (rowS_ne (by simp))
theorem pE_2 (h : AH) (a : Nat) (R : SV) (i : Nat) (v : Int32) : sEI (putS h a R) (a + 2) i v = putS h a (R.1, R.2.1, upd R.2.2.1 i v, R.2.2.2) := putS_sEI h a R _ (by decide) (by decide) i v rfl rfl (rowS_ne (by simp))
theorem pE_3 (h : AH) (a : Nat) (R : SV) (i : Nat) (v : Int32) : sEI (putS h a R) (a + 3) i v = putS h a (R.1, R.2.1, R.2.2.1, upd R.2.2.2.1 i v, R.2.2.2.2) := putS_sEI h a R _ (by decide) (by decide) i v rfl rfl (rowS_ne (by simp))
theorem pE_4 (h : AH) (a : Nat) (R : SV) (i : Nat) (v : Int32) : sEI (putS h a R) (a + 4) i v = putS h a (R.1, R.2.1, R.2.2.1, R.2.2.2.1, upd R.2.2.2.2.1 i v, R.2.2.2.2.2) := putS_sEI h a R _ (by decide) (by decide) i v rfl rfl (rowS_ne (by simp))
theorem pE_5 (h : AH) (a : Nat) (R : SV) (i : Nat) (v : Int32) : sEI (putS h a R) (a + 5) i v = putS h a (R.1, R.2.1, R.2.2.1, R.2.2.2.1, R.2.2.2.2.1, upd R.2.2.2.2.2.1 i v, R.2.2.2.2.2.2) := putS_sEI h a R _ (by decide) (by decide) i v rfl rfl (rowS_ne (by simp))
theorem pE_6 (h : AH) (a : Nat) (R : SV) (i : Nat) (v : Int32) : sEI (putS h a R) (a + 6) i v = putS h a (R.1, R.2.1, R.2.2.1, R.2.2.2.1, R.2.2.2.2.1, R.2.2.2.2.2.1, upd R.2.2.2.2.2.2.1 i v, R.2.2.2.2.2.2.2) := putS_sEI h a R _ (by decide) (by decide) i v rfl rfl (rowS_ne (by simp))
theorem pE_7 (h : AH) (a : Nat) (R : SV) (i : Nat) (v : Int32) : sEI (putS h a R) (a + 7) i v = putS h a (R.1, R.2.1, R.2.2.1, R.2.2.2.1, R.2.2.2.2.1, R.2.2.2.2.2.1, R.2.2.2.2.2.2.1, upd R.2.2.2.2.2.2.2.1 i v, R.2.2.2.2.2.2.2.2) := putS_sEI h a R _ (by decide) (by decide) i v rfl rfl (rowS_ne (by simp))
theorem pE_8 (h : AH) (a : Nat) (R : SV) (i : Nat) (v : Int32) : sEI (putS h a R) (a + 8) i v = putS h a (R.1, R.2.1, R.2.2.1, R.2.2.2.1, R.2.2.2.2.1, R.2.2.2.2.2.1, R.2.2.2.2.2.2.1, R.2.2.2.2.2.2.2.1, upd R.2.2.2.2.2.2.2.2 i v) := putS_sEI h a R _ (by decide) (by decide) i v rfl rfl (rowS_ne (by simp))
theorem putS_sAI (h : AH) {a b : Nat} (R : SV) (f : Nat → Int32) (e : b ≤ a ∨ a + 8 < b) : sAI (putS h a R) b f = putS (sAI h b f) a R := by
  apply AH_ext
  all_goals simp only [rd_hK_putS, rd_hFI_putS, rd_hFJ_putS, rd_hFR_putS, rd_hLN_putS, rd_hAI_putS, rd_hAJ_putS, rd_hAR_putS, rd_hNX_putS, rd_hK_sFI, rd_hFI_sFI, rd_hFJ_sFI, rd_hFR_sFI, rd_hLN_sFI, rd_hAI_sFI, rd_hAJ_sFI, rd_hAR_sFI, rd_hNX_sFI, rd_hK_sEI, rd_hFI_sEI, rd_hFJ_sEI, rd_hFR_sEI, rd_hLN_sEI, rd_hAI_sEI, rd_hAJ_sEI, rd_hAR_sEI, rd_hNX_sEI, rd_hK_sAI, rd_hFI_sAI, rd_hFJ_sAI, rd_hFR_sAI, rd_hLN_sAI, rd_hAI_sAI, rd_hAJ_sAI, rd_hAR_sAI, rd_hNX_sAI, rd_hK_sCP, rd_hFI_sCP, rd_hFJ_sCP, rd_hFR_sCP, rd_hLN_sCP, rd_hAI_sCP, rd_hAJ_sCP, rd_hAR_sCP, rd_hNX_sCP]
  funext c
  unfold am_up
  by_cases e1 : c = b
  · rw [if_pos e1, if_neg (by omega)]
    rw [if_pos e1]
  · rw [if_neg e1]
    dsimp only
    rw [if_neg e1]
/-- State.copyFrom: the first n of a row -/
def cp (n : Nat) (f g : Nat → Int32) : Nat → Int32 := fun k => if k < n then f k else g k
theorem am_cpy0 (f g : Nat → Int32) (n : Nat) : am_cpy f g 0 0 n = cp n f g := by
  funext k
  unfold am_cpy cp
  by_cases e : k < n
  · rw [if_pos ⟨Nat.zero_le _, by omega⟩, if_pos e, Nat.zero_add, Nat.sub_zero]
  · rw [if_neg (by omega), if_neg e]
def cpS (R T : SV) : SV := (R.1, cp 6 R.2.1 T.2.1, cp 6 R.2.2.1 T.2.2.1, cp 6 R.2.2.2.1 T.2.2.2.1, cp 4 R.2.2.2.2.1 T.2.2.2.2.1, cp 4 R.2.2.2.2.2.1 T.2.2.2.2.2.1, cp 4 R.2.2.2.2.2.2.1 T.2.2.2.2.2.2.1, cp 5 R.2.2.2.2.2.2.2.1 T.2.2.2.2.2.2.2.1, cp 6 R.2.2.2.2.2.2.2.2 T.2.2.2.2.2.2.2.2)
