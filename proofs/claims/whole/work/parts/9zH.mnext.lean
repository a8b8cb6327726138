/-! The model's next token. -/
theorem scn_stop (P : Nat → Bool) (T : Nat → Nat) : ∀ k i, scn P T k i = i + k ∨ (scn P T k i < i + k ∧ P (T (scn P T k i)) = false)
  | 0, _ => Or.inl rfl
  | k + 1, i => by
    unfold scn
    by_cases c : P (T i) = true
    · rw [if_pos c]
      have := scn_stop P T k (i + 1)
      rw [show i + 1 + k = i + (k + 1) by omega] at this
      exact this
    · rw [if_neg c]
      exact Or.inr ⟨by omega, bool_f c⟩
theorem c_mskip {d n : Nat} {h : AH} {T : Nat → Nat} (hp : Tq h n T) : ∀ k j, j + k = n → am_R PG (d + 1) 166 0 [some (.ref 348), none] [] (sFI h 1204 348 (nI j)) = am_R PG (d + 1) 166 0 [some (.ref 348), none] [] (sFI h 1204 348 (nI (scn bBl T k j)))
  | 0, j, hj => rfl
  | k + 1, j, hj => by
    have ih := c_mskip (d := d) hp k (j + 1) (by omega)
    unfold scn
    by_cases c : bBl (T j) = true
    · rw [if_pos c, ← ih]
      obtain ⟨k1, f1, k2, n2⟩ := hp.rw'
      obtain ⟨-, hn, l1, hT⟩ := hp
      obtain ⟨t1, t2⟩ := hT j (by omega)
      have ei : ∀ x, am_in (nI j) 1000 x = x := am_inN (by omega) (by decide)
      have ti : Int32.toNatClampNeg (nI j) = j := nI_clamp (by omega)
      have e1 : hFI (sFI h 1204 348 (nI j)) 1203 348 = nI n := (sFI_o _ _ (Or.inl (by decide))).trans l1
      have e2 : hFI (sFI h 1204 348 (nI j)) 1204 348 = nI j := sFI_at _ _ _ _
      have e5 : (nI j < nI n) = True := eq_true (nI_lt (by omega) (by omega))
      have cc : T j = 32 ∨ T j = 10 := of_decide_eq_true c
      rw [q_X12_nextToken_0]
      simp only [am_kd, rd_hK_sFI, rd_hFR_sFI, rd_hLN_sFI, rd_hAI_sFI, k1, k2, n2, f1, if_true, e1, e2, e5, bR_s, ei, ti, t2, am_let_e, nI_1, sFI_sFI]
      by_cases c1 : T j = 32
      · rw [if_pos (show nI (T j) = (32 : Int32) by rw [c1]; rfl)]
      · have c2 : T j = 10 := cc.resolve_left c1
        rw [if_neg (show ¬ nI (T j) = (32 : Int32) by rw [c2]; decide), if_pos (show nI (T j) = (10 : Int32) by rw [c2]; rfl)]
    · rw [if_neg c]
/-- only the model's token may differ -/
def MQt (h g : AH) : Prop := hK g = hK h ∧ hFR g = hFR h ∧ hLN g = hLN h ∧ hAI g = hAI h ∧ hAJ g = hAJ h ∧ hAR g = hAR h ∧ hNX g = hNX h ∧ (∀ k a, (k ≠ 1207 ∨ a ≠ 348) → hFJ g k a = hFJ h k a) ∧ ∀ k a, (a ≠ 348 ∨ k < 1204 ∨ 1208 < k) → hFI g k a = hFI h k a
theorem MQt.tr {h g k : AH} (a : MQt h g) (b : MQt g k) : MQt h k := by
  obtain ⟨a1, a2, a3, a4, a5, a6, a7, a8, a9⟩ := a
  obtain ⟨b1, b2, b3, b4, b5, b6, b7, b8, b9⟩ := b
  exact ⟨b1.trans a1, b2.trans a2, b3.trans a3, b4.trans a4, b5.trans a5, b6.trans a6, b7.trans a7, fun k a e => (b8 k a e).trans (a8 k a e), fun k a e => (b9 k a e).trans (a9 k a e)⟩
theorem MQt.fi (h : AH) (k : Nat) (v : Int32) (hk : 1204 ≤ k ∧ k ≤ 1208) : MQt h (sFI h k 348 v) := ⟨rfl, rfl, rfl, rfl, rfl, rfl, rfl, fun _ _ _ => rfl, fun j a e => sFI_o _ _ (by omega)⟩
theorem MQt.fj (h : AH) (v : Int64) : MQt h (sFJ h 1207 348 v) := ⟨rfl, rfl, rfl, rfl, rfl, rfl, rfl, fun k a e => by
  rw [rd_hFJ_sFJ]
  unfold am_up2
  rw [if_neg (by omega)], fun _ _ _ => rfl⟩
theorem MQt.tq {h g : AH} {n : Nat} {T : Nat → Nat} (q : MQt h g) (p : Tq h n T) : Tq g n T := p.to q.1 q.2.1 q.2.2.1 (q.2.2.2.2.2.2.2.2 _ _ (by omega)) q.2.2.2.1
/-- the token that begins at b -/
def TkM (g : AH) (n : Nat) (T : Nat → Nat) (b : Nat) : Prop := hFI g 1205 348 = nI b ∧ hFI g 1204 348 = nI (tkE n T b) ∧ hFI g 1206 348 = nI (tkS n T b) ∧ (tkS n T b = 1 → hFJ g 1207 348 = spW T b (tkE n T b - b)) ∧ (tkS n T b = 2 → hFI g 1208 348 = numW T b (tkE n T b - b))
/-- the heap in which the token is taken -/
def B0 (h : AH) (b : Nat) : AH := sFI (sFJ (sFI (sFI h 1204 348 (nI b)) 1205 348 (nI b)) 1207 348 0) 1208 348 0
theorem B0_q (h : AH) (b : Nat) : MQt h (B0 h b) := (((MQt.fi h 1204 _ (by omega)).tr (MQt.fi _ 1205 _ (by omega))).tr (MQt.fj _ _)).tr (MQt.fi _ 1208 _ (by omega))
theorem B0_4 (h : AH) (b : Nat) : hFI (B0 h b) 1204 348 = nI b := by
  unfold B0
  rw [sFI_o _ _ (Or.inl (by decide)), rd_hFI_sFJ, sFI_o _ _ (Or.inl (by decide)), sFI_at]
theorem B0_5 (h : AH) (b : Nat) : hFI (B0 h b) 1205 348 = nI b := by
  unfold B0
  rw [sFI_o _ _ (Or.inl (by decide)), rd_hFI_sFJ, sFI_at]
theorem B0_8 (h : AH) (b : Nat) : hFI (B0 h b) 1208 348 = 0 := by
  unfold B0
  rw [sFI_at]
theorem B0_7 (h : AH) (b : Nat) : hFJ (B0 h b) 1207 348 = 0 := by
  unfold B0
  rw [rd_hFJ_sFI, rd_hFJ_sFJ]
  unfold am_up2
  rw [if_pos ⟨rfl, rfl⟩]
theorem VH_self {B : AH} {b : Nat} (e1 : hFI B 1204 348 = nI b) (e2 : hFJ B 1207 348 = 0) : VH B b 0 = B := by
  unfold VH
  rw [← e1, ← e2]
  exact AH_ext rfl (am_up2_self _ _ _) (am_up2_self _ _ _) rfl rfl rfl rfl rfl rfl
theorem MH_self {B : AH} {b : Nat} (e1 : hFI B 1204 348 = nI b) (e2 : hFI B 1208 348 = 0) : MH B b 0 = B := by
  have s1 : sFI B 1208 348 0 = B := by
    rw [← e2]
    exact AH_ext rfl (am_up2_self _ _ _) rfl rfl rfl rfl rfl rfl rfl
  unfold MH
  rw [s1, ← e1]
  exact AH_ext rfl (am_up2_self _ _ _) rfl rfl rfl rfl rfl rfl rfl
