/-! The model's next token whole. -/
theorem c_mtok {d n i : Nat} {h : AH} {T : Nat → Nat} (hp : Tq h n T) (h4 : hFI h 1204 348 = nI i) (hi : i ≤ n) : ∃ g, am_C PG (d + 2) 166 [.ref 348] h = some (none, g) ∧ MQt h g ∧ TkM g n T (tkB n T i) := by
  have hb := scn_le bBl T (n - i) i
  have hs := scn_stop bBl T (n - i) i
  have km := c_mskip (d := d + 1) hp (n - i) i (by omega)
  have self : sFI h 1204 348 (nI i) = h := by
    rw [← h4]
    exact AH_ext rfl (am_up2_self _ _ _) rfl rfl rfl rfl rfl rfl rfl
  rw [self] at km
  show ∃ g, am_C PG (d + 2) 166 [.ref 348] h = some (none, g) ∧ MQt h g ∧ TkM g n T (scn bBl T (n - i) i)
  generalize scn bBl T (n - i) i = b at hb hs km ⊢
  obtain ⟨k1, f1, k2, n2⟩ := hp.rw'
  have hn : n ≤ 1000 := hp.2.1
  have l1 := hp.2.2.1
  have qB := B0_q h b
  have hpB := qB.tq hp
  obtain ⟨w1, w2, w3, w4⟩ := hpB.rw'
  have b4 := B0_4 h b
  have b5 := B0_5 h b
  have b3 : hFI (B0 h b) 1203 348 = nI n := hpB.2.2.1
  have e1 : hFI (sFI h 1204 348 (nI b)) 1203 348 = nI n := (sFI_o _ _ (Or.inl (by decide))).trans l1
  have e2 : hFI (sFI h 1204 348 (nI b)) 1204 348 = nI b := sFI_at _ _ _ _
  have eB : sFI (sFJ (sFI (sFI h 1204 348 (nI b)) 1205 348 (nI b)) 1207 348 0) 1208 348 0 = B0 h b := rfl
  have j1 : hK (sFI h 1204 348 (nI b)) 348 = 13 := k1
  have j2 : hK (sFI (sFI h 1204 348 (nI b)) 1205 348 (nI b)) 348 = 13 := k1
  have j3 : hK (sFJ (sFI (sFI h 1204 348 (nI b)) 1205 348 (nI b)) 1207 348 0) 348 = 13 := k1
  have j4 : hFR (sFJ (sFI (sFI h 1204 348 (nI b)) 1205 348 (nI b)) 1207 348 0) 1202 348 = some 349 := f1
  have j5 : hK (sFJ (sFI (sFI h 1204 348 (nI b)) 1205 348 (nI b)) 1207 348 0) 349 = 50 := k2
  have j6 : hLN (sFJ (sFI (sFI h 1204 348 (nI b)) 1205 348 (nI b)) 1207 348 0) 349 = 1000 := n2
  rw [q_X12_nextToken, km]
  by_cases c0 : b < n
  · have hbl : bBl (T b) = false := by
      rcases hs with z | z
      · omega
      · exact z.2
    have nb : ¬ (T b = 32 ∨ T b = 10) := fun z => by
      rw [show bBl (T b) = true from decide_eq_true z] at hbl
      cases hbl
    obtain ⟨t1, t2⟩ := hp.2.2.2 b c0
    have t3 : hAI (B0 h b) 349 b = nI (T b) := (hpB.2.2.2 b c0).2
    have ei : ∀ x, am_in (nI b) 1000 x = x := am_inN (by omega) (by decide)
    have ti : Int32.toNatClampNeg (nI b) = b := nI_clamp (by omega)
    have j7 : hAI (sFJ (sFI (sFI h 1204 348 (nI b)) 1205 348 (nI b)) 1207 348 0) 349 b = nI (T b) := t2
    have e5 : (nI b < nI n) = True := eq_true (nI_lt c0 (by omega))
    have e6 : (nI b = nI n) = False := eq_false (fun z => by have := (nI_eq (by omega) (by omega)).1 z; omega)
    have z1 : (nI (T b) = (32 : Int32)) = False := eq_false (fun z => nb (Or.inl ((nI_eq (b := 32) (by omega) (by decide)).1 z)))
    have z2 : (nI (T b) = (10 : Int32)) = False := eq_false (fun z => nb (Or.inr ((nI_eq (b := 10) (by omega) (by decide)).1 z)))
    rw [q_X12_nextToken_0]
    simp only [am_kd, rd_hFR_sFI, rd_hLN_sFI, rd_hAI_sFI, j1, j2, j3, j4, j5, j6, j7, rd_hK_sFI, k1, k2, n2, f1, if_true, if_false, e1, e2, e5, bR_s, ei, ti, t2, z1, z2, am_let_e, eB, w1, w2, w3, w4, b4, b3, e6, t3]
    by_cases cL : bLe (T b) = true
    · have cc : 97 ≤ T b ∧ T b ≤ 122 := of_decide_eq_true cL
      have kw := c_mword0 (d := d) hpB b5 (n - b) b (by omega) (Nat.le_refl _)
      have eE : tkE n T b = scn bLe T (n - b) b := by unfold tkE; rw [if_pos c0, if_pos cL]
      have eS : tkS n T b = if 8 < tkE n T b - b then 4 else 1 := by unfold tkS; rw [if_pos c0, if_pos cL]
      have v0 : VH (B0 h b) b (spM T b (b - b)) = B0 h b := by
        rw [Nat.sub_self]
        exact VH_self b4 (B0_7 h b)
      rw [v0, ← eE] at kw
      rw [if_neg (show ¬ nI (T b) < (97 : Int32) from nI_nlt (b := 97) (by omega) (by omega)), if_neg (show ¬ (122 : Int32) < nI (T b) from (nI_nlt (by omega) (by omega) : ¬ nI 122 < nI (T b)))]
      refine ⟨_, kw, (qB.tr ((MQt.fi _ 1204 _ (by omega)).tr (MQt.fj _ _))).tr (MQt.fi _ 1206 _ (by omega)), ?_, ?_, ?_, ?_, ?_⟩
      · rw [sFI_o _ _ (Or.inl (by decide)), VH_o _ _ _ (Or.inl (by decide))]; exact b5
      · rw [sFI_o _ _ (Or.inl (by decide)), VH_n]
      · rw [sFI_at, eS]
        by_cases c8 : 8 < tkE n T b - b
        · rw [if_pos c8, if_pos c8]; rfl
        · rw [if_neg c8, if_neg c8]; rfl
      · intro z
        have c8 : ¬ 8 < tkE n T b - b := fun c8 => by rw [eS, if_pos c8] at z; exact absurd z (by decide)
        rw [rd_hFJ_sFI, VH_s, spM_8 c8]
      · intro z
        rw [eS] at z
        by_cases c8 : 8 < tkE n T b - b <;> simp [c8] at z
    · have cc : ¬ (97 ≤ T b ∧ T b ≤ 122) := fun z => cL (decide_eq_true z)
      have to : ∀ X Y : Option Res, (if nI (T b) < (97 : Int32) then X else if (122 : Int32) < nI (T b) then X else Y) = X := fun X Y => by
        by_cases c1 : T b < 97
        · rw [if_pos (show nI (T b) < (97 : Int32) from nI_lt (b := 97) c1 (by decide))]
        · rw [if_neg (show ¬ nI (T b) < (97 : Int32) from nI_nlt (b := 97) (by omega) (by omega)), if_pos (show (122 : Int32) < nI (T b) from (nI_lt (by omega) (by omega) : nI 122 < nI (T b)))]
      rw [to]
      by_cases cD : bDi (T b) = true
      · have cd : 48 ≤ T b ∧ T b ≤ 57 := of_decide_eq_true cD
        have kw := c_mnum0 (d := d) hpB b5 (n - b) b (by omega) (Nat.le_refl _)
        have eE : tkE n T b = scn bDi T (n - b) b := by unfold tkE; rw [if_pos c0, if_neg cL, if_pos cD]
        have eS : tkS n T b = if 4 < tkE n T b - b then 4 else 2 := by unfold tkS; rw [if_pos c0, if_neg cL, if_pos cD]
        have v0 : MH (B0 h b) b (numM T b (b - b)) = B0 h b := by
          rw [Nat.sub_self]
          exact MH_self b4 (B0_8 h b)
        rw [v0, ← eE] at kw
        rw [q_X12_nextToken_212, if_neg (show ¬ nI (T b) < (48 : Int32) from nI_nlt (b := 48) (by omega) (by omega)), if_neg (show ¬ (57 : Int32) < nI (T b) from (nI_nlt (by omega) (by omega) : ¬ nI 57 < nI (T b)))]
        refine ⟨_, kw, (qB.tr ((MQt.fi _ 1208 _ (by omega)).tr (MQt.fi _ 1204 _ (by omega)))).tr (MQt.fi _ 1206 _ (by omega)), ?_, ?_, ?_, ?_, ?_⟩
        · rw [sFI_o _ _ (Or.inl (by decide)), MH_o _ _ _ (Or.inl ⟨by decide, by decide⟩)]; exact b5
        · rw [sFI_o _ _ (Or.inl (by decide)), MH_n]
        · rw [sFI_at, eS]
          by_cases c4 : 4 < tkE n T b - b
          · rw [if_pos c4, if_pos c4]; rfl
          · rw [if_neg c4, if_neg c4]; rfl
        · intro z
          rw [eS] at z
          by_cases c4 : 4 < tkE n T b - b <;> simp [c4] at z
        · intro z
          have c4 : ¬ 4 < tkE n T b - b := fun c4 => by rw [eS, if_pos c4] at z; exact absurd z (by decide)
          rw [sFI_o _ _ (Or.inl (by decide)), MH_v, numM_4 c4]
      · have eE : tkE n T b = b + 1 := by unfold tkE; rw [if_pos c0, if_neg cL, if_neg cD]
        have eS : tkS n T b = if bSg (T b) then 3 else 4 := by unfold tkS; rw [if_pos c0, if_neg cL, if_neg cD]
        refine ⟨_, c_msign (n := n) w1 b4 t1 (bool_f cD), (qB.tr (MQt.fi _ 1204 _ (by omega))).tr (MQt.fi _ 1206 _ (by omega)), ?_, ?_, ?_, ?_, ?_⟩
        · rw [sFI_o _ _ (Or.inl (by decide)), sFI_o _ _ (Or.inl (by decide))]; exact b5
        · rw [sFI_o _ _ (Or.inl (by decide)), sFI_at, eE]
        · rw [sFI_at, eS]
          by_cases cS : bSg (T b) = true
          · rw [if_pos cS, if_pos cS]; rfl
          · rw [if_neg cS, if_neg cS]; rfl
        · intro z
          rw [eS] at z
          by_cases cS : bSg (T b) = true <;> simp [cS] at z
        · intro z
          rw [eS] at z
          by_cases cS : bSg (T b) = true <;> simp [cS] at z
  · have en : b = n := by omega
    have e5 : (nI b < nI n) = False := eq_false (nI_nlt (by omega) (by omega))
    have e6 : (nI b = nI n) = True := eq_true (by rw [en])
    have eE : tkE n T b = b := by unfold tkE; rw [if_neg c0]
    have eS : tkS n T b = 0 := by unfold tkS; rw [if_neg c0]
    rw [q_X12_nextToken_0]
    simp only [am_kd, j1, j2, j3, if_true, if_false, e1, e2, e5, am_let_e, eB, w1, b4, b3, e6]
    refine ⟨_, rfl, qB.tr (MQt.fi _ 1206 _ (by omega)), ?_, ?_, ?_, ?_, ?_⟩
    · rw [sFI_o _ _ (Or.inl (by decide))]; exact b5
    · rw [sFI_o _ _ (Or.inl (by decide)), eE]; exact b4
    · rw [sFI_at, eS]; rfl
    · intro z; rw [eS] at z; exact absurd z (by decide)
    · intro z; rw [eS] at z; exact absurd z (by decide)
