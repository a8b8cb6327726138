/-! The class's tape: the next token. -/
/-- where the token that is looked for from i on begins, where it ends, its sort -/
def tkB (n : Nat) (T : Nat → Nat) (i : Nat) : Nat := scn bBl T (n - i) i
def tkE (n : Nat) (T : Nat → Nat) (b : Nat) : Nat := if b < n then (if bLe (T b) then scn bLe T (n - b) b else if bDi (T b) then scn bDi T (n - b) b else b + 1) else b
def tkS (n : Nat) (T : Nat → Nat) (b : Nat) : Nat := if b < n then (if bLe (T b) then (if 8 < tkE n T b - b then 4 else 1) else if bDi (T b) then (if 4 < tkE n T b - b then 4 else 2) else if bSg (T b) then 3 else 4) else 0
/-- only the class's token may differ -/
def TQ (h g : AH) : Prop := hK g = hK h ∧ hLN g = hLN h ∧ hAI g = hAI h ∧ hAJ g = hAJ h ∧ hAR g = hAR h ∧ hNX g = hNX h ∧ (∀ k a, (k ≠ 906 ∨ a ≠ 1) → hFR g k a = hFR h k a) ∧ (∀ k a, (k ≠ 905 ∨ a ≠ 1) → hFJ g k a = hFJ h k a) ∧ ∀ k a, (a ≠ 1 ∨ k < 902 ∨ 908 < k) → hFI g k a = hFI h k a
theorem TQ.rfl' (h : AH) : TQ h h := ⟨rfl, rfl, rfl, rfl, rfl, rfl, fun _ _ _ => rfl, fun _ _ _ => rfl, fun _ _ _ => rfl⟩
theorem TQ.tr {h g k : AH} (a : TQ h g) (b : TQ g k) : TQ h k := by
  obtain ⟨a1, a2, a3, a4, a5, a6, a7, a8, a9⟩ := a
  obtain ⟨b1, b2, b3, b4, b5, b6, b7, b8, b9⟩ := b
  exact ⟨b1.trans a1, b2.trans a2, b3.trans a3, b4.trans a4, b5.trans a5, b6.trans a6, fun k a e => (b7 k a e).trans (a7 k a e), fun k a e => (b8 k a e).trans (a8 k a e), fun k a e => (b9 k a e).trans (a9 k a e)⟩
theorem TQ.fi (h : AH) (k : Nat) (v : Int32) (hk : 902 ≤ k ∧ k ≤ 908) : TQ h (sFI h k 1 v) := ⟨rfl, rfl, rfl, rfl, rfl, rfl, fun _ _ _ => rfl, fun _ _ _ => rfl, fun j a e => sFI_o _ _ (by omega)⟩
theorem TQ.fr (h : AH) (v : Option Nat) : TQ h (sFR h 906 1 v) := ⟨rfl, rfl, rfl, rfl, rfl, rfl, fun k a e => by
  rw [rd_hFR_sFR]
  unfold am_up2
  rw [if_neg (by omega)], fun _ _ _ => rfl, fun _ _ _ => rfl⟩
theorem TQ.fj (h : AH) (v : Int64) : TQ h (sFJ h 905 1 v) := ⟨rfl, rfl, rfl, rfl, rfl, rfl, fun _ _ _ => rfl, fun k a e => by
  rw [rd_hFJ_sFJ]
  unfold am_up2
  rw [if_neg (by omega)], fun _ _ _ => rfl⟩
theorem TQ.wd {h g : AH} (q : TQ h g) (w : WdSh h) : WdSh g := by
  obtain ⟨q1, q2, q3, q4, q5, q6, q7, q8, q9⟩ := q
  exact WdSh.to (h := h) q1 q5 q2 (fun k a ha => q8 k a (by omega)) (fun a ha => q9 _ a (by omega)) w
theorem TQ.tp {h g : AH} {n : Nat} {T : Nat → Nat} (q : TQ h g) (p : Tp h n T) : Tp g n T := p.to q.1 (q.2.2.2.2.2.2.1 _ _ (by omega)) q.2.1 (q.2.2.2.2.2.2.2.2 _ _ (by omega)) q.2.2.1
/-- the token that begins at b -/
def TkC (g : AH) (n : Nat) (T : Nat → Nat) (b : Nat) : Prop := hFI g 903 1 = nI b ∧ hFI g 908 1 = nI (tkE n T b) ∧ hFI g 902 1 = nI (tkS n T b) ∧ (hFI g 907 1 = if tkS n T b = 3 then nI (T b) else 0) ∧
  (tkS n T b = 1 → hFJ g 905 1 = spW T b (tkE n T b - b) ∧ hFR g 906 1 = am_on (wdo (spW T b (tkE n T b - b)) 31 0)) ∧ (tkS n T b ≠ 1 → hFR g 906 1 = none) ∧ (tkS n T b = 2 → hFI g 904 1 = numW T b (tkE n T b - b))
theorem sFR_at (h : AH) (k a : Nat) (v : Option Nat) : hFR (sFR h k a v) k a = v := by
  rw [rd_hFR_sFR]
  unfold am_up2
  rw [if_pos ⟨rfl, rfl⟩]
theorem bool_f {b : Bool} (h : ¬ b = true) : b = false := by
  cases b
  · rfl
  · exact absurd rfl h
theorem c_adv {d n i : Nat} {h : AH} {T : Nat → Nat} (hp : Tp h n T) (hw : WdSh h) (h8 : hFI h 908 1 = nI i) (hi : i ≤ n) : ∃ g, am_C PG (d + 3) 115 [.ref 1] h = some (none, g) ∧ TQ h g ∧ TkC g n T (tkB n T i) := by
  have hb := scn_le bBl T (n - i) i
  have ks := c_skip (d := d + 1) hp h8 hi
  have hn : n ≤ 1000 := hp.2.2.2.2.1
  show ∃ g, am_C PG (d + 3) 115 [.ref 1] h = some (none, g) ∧ TQ h g ∧ TkC g n T (scn bBl T (n - i) i)
  generalize hb0 : scn bBl T (n - i) i = b at hb ks ⊢
  have k1 := hp.1
  have f1 := hp.2.1
  have l1 := hp.2.2.2.2.2.1
  have x8 : hFI (sFI h 908 1 (nI b)) 908 1 = nI b := sFI_at _ _ _ _
  -- the heap in which it is taken
  have q4 : TQ h (sFI (sFR (sFI (sFI h 908 1 (nI b)) 903 1 (nI b)) 906 1 none) 907 1 0) := ((TQ.fi h 908 _ (by omega)).tr (TQ.fi _ 903 _ (by omega))).tr ((TQ.fr _ none).tr (TQ.fi _ 907 _ (by omega)))
  have v8 : hFI (sFI (sFR (sFI (sFI h 908 1 (nI b)) 903 1 (nI b)) 906 1 none) 907 1 0) 908 1 = nI b := by
    rw [sFI_o _ _ (Or.inl (by decide)), rd_hFI_sFR, sFI_o _ _ (Or.inl (by decide)), sFI_at]
  have v3 : hFI (sFI (sFR (sFI (sFI h 908 1 (nI b)) 903 1 (nI b)) 906 1 none) 907 1 0) 903 1 = nI b := by
    rw [sFI_o _ _ (Or.inl (by decide)), rd_hFI_sFR, sFI_at]
  have v7 : hFI (sFI (sFR (sFI (sFI h 908 1 (nI b)) 903 1 (nI b)) 906 1 none) 907 1 0) 907 1 = 0 := sFI_at _ _ _ _
  have v6 : hFR (sFI (sFR (sFI (sFI h 908 1 (nI b)) 903 1 (nI b)) 906 1 none) 907 1 0) 906 1 = none := by
    rw [rd_hFR_sFI, sFR_at]
  have st : ∀ Z, (∀ g, Z = am_C PG (d + 3) 115 [.ref 1] g → True) := fun _ _ _ => trivial
  have e0 : am_on nul = none := if_pos rfl
  have e5 : ∀ x, am_nar 5 0 x = x := am_nar5 (c := 0) (by omega)
  have y1 : hK (sFI h 908 1 (nI b)) 1 = 10 := k1
  have y2 : hK (sFI (sFI h 908 1 (nI b)) 903 1 (nI b)) 1 = 10 := k1
  have y3 : hK (sFR (sFI (sFI h 908 1 (nI b)) 903 1 (nI b)) 906 1 none) 1 = 10 := k1
  have hp4 := q4.tp hp
  have hw4 := q4.wd hw
  have go := q_X9_advance (d + 2) 1 h
  rw [am_kd_t k1, ks, bV_s, am_kd_t y1, am_kd_t y1, x8, am_let_e, am_kd_t y2, e0, am_let_e, am_kd_t y3, e5, am_let_e] at go
  generalize sFI (sFR (sFI (sFI h 908 1 (nI b)) 903 1 (nI b)) 906 1 none) 907 1 0 = h4 at q4 v8 v3 v7 v6 hp4 hw4 go
  obtain ⟨z1, z2, z3, z4, -, z6, z7⟩ := hp4
  have hp4 : Tp h4 n T := ⟨z1, z2, z3, z4, hn, z6, z7⟩
  rw [am_kd_t z1, am_kd_t z1, v8, z6] at go
  by_cases c0 : b < n
  · obtain ⟨t1, t2⟩ := z7 b c0
    have ei : ∀ x, am_in (nI b) 1000 x = x := am_inN (by omega) (by decide)
    have ti : Int32.toNatClampNeg (nI b) = b := nI_clamp (by omega)
    have kl := c_letter (d := d + 1) (h := h4) t1
    have kd := c_digit (d := d + 1) (h := h4) t1
    rw [if_pos (nI_lt c0 (by omega)), am_kd_t z1, z2, bR_s, am_kd_t z1, am_kd_t z3, z4, ei, ti, t2, kl, bI_s] at go
    by_cases cL : bLe (T b) = true
    · have kw := c_word (d := d) hp4 hw4 v3 v8 (by omega)
      have eE : tkE n T b = scn bLe T (n - b) b := by unfold tkE; rw [if_pos c0, if_pos cL]
      have eS : tkS n T b = if 8 < tkE n T b - b then 4 else 1 := by unfold tkS; rw [if_pos c0, if_pos cL]
      rw [← eE] at kw
      rw [cL, if_pos rfl, if_neg (by decide), am_kd_t z1, kw, bV_s] at go
      have qW : TQ h4 (WH h4 (tkE n T b) (spW T b (tkE n T b - b))) := (TQ.fi h4 908 _ (by omega)).tr (TQ.fj _ _)
      have u3 : hFI (WH h4 (tkE n T b) (spW T b (tkE n T b - b))) 903 1 = nI b := (WH_o _ _ _ (Or.inl (by decide))).trans v3
      have u8 := WH_n h4 (tkE n T b) (spW T b (tkE n T b - b))
      have u5 := WH_s h4 (tkE n T b) (spW T b (tkE n T b - b))
      have u7 : hFI (WH h4 (tkE n T b) (spW T b (tkE n T b - b))) 907 1 = 0 := (WH_o _ _ _ (Or.inl (by decide))).trans v7
      have u6 : hFR (WH h4 (tkE n T b) (spW T b (tkE n T b - b))) 906 1 = none := v6
      generalize WH h4 (tkE n T b) (spW T b (tkE n T b - b)) = H at go qW u3 u8 u5 u7 u6
      unfold WR at go
      by_cases c8 : 8 < tkE n T b - b
      · rw [if_pos c8] at go eS
        refine ⟨_, go, (q4.tr qW).tr (TQ.fi _ 902 _ (by omega)), ?_, ?_, ?_, ?_, ?_, ?_, ?_⟩
        · rw [sFI_o _ _ (Or.inl (by decide))]; exact u3
        · rw [sFI_o _ _ (Or.inl (by decide))]; exact u8
        · rw [sFI_at, eS]; rfl
        · rw [sFI_o _ _ (Or.inl (by decide)), eS, if_neg (by decide)]; exact u7
        · intro z; rw [eS] at z; exact absurd z (by decide)
        · intro _; exact u6
        · intro z; rw [eS] at z; exact absurd z (by decide)
      · rw [if_neg c8] at go eS
        refine ⟨_, go, (q4.tr qW).tr ((TQ.fi _ 902 _ (by omega)).tr (TQ.fr _ _)), ?_, ?_, ?_, ?_, ?_, ?_, ?_⟩
        · rw [rd_hFI_sFR, sFI_o _ _ (Or.inl (by decide))]; exact u3
        · rw [rd_hFI_sFR, sFI_o _ _ (Or.inl (by decide))]; exact u8
        · rw [rd_hFI_sFR, sFI_at, eS]; rfl
        · rw [rd_hFI_sFR, sFI_o _ _ (Or.inl (by decide)), eS, if_neg (by decide)]; exact u7
        · intro _; exact ⟨u5, sFR_at _ _ _ _⟩
        · intro z; exact absurd eS z
        · intro z; rw [eS] at z; exact absurd z (by decide)
    · have cL' := bool_f cL
      rw [cL', if_pos (by decide), am_kd_t z1, z2, bR_s, am_kd_t z1, v8, am_kd_t z3, z4, ei, ti, t2, kd, bI_s] at go
      by_cases cD : bDi (T b) = true
      · have kw := c_num (d := d) hp4 v3 v8 (by omega)
        have eE : tkE n T b = scn bDi T (n - b) b := by unfold tkE; rw [if_pos c0, if_neg cL, if_pos cD]
        have eS : tkS n T b = if 4 < tkE n T b - b then 4 else 2 := by unfold tkS; rw [if_pos c0, if_neg cL, if_pos cD]
        rw [← eE] at kw
        rw [cD, if_pos rfl, if_neg (by decide), am_kd_t z1, kw, bV_s] at go
        have qW : TQ h4 (NH h4 (tkE n T b) (numW T b (tkE n T b - b))) := (TQ.fi h4 904 _ (by omega)).tr (TQ.fi _ 908 _ (by omega))
        have u3 : hFI (NH h4 (tkE n T b) (numW T b (tkE n T b - b))) 903 1 = nI b := (NH_o _ _ _ (Or.inl ⟨by decide, by decide⟩)).trans v3
        have u8 := NH_n h4 (tkE n T b) (numW T b (tkE n T b - b))
        have u4 := NH_v h4 (tkE n T b) (numW T b (tkE n T b - b))
        have u7 : hFI (NH h4 (tkE n T b) (numW T b (tkE n T b - b))) 907 1 = 0 := (NH_o _ _ _ (Or.inl ⟨by decide, by decide⟩)).trans v7
        have u6 : hFR (NH h4 (tkE n T b) (numW T b (tkE n T b - b))) 906 1 = none := v6
        generalize NH h4 (tkE n T b) (numW T b (tkE n T b - b)) = H at go qW u3 u8 u4 u7 u6
        refine ⟨_, go, (q4.tr qW).tr (TQ.fi _ 902 _ (by omega)), ?_, ?_, ?_, ?_, ?_, ?_, ?_⟩
        · rw [sFI_o _ _ (Or.inl (by decide))]; exact u3
        · rw [sFI_o _ _ (Or.inl (by decide))]; exact u8
        · rw [sFI_at, eS]
          by_cases c4 : 4 < tkE n T b - b
          · rw [if_pos c4, if_pos c4]; rfl
          · rw [if_neg c4, if_neg c4]; rfl
        · rw [sFI_o _ _ (Or.inl (by decide)), if_neg (by rw [eS]; by_cases c4 : 4 < tkE n T b - b <;> simp [c4])]; exact u7
        · intro z; rw [eS] at z
          by_cases c4 : 4 < tkE n T b - b <;> simp [c4] at z
        · intro _; exact u6
        · intro _; rw [sFI_o _ _ (Or.inl (by decide))]; exact u4
      · have cD' := bool_f cD
        have kw := c_sign (d := d + 1) hp4 v8 c0
        have eE : tkE n T b = b + 1 := by unfold tkE; rw [if_pos c0, if_neg cL, if_neg cD]
        have eS : tkS n T b = if bSg (T b) then 3 else 4 := by unfold tkS; rw [if_pos c0, if_neg cL, if_neg cD]
        rw [cD', if_pos (by decide), am_kd_t z1, kw, bV_s] at go
        unfold SGh at go
        by_cases cS : bSg (T b) = true
        · rw [if_pos cS] at go eS
          refine ⟨_, go, q4.tr (((TQ.fi _ 907 _ (by omega)).tr (TQ.fi _ 908 _ (by omega))).tr (TQ.fi _ 902 _ (by omega))), ?_, ?_, ?_, ?_, ?_, ?_, ?_⟩
          · rw [sFI_o _ _ (Or.inl (by decide)), sFI_o _ _ (Or.inl (by decide)), sFI_o _ _ (Or.inl (by decide))]; exact v3
          · rw [sFI_o _ _ (Or.inl (by decide)), sFI_at, eE]
          · rw [sFI_at, eS]; rfl
          · rw [sFI_o _ _ (Or.inl (by decide)), sFI_o _ _ (Or.inl (by decide)), sFI_at, if_pos eS]
          · intro z; rw [eS] at z; exact absurd z (by decide)
          · intro _; exact v6
          · intro z; rw [eS] at z; exact absurd z (by decide)
        · rw [if_neg cS] at go eS
          refine ⟨_, go, q4.tr ((((TQ.fi _ 907 _ (by omega)).tr (TQ.fi _ 908 _ (by omega))).tr (TQ.fi _ 902 _ (by omega))).tr (TQ.fi _ 907 _ (by omega))), ?_, ?_, ?_, ?_, ?_, ?_, ?_⟩
          · rw [sFI_o _ _ (Or.inl (by decide)), sFI_o _ _ (Or.inl (by decide)), sFI_o _ _ (Or.inl (by decide)), sFI_o _ _ (Or.inl (by decide))]; exact v3
          · rw [sFI_o _ _ (Or.inl (by decide)), sFI_o _ _ (Or.inl (by decide)), sFI_at, eE]
          · rw [sFI_o _ _ (Or.inl (by decide)), sFI_at, eS]; rfl
          · rw [sFI_at, if_neg (by rw [eS]; decide)]
          · intro z; rw [eS] at z; exact absurd z (by decide)
          · intro _; exact v6
          · intro z; rw [eS] at z; exact absurd z (by decide)
  · have eE : tkE n T b = b := by unfold tkE; rw [if_neg c0]
    have eS : tkS n T b = 0 := by unfold tkS; rw [if_neg c0]
    rw [if_neg (nI_nlt (by omega) (by omega)), am_kd_t z1, am_let_e] at go
    refine ⟨_, go, q4.tr (TQ.fi _ 902 _ (by omega)), ?_, ?_, ?_, ?_, ?_, ?_, ?_⟩
    · rw [sFI_o _ _ (Or.inl (by decide))]; exact v3
    · rw [sFI_o _ _ (Or.inl (by decide)), eE]; exact v8
    · rw [sFI_at, eS]; rfl
    · rw [sFI_o _ _ (Or.inl (by decide)), if_neg (by rw [eS]; decide)]; exact v7
    · intro z; rw [eS] at z; exact absurd z (by decide)
    · intro _; exact v6
    · intro z; rw [eS] at z; exact absurd z (by decide)
