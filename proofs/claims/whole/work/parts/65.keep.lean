/-! What undo keeps: the class's ring of States, the reference's shifted rows. -/
theorem sFI_sFI (h : AH) (k a : Nat) (v w : Int32) : sFI (sFI h k a v) k a w = sFI h k a w := AH_ext rfl (am_up2_up2 _ _ _ _ _) rfl rfl rfl rfl rfl rfl rfl
theorem sFI_o (h : AH) {k a j b : Nat} (v : Int32) (e : j ≠ k ∨ b ≠ a) : hFI (sFI h k a v) j b = hFI h j b := by
  rw [rd_hFI_sFI]
  unfold am_up2
  rw [if_neg]
  intro z
  rcases e with e | e
  · exact e z.1
  · exact e z.2
theorem sFI_sAI (h : AH) (k a b : Nat) (v : Int32) (f : Nat → Int32) : sAI (sFI h k a v) b f = sFI (sAI h b f) k a v := AH_ext rfl rfl rfl rfl rfl rfl rfl rfl rfl
theorem getS_sFI (h : AH) {k a b : Nat} (v : Int32) (e : k ≠ 700) : getS (sFI h k a v) b = getS h b := by
  unfold getS
  rw [sFI_o _ _ (Or.inl (fun z => e z.symm))]
  simp only [rd_hAI_sFI]
def XUn (g : AH) : Prop := hK g 0 = 12 ∧ hFR g 1108 0 = some 83 ∧ hFR g 1111 0 = some 84 ∧ hK g 83 = 54 ∧ hLN g 83 = 16 ∧ (∀ j, j < 16 → hAR g 83 j = some (204 + 9 * j)) ∧ (∀ j, j < 16 → StSh g (204 + 9 * j)) ∧ StSh g 84
theorem XUn.to {h g : AH} (e1 : hK g = hK h) (e2 : hFR g 1108 0 = hFR h 1108 0) (e3 : hFR g 1111 0 = hFR h 1111 0) (e4 : hLN g = hLN h) (e5 : hAR g = hAR h) (e6 : ∀ a, StSh h a → StSh g a) (s : XUn h) : XUn g := by
  obtain ⟨x0, x1, x2, x3, x4, x5, x6, x7⟩ := s
  exact ⟨by rw [e1, x0], by rw [e2, x1], by rw [e3, x2], by rw [e1, x3], by rw [e4, x4], fun j hj => by rw [e5, x5 j hj], fun j hj => e6 _ (x6 j hj), e6 _ x7⟩
theorem c_keepB {d fr mn : Nat} {g : AH} (hx : XUn g) (hf : hFI g 1109 0 = nI fr) (hm : hFI g 1110 0 = nI mn) (h1 : fr < 16) (h2 : mn ≤ 16) :
    am_C PG (d + 2) 140 [.ref 0] g = some (none, if mn < 16 then sFI (putS g (204 + 9 * ((fr + mn) % 16)) (cpS (getS g 84) (getS g (204 + 9 * ((fr + mn) % 16))))) 1110 0 (nI (mn + 1)) else sFI (putS g (204 + 9 * ((fr + mn) % 16)) (cpS (getS g 84) (getS g (204 + 9 * ((fr + mn) % 16))))) 1109 0 (nI ((fr + 1) % 16))) := by
  obtain ⟨x0, x1, x2, x3, x4, x5, x6, x7⟩ := hx
  have hj : (fr + mn) % 16 < 16 := Nat.mod_lt _ (by decide)
  have q2 : am_rem (nI (fr + mn)) 16 = nI ((fr + mn) % 16) := rem_nI (d := 16) (by omega) (by decide) (by decide)
  have q3 : am_rem (nI (fr + 1)) 16 = nI ((fr + 1) % 16) := rem_nI (d := 16) (by omega) (by decide) (by decide)
  generalize (fr + mn) % 16 = j at hj q2 ⊢
  have k := c_copy (d := d) (R := getS g (204 + 9 * j)) (x6 j hj) x7 (by omega)
  rw [putS_get] at k
  have d16 : ∀ x, am_dz (16 : Int32) x = x := fun x => am_dz_t (by decide) x
  have e1 : ∀ x, am_in (nI j) 16 x = x := am_inN hj (by decide)
  have t1 : Int32.toNatClampNeg (nI j) = j := nI_clamp (by omega)
  have s0 := (x6 j hj).1
  have y1 : ∀ R, hFI (putS g (204 + 9 * j) R) 1109 0 = nI fr := fun R => by rw [pS_fi _ _ (Or.inl (by decide)), hf]
  have y2 : ∀ R, hFI (putS g (204 + 9 * j) R) 1110 0 = nI mn := fun R => by rw [pS_fi _ _ (Or.inl (by decide)), hm]
  rw [q_X11_keepBefore]
  simp only [am_kd, rd_hK_putS, x0, x1, x2, x3, x4, if_true, bR_s, d16, hf, hm, nI_add, q2, e1, t1, x5 j hj, s0, k, bV_s, y1, y2, am_let_e, nI_1, q3]
  by_cases c : mn < 16
  · have e5 : nI mn < (16 : Int32) := nI_lt (b := 16) c (by decide)
    simp only [if_pos e5, if_pos c]
  · have e5 : ¬ nI mn < (16 : Int32) := nI_nlt (b := 16) (by omega) (by omega)
    simp only [if_neg e5, if_neg c]
theorem c_undo_no {d : Nat} {g : AH} (x0 : hK g 0 = 12) (hm : hFI g 1110 0 = 0) : am_C PG (d + 1) 141 [.ref 0] g = some (some (.int 0), g) := by
  have e : ((0 : Int32) < 1) = True := eq_true (by decide)
  rw [q_X11_undo]
  simp only [am_kd, x0, if_true, hm, e, am_nar4_0]
theorem c_undo {d fr mn : Nat} {g : AH} (hx : XUn g) (hn : hFR g 1105 0 = some 61) (hk : hK g 61 = 9) (hs : hFR g 800 61 = some 62) (h62 : StSh g 62) (hf : hFI g 1109 0 = nI fr) (hm : hFI g 1110 0 = nI (mn + 1)) (h1 : fr < 16) (h2 : mn < 16) :
    am_C PG (d + 2) 141 [.ref 0] g = some (some (.int 1), putS (sFI g 1110 0 (nI mn)) 62 (cpS (getS g (204 + 9 * ((fr + mn) % 16))) (getS g 62))) := by
  obtain ⟨x0, x1, x2, x3, x4, x5, x6, x7⟩ := hx
  have hj : (fr + mn) % 16 < 16 := Nat.mod_lt _ (by decide)
  have q2 : am_rem (nI (fr + mn)) 16 = nI ((fr + mn) % 16) := rem_nI (d := 16) (by omega) (by decide) (by decide)
  generalize (fr + mn) % 16 = j at hj q2 ⊢
  have k := c_copy (d := d) (g := sFI g 1110 0 (nI mn)) (R := getS (sFI g 1110 0 (nI mn)) 62) (h62.to rfl rfl rfl) ((x6 j hj).to rfl rfl rfl) (by omega)
  rw [putS_get, getS_sFI _ _ (by decide), getS_sFI _ _ (by decide)] at k
  have d16 : ∀ x, am_dz (16 : Int32) x = x := fun x => am_dz_t (by decide) x
  have e1 : ∀ x, am_in (nI j) 16 x = x := am_inN hj (by decide)
  have t1 : Int32.toNatClampNeg (nI j) = j := nI_clamp (by omega)
  have s0 := h62.1
  have e5 : (nI (mn + 1) < (1 : Int32)) = False := eq_false (nI_nlt (b := 1) (by omega) (by omega))
  have y1 : hFI (sFI g 1110 0 (nI mn)) 1109 0 = nI fr := by rw [sFI_o _ _ (Or.inl (by decide)), hf]
  have y2 : hFI (sFI g 1110 0 (nI mn)) 1110 0 = nI mn := sFI_at _ _ _ _
  rw [q_X11_undo]
  simp only [am_kd, rd_hK_sFI, rd_hFR_sFI, rd_hLN_sFI, rd_hAR_sFI, x0, x1, x3, x4, hn, hk, hs, s0, if_true, if_false, e5, bR_s, d16, hm, nI_pred, y1, y2, nI_add, q2, e1, t1, x5 j hj, k, bV_s, am_let_e, am_nar4_1]
/-- the reference: the oldest of sixteen falls off -/
def msh (U : Nat → Int32) : Nat → Int32 := fun k => if k < 645 then U (k + 43) else U k
def mkp (n : Nat) (U f : Nat → Int32) : Nat → Int32 := if n = 16 then am_cpy f (msh U) 0 645 43 else am_cpy f U 0 (43 * n) 43
theorem c_keeps {d n : Nat} {g : AH} {f : Nat → Int32} {ρ : Nat → Nat → Int32} {w : M4} (hm : MSh g) (hn : hFI g 1264 348 = nI n) (hl : n ≤ 16) :
    am_C PG (d + 2) 221 [.ref 348] (HM g f ρ w) = some (none, HM (sFI (sAI g 400 (mkp n (hAI g 400) f)) 1264 348 (nI (if n = 16 then 16 else n + 1))) f ρ w) := by
  have hm0 := hm
  have m0 := hm0.1
  have f1259 : hFR _ 1259 348 = some 397 := (hm0.2 48 (by decide)).1
  have k397 : hK _ 397 = 50 := (hm0.2 48 (by decide)).2.1
  have n397 : hLN _ 397 = 43 := (hm0.2 48 (by decide)).2.2
  have f1262 : hFR _ 1262 348 = some 400 := (hm0.2 51 (by decide)).1
  have k400 : hK _ 400 = 50 := (hm0.2 51 (by decide)).2.1
  have n400 : hLN _ 400 = 688 := (hm0.2 51 (by decide)).2.2
  have o4 : ∀ g, hAI (HM g f ρ w) 400 = hAI g 400 := fun g => hm_o _ _ _ _ (by decide) (by decide)
  have fo : ∀ g, hFI (HM g f ρ w) 1264 348 = hFI g 1264 348 := fun g => hm_fo _ _ _ _ (Or.inr (Or.inl (by decide)))
  by_cases c : n = 16
  · subst c
    rw [if_pos rfl]
    unfold mkp
    rw [if_pos rfl]
    have lp : ∀ i, i ≤ 645 → am_C PG (d + 2) 221 [.ref 348] (HM g f ρ w) = am_R PG (d + 2) 221 11 [some (.ref 348), some (.int (nI i))] [] (HM (sAI g 400 (fun k => if k < i then hAI g 400 (k + 43) else hAI g 400 k)) f ρ w) := by
      intro i
      induction i with
      | zero =>
        intro _
        have : (fun k => if k < 0 then hAI g 400 (k + 43) else hAI g 400 k) = hAI g 400 := by funext k; rw [if_neg (by omega)]
        have e : nI 16 = 16 := rfl
        rw [q_X12_keeps, this, sAI_self]
        simp only [hm_K, am_kd, m0, if_true, fo, hn, e]
        rfl
      | succ i ih =>
        intro hi
        have e5 : (nI i < (645 : Int32)) = True := eq_true (nI_lt (b := 645) (by omega) (by decide))
        have q : nI i + 43 = nI (i + 43) := nI_add i 43
        have e1 : ∀ x, am_in (nI i) 688 x = x := am_inN (by omega) (by decide)
        have e2 : ∀ x, am_in (nI (i + 43)) 688 x = x := am_inN (by omega) (by decide)
        have t1 : Int32.toNatClampNeg (nI i) = i := nI_clamp (by omega)
        have t2 : Int32.toNatClampNeg (nI (i + 43)) = i + 43 := nI_clamp (by omega)
        have up : upd (fun k => if k < i then hAI g 400 (k + 43) else hAI g 400 k) i (hAI g 400 (i + 43)) = fun k => if k < i + 1 then hAI g 400 (k + 43) else hAI g 400 k := by
          funext k
          by_cases e : k = i
          · subst e
            rw [pk_us, if_pos (by omega)]
          · rw [pk_un e]
            by_cases c : k < i
            · rw [if_pos c, if_pos (by omega)]
            · rw [if_neg c, if_neg (by omega)]
        have n43 : (i + 43 < i) = False := eq_false (by omega)
        rw [ih (by omega), q_X12_keeps_11]
        simp only [hm_K, hm_R, hm_L, rd_hK_sAI, rd_hFR_sAI, rd_hLN_sAI, am_kd, m0, f1259, k397, n397, f1262, k400, n400, if_true, e5, bR_s, q, e1, e2, t1, t2, o4, sAI_at, sEI_e, am_let_e, nI_1]
        rw [hm_sAI _ _ _ _ _ (by decide) (by decide), sAI_sAI, if_neg (by omega), up]
    have e6 : (nI 645 < (645 : Int32)) = False := eq_false (nI_nlt (b := 645) (Nat.le_refl _) (by decide))
    have e16 : (nI 16 - 1 : Int32) = nI 15 := nI_pred 15
    have k := c_copies (d := d) (r1 := 397) (r2 := 400) (n1 := 43) (n2 := 688) (a := 0) (b := 645) (h := HM (sFI (sAI g 400 (msh (hAI g 400))) 1264 348 (nI 15)) f ρ w) (by decide) (by rw [hm_K, rd_hK_sFI, rd_hK_sAI]; exact k397) (by rw [hm_K, rd_hK_sFI, rd_hK_sAI]; exact k400) (by rw [hm_L, rd_hLN_sFI, rd_hLN_sAI]; exact n397) (by rw [hm_L, rd_hLN_sFI, rd_hLN_sAI]; exact n400) (by decide) (by decide) (by decide) (by decide)
    rw [hm_at, o4, rd_hAI_sFI, sAI_at, hm_sAI _ _ _ _ _ (by decide) (by decide), sFI_sAI, sAI_sAI] at k
    have z : (43 : Int32) * nI 15 = nI 645 := by decide
    have z0 : (0 : Int32) = nI 0 := rfl
    have z16 : nI 15 + 1 = nI 16 := rfl
    rw [lp 645 (Nat.le_refl _), q_X12_keeps_11]
    simp only [hm_K, hm_R, hm_L, rd_hK_sAI, rd_hFR_sAI, rd_hLN_sAI, am_kd, m0, f1259, k397, n397, f1262, k400, n400, if_true, e6, if_false, fo, rd_hFI_sAI, hn, e16, am_let_e]
    rw [hm_sFI _ _ _ _ _ (Or.inr (Or.inl (by decide)))]
    simp only [hm_K, hm_R, rd_hK_sAI, rd_hFR_sAI, rd_hK_sFI, rd_hFR_sFI, m0, f1259, k397, n397, f1262, k400, n400, if_true, bR_s, fo, sFI_at, z]
    have kk : am_C PG (d + 1) 201 [.ref 397, .int 0, .ref 400, .int (nI 645)] (HM (sFI (sAI g 400 (fun k => if k < 645 then hAI g 400 (k + 43) else hAI g 400 k)) 1264 348 (nI 15)) f ρ w) = some (none, HM (sFI (sAI g 400 (am_cpy f (msh (hAI g 400)) 0 645 43)) 1264 348 (nI 15)) f ρ w) := k
    rw [kk, bV_s]
    simp only [hm_K, rd_hK_sAI, rd_hK_sFI, m0, if_true, fo, sFI_at, z16]
    rw [hm_sFI _ _ _ _ _ (Or.inr (Or.inl (by decide))), sFI_sFI]
  · rw [if_neg c]
    unfold mkp
    rw [if_neg c]
    have e16 : (nI n = (16 : Int32)) = False := eq_false (by intro z; exact c ((nI_eq (b := 16) (by omega) (by decide)).1 z))
    have z : (43 : Int32) * nI n = nI (43 * n) := pk_mul 43 n
    have k := c_copies (d := d) (r1 := 397) (r2 := 400) (n1 := 43) (n2 := 688) (a := 0) (b := 43 * n) (h := HM g f ρ w) (by decide) (by rw [hm_K]; exact k397) (by rw [hm_K]; exact k400) (by rw [hm_L]; exact n397) (by rw [hm_L]; exact n400) (by decide) (by omega) (by decide) (by decide)
    rw [hm_at, o4, hm_sAI _ _ _ _ _ (by decide) (by decide)] at k
    have kk : am_C PG (d + 1) 201 [.ref 397, .int 0, .ref 400, .int (nI (43 * n))] (HM g f ρ w) = some (none, HM (sAI g 400 (am_cpy f (hAI g 400) 0 (43 * n) 43)) f ρ w) := k
    rw [q_X12_keeps]
    simp only [hm_K, hm_R, am_kd, m0, f1259, k397, n397, f1262, k400, n400, if_true, fo, hn, e16, if_false, bR_s, z, kk, bV_s, rd_hK_sAI, rd_hFI_sAI, am_let_e, nI_1]
    rw [hm_sFI _ _ _ _ _ (Or.inr (Or.inl (by decide)))]
/-- slot j of the kept rows -/
def slot (U : Nat → Int32) (j : Nat) : Nat → Int32 := fun k => U (43 * j + k)
theorem mkp_old {n j k : Nat} {U f : Nat → Int32} (hn : n < 16) (hj : j < n) (hk : k < 43) : slot (mkp n U f) j k = slot U j k := by
  unfold slot mkp
  rw [if_neg (by omega)]
  unfold am_cpy
  rw [if_neg (by omega)]
theorem mkp_new {n k : Nat} {U f : Nat → Int32} (hn : n < 16) (hk : k < 43) : slot (mkp n U f) n k = f k := by
  unfold slot mkp
  rw [if_neg (by omega)]
  unfold am_cpy
  rw [if_pos (by omega), show 0 + (43 * n + k - 43 * n) = k by omega]
theorem mkp_old16 {j k : Nat} {U f : Nat → Int32} (hj : j < 15) (hk : k < 43) : slot (mkp 16 U f) j k = slot U (j + 1) k := by
  unfold slot mkp
  rw [if_pos rfl]
  unfold am_cpy msh
  rw [if_neg (by omega), if_pos (by omega), show 43 * j + k + 43 = 43 * (j + 1) + k by omega]
theorem mkp_new16 {k : Nat} {U f : Nat → Int32} (hk : k < 43) : slot (mkp 16 U f) 15 k = f k := by
  unfold slot mkp
  rw [if_pos rfl]
  unfold am_cpy
  rw [if_pos (by omega), show 0 + (43 * 15 + k - 645) = k by omega]
