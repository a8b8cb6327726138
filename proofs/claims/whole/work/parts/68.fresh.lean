/-! Bits of few; the reference's fresh row; works that went wrong. -/
def bo (j : Nat) (x : Int32) (b : Bool) : Int32 := if b = true then x ||| (1 : Int32) <<< (nI j &&& 31) else x
def bx (b0 b1 b2 b3 b4 b5 : Bool) : Int32 := bo 5 (bo 4 (bo 3 (bo 2 (bo 1 (bo 0 0 b0) b1) b2) b3) b4) b5
theorem bitN_6 (P : Nat → Bool) : bitN P 6 = bx (P 0) (P 1) (P 2) (P 3) (P 4) (P 5) := rfl
theorem bitN_up {P : Nat → Bool} {n : Nat} : ∀ k, (∀ j, n ≤ j → j < n + k → P j = false) → bitN P (n + k) = bitN P n
  | 0, _ => rfl
  | k + 1, h => by
    show (if P (n + k) = true then _ else bitN P (n + k)) = _
    rw [if_neg (by rw [h (n + k) (by omega) (by omega)]; decide)]
    exact bitN_up k (fun j h1 h2 => h j h1 (by omega))
/-- the same bits of six -/
def ext6 (P : Nat → Bool) (n : Nat) : Nat → Bool := fun j => decide (j < n) && P j
theorem bitN_ext {P : Nat → Bool} {n : Nat} (hn : n ≤ 6) : bitN P n = bitN (ext6 P n) 6 := by
  obtain ⟨k, hk⟩ : ∃ k, 6 = n + k := ⟨6 - n, by omega⟩
  rw [hk, bitN_up k]
  · apply bitN_congr
    intro j hj
    unfold ext6
    rw [decide_eq_true hj, Bool.true_and]
  · intro j h1 h2
    unfold ext6
    rw [decide_eq_false (by omega), Bool.false_and]
theorem bx_0 : ∀ b0 b1 b2 b3 b4 b5 : Bool, bx b0 b1 b2 b3 b4 b5 = 0 ↔ (b0 = false ∧ b1 = false ∧ b2 = false ∧ b3 = false ∧ b4 = false ∧ b5 = false) := by decide +kernel
theorem bit_zero {P : Nat → Bool} {n : Nat} (hn : n ≤ 6) : bitN P n = 0 ↔ ∀ j, j < n → P j = false := by
  rw [bitN_ext hn, bitN_6, bx_0]
  constructor
  · intro h j hj
    have e : ext6 P n j = P j := by unfold ext6; rw [decide_eq_true hj, Bool.true_and]
    obtain ⟨h0, h1, h2, h3, h4, h5⟩ := h
    rw [← e]
    have : j = 0 ∨ j = 1 ∨ j = 2 ∨ j = 3 ∨ j = 4 ∨ j = 5 := by omega
    rcases this with z | z | z | z | z | z <;> rw [z] <;> assumption
  · intro h
    have e : ∀ j, ext6 P n j = false := by
      intro j
      unfold ext6
      by_cases c : j < n
      · rw [h j c, Bool.and_false]
      · rw [decide_eq_false c, Bool.false_and]
    exact ⟨e 0, e 1, e 2, e 3, e 4, e 5⟩
/-- the fresh row -/
def zN : Nat → Int32 := fun _ => 0
def FQ (M : Nat → Nat → Int32) (np nc ne : Nat) (f : Nat → Int32) : MQv := ((0, cp nc (M 360) zN, zN, zN, cp ne (M 362) zN, cp ne (M 364) zN, zN, cp np (M 355) zN, zN), fun j => if j < 43 then 0 else f j)
theorem fr_z (f : Nat → Int32) : (fun k => if k < 43 then 0 else f k) = enc ((0, zN, zN, zN, zN, zN, zN, zN, zN), fun j => if j < 43 then 0 else f j) := by
  funext k
  by_cases c : 42 ≤ k
  · rw [enc_z _ c]
  · rw [if_pos (by omega)]
    unfold enc
    dsimp only [zN]
    simp only [ite_self, if_pos (show k < 43 by omega)]
theorem c_fresh {d np nc ne nw : Nat} {g : AH} {f : Nat → Int32} {ρ : Nat → Nat → Int32} {w : M4} (hm : MSh g) (h0 : hAI g 350 0 = nI np) (hn : MoC g nc ne nw) (hp : np ≤ 5) : am_C PG (d + 1) 206 [.ref 348] (HM g f ρ w) = some (none, HM g (enc (FQ (hAI g) np nc ne f)) ρ w) := by
  obtain ⟨n2, n3, n4, l2, l3, l4⟩ := hn
  have hm0 := hm
  have m0 := hm0.1
  have f1210 : hFR _ 1210 348 = some 350 := (hm0.2 1 (by decide)).1
  have k350 : hK _ 350 = 50 := (hm0.2 1 (by decide)).2.1
  have n350 : hLN _ 350 = 10 := (hm0.2 1 (by decide)).2.2
  have f1215 : hFR _ 1215 348 = some 355 := (hm0.2 6 (by decide)).1
  have k355 : hK _ 355 = 50 := (hm0.2 6 (by decide)).2.1
  have n355 : hLN _ 355 = 10 := (hm0.2 6 (by decide)).2.2
  have f1220 : hFR _ 1220 348 = some 360 := (hm0.2 11 (by decide)).1
  have k360 : hK _ 360 = 50 := (hm0.2 11 (by decide)).2.1
  have n360 : hLN _ 360 = 12 := (hm0.2 11 (by decide)).2.2
  have f1222 : hFR _ 1222 348 = some 362 := (hm0.2 13 (by decide)).1
  have k362 : hK _ 362 = 50 := (hm0.2 13 (by decide)).2.1
  have n362 : hLN _ 362 = 8 := (hm0.2 13 (by decide)).2.2
  have f1224 : hFR _ 1224 348 = some 364 := (hm0.2 15 (by decide)).1
  have k364 : hK _ 364 = 50 := (hm0.2 15 (by decide)).2.1
  have n364 : hLN _ 364 = 8 := (hm0.2 15 (by decide)).2.2
  have f1259 : hFR _ 1259 348 = some 397 := (hm0.2 48 (by decide)).1
  have k397 : hK _ 397 = 50 := (hm0.2 48 (by decide)).2.1
  have n397 : hLN _ 397 = 43 := (hm0.2 48 (by decide)).2.2
  have o : ∀ u a, (a < 375 ∨ 384 < a) → a ≠ 397 → hAI (HM g u ρ w) a = hAI g a := fun u a ha hb => hm_o _ _ _ _ hb ha
  have o0 := fun u => o u 350 (by decide) (by decide)
  have o5 := fun u => o u 355 (by decide) (by decide)
  have o6 := fun u => o u 360 (by decide) (by decide)
  have o7 := fun u => o u 362 (by decide) (by decide)
  have o8 := fun u => o u 364 (by decide) (by decide)
  have i2 : Int32.toNatClampNeg 2 = 2 := by decide
  have i3 : Int32.toNatClampNeg 3 = 3 := by decide
  have x0 : ∀ x, am_in (0 : Int32) 10 x = x := am_inN (i := 0) (by decide) (by decide)
  have x2 : ∀ x, am_in (2 : Int32) 10 x = x := am_inN (i := 2) (by decide) (by decide)
  have x3 : ∀ x, am_in (3 : Int32) 10 x = x := am_inN (i := 3) (by decide) (by decide)
  have lp1 : ∀ i, i ≤ 43 → am_C PG (d + 1) 206 [.ref 348] (HM g f ρ w) = am_R PG (d + 1) 206 2 [some (.ref 348), some (.int (nI i))] [] (HM g (fun k => if k < i then 0 else f k) ρ w) := by
    intro i
    induction i with
    | zero =>
      intro _
      rw [q_X12_fresh]
      have : (fun k => if k < 0 then 0 else f k) = f := by funext k; rw [if_neg (by omega)]
      rw [this]
      rfl
    | succ i ih =>
      intro hi
      have e5 : (nI i < (43 : Int32)) = True := eq_true (nI_lt (b := 43) (by omega) (by decide))
      have e1 : ∀ x, am_in (nI i) 43 x = x := am_inN (by omega) (by decide)
      have t1 : Int32.toNatClampNeg (nI i) = i := nI_clamp (by omega)
      rw [ih (by omega), q_X12_fresh_2]
      simp only [hm_K, hm_R, hm_L, hm_at, hm_E, hm_5, hm_6, hm_7, hm_8, hm_s5, hm_s6, hm_s7, hm_s8, am_kd, m0, f1210, k350, n350, f1215, k355, n355, f1220, k360, n360, f1222, k362, n362, f1224, k364, n364, f1259, k397, n397, if_true, e5, bR_s, e1, t1, am_let_e, zr_s, nI_1]
  have lp2 : ∀ i, i ≤ np → am_C PG (d + 1) 206 [.ref 348] (HM g f ρ w) = am_R PG (d + 1) 206 23 [some (.ref 348), some (.int (nI i))] [] (HM g (enc ((0, zN, zN, zN, zN, zN, zN, cp i (hAI g 355) zN, zN), fun j => if j < 43 then 0 else f j)) ρ w) := by
    intro i
    induction i with
    | zero =>
      intro _
      have z := lp1 43 (Nat.le_refl _)
      rw [fr_z] at z
      rw [z, q_X12_fresh_2, if_neg (show ¬ nI 43 < (43 : Int32) from nI_nlt (b := 43) (Nat.le_refl _) (by decide)), cp_0]
      rfl
    | succ i ih =>
      intro hi
      have e5 : (nI i < nI np) = True := eq_true (nI_lt (by omega) (by omega))
      have e1 : ∀ x, am_in (nI i) 10 x = x := am_inN (by omega) (by decide)
      have t1 : Int32.toNatClampNeg (nI i) = i := nI_clamp (by omega)
      have a1 : (1 : Int32) + nI i = nI (1 + i) := nI_add 1 i
      have e2 : ∀ x, am_in (nI (1 + i)) 43 x = x := am_inN (by omega) (by decide)
      have t2 : Int32.toNatClampNeg (nI (1 + i)) = 1 + i := nI_clamp (by omega)
      rw [ih (by omega), q_X12_fresh_23]
      simp only [hm_K, hm_R, hm_L, hm_at, hm_E, hm_5, hm_6, hm_7, hm_8, hm_s5, hm_s6, hm_s7, hm_s8, am_kd, m0, f1210, k350, n350, f1215, k355, n355, f1220, k360, n360, f1222, k362, n362, f1224, k364, n364, f1259, k397, n397, if_true, nI_cl0, o0, h0, e5, bR_s, x0, e1, t1, a1, e2, t2, o5, am_let_e, enu_w _ (show i < 5 by omega), cp_succ, nI_1]
  have lp3 : ∀ i, i ≤ nc → am_C PG (d + 1) 206 [.ref 348] (HM g f ρ w) = am_R PG (d + 1) 206 55 [some (.ref 348), some (.int (nI i))] [] (HM g (enc ((0, cp i (hAI g 360) zN, zN, zN, zN, zN, zN, cp np (hAI g 355) zN, zN), fun j => if j < 43 then 0 else f j)) ρ w) := by
    intro i
    induction i with
    | zero =>
      intro _
      have e6 : (nI np < nI np) = False := eq_false (nI_nlt (Nat.le_refl _) (by omega))
      rw [lp2 np (Nat.le_refl _), q_X12_fresh_23, cp_0]
      simp only [hm_K, hm_R, hm_L, hm_at, hm_E, hm_5, hm_6, hm_7, hm_8, hm_s5, hm_s6, hm_s7, hm_s8, am_kd, m0, f1210, k350, n350, f1215, k355, n355, f1220, k360, n360, f1222, k362, n362, f1224, k364, n364, f1259, k397, n397, if_true, nI_cl0, o0, h0, e6, if_false, bR_s, x0]
      rfl
    | succ i ih =>
      intro hi
      have e5 : (nI i < nI nc) = True := eq_true (nI_lt (by omega) (by omega))
      have e1 : ∀ x, am_in (nI i) 12 x = x := am_inN (by omega) (by decide)
      have t1 : Int32.toNatClampNeg (nI i) = i := nI_clamp (by omega)
      have a1 : (6 : Int32) + nI i = nI (6 + i) := nI_add 6 i
      have e2 : ∀ x, am_in (nI (6 + i)) 43 x = x := am_inN (by omega) (by decide)
      have t2 : Int32.toNatClampNeg (nI (6 + i)) = 6 + i := nI_clamp (by omega)
      rw [ih (by omega), q_X12_fresh_55]
      simp only [hm_K, hm_R, hm_L, hm_at, hm_E, hm_5, hm_6, hm_7, hm_8, hm_s5, hm_s6, hm_s7, hm_s8, am_kd, m0, f1210, k350, n350, f1215, k355, n355, f1220, k360, n360, f1222, k362, n362, f1224, k364, n364, f1259, k397, n397, if_true, i2, o0, n2, e5, bR_s, x2, e1, t1, a1, e2, t2, o6, am_let_e, enu_h _ (show i < 6 by omega), cp_succ, nI_1]
  have lp4 : ∀ i, i ≤ ne → am_C PG (d + 1) 206 [.ref 348] (HM g f ρ w) = am_R PG (d + 1) 206 88 [some (.ref 348), some (.int (nI i))] [] (HM g (enc ((0, cp nc (hAI g 360) zN, zN, zN, cp i (hAI g 362) zN, cp i (hAI g 364) zN, zN, cp np (hAI g 355) zN, zN), fun j => if j < 43 then 0 else f j)) ρ w) := by
    intro i
    induction i with
    | zero =>
      intro _
      have e6 : (nI nc < nI nc) = False := eq_false (nI_nlt (Nat.le_refl _) (by omega))
      rw [lp3 nc (Nat.le_refl _), q_X12_fresh_55, cp_0, cp_0]
      simp only [hm_K, hm_R, hm_L, hm_at, hm_E, hm_5, hm_6, hm_7, hm_8, hm_s5, hm_s6, hm_s7, hm_s8, am_kd, m0, f1210, k350, n350, f1215, k355, n355, f1220, k360, n360, f1222, k362, n362, f1224, k364, n364, f1259, k397, n397, if_true, i2, o0, n2, e6, if_false, bR_s, x2]
      rfl
    | succ i ih =>
      intro hi
      have e5 : (nI i < nI ne) = True := eq_true (nI_lt (by omega) (by omega))
      have e1 : ∀ x, am_in (nI i) 8 x = x := am_inN (by omega) (by decide)
      have t1 : Int32.toNatClampNeg (nI i) = i := nI_clamp (by omega)
      have a1 : (24 : Int32) + nI i = nI (24 + i) := nI_add 24 i
      have e2 : ∀ x, am_in (nI (24 + i)) 43 x = x := am_inN (by omega) (by decide)
      have t2 : Int32.toNatClampNeg (nI (24 + i)) = 24 + i := nI_clamp (by omega)
      have a3 : (28 : Int32) + nI i = nI (28 + i) := nI_add 28 i
      have e3 : ∀ x, am_in (nI (28 + i)) 43 x = x := am_inN (by omega) (by decide)
      have t3 : Int32.toNatClampNeg (nI (28 + i)) = 28 + i := nI_clamp (by omega)
      rw [ih (by omega), q_X12_fresh_88]
      simp only [hm_K, hm_R, hm_L, hm_at, hm_E, hm_5, hm_6, hm_7, hm_8, hm_s5, hm_s6, hm_s7, hm_s8, am_kd, m0, f1210, k350, n350, f1215, k355, n355, f1220, k360, n360, f1222, k362, n362, f1224, k364, n364, f1259, k397, n397, if_true, i3, o0, n3, e5, bR_s, x3, e1, t1, a1, e2, t2, a3, e3, t3, o7, o8, am_let_e, enu_a _ (show i < 4 by omega), enu_p _ (show i < 4 by omega), cp_succ, nI_1]
  have e6 : (nI ne < nI ne) = False := eq_false (nI_nlt (Nat.le_refl _) (by omega))
  rw [lp4 ne (Nat.le_refl _), q_X12_fresh_88]
  simp only [hm_K, hm_R, hm_L, hm_at, hm_E, hm_5, hm_6, hm_7, hm_8, hm_s5, hm_s6, hm_s7, hm_s8, am_kd, m0, f1210, k350, n350, f1215, k355, n355, f1220, k360, n360, f1222, k362, n362, f1224, k364, n364, f1259, k397, n397, if_true, i3, o0, n3, e6, if_false, bR_s, x3]
  rfl
/-- how many works went wrong -/
theorem c_wrongs {d : Nat} {g : AH} {Q : MQv} {ρ : Nat → Nat → Int32} {w : M4} (hm : MSh g) : am_C PG (d + 1) 235 [.ref 348] (HM g (enc Q) ρ w) = some (some (.int (nI (xso (fun i => ¬ 1 < dn Q.1 i) 6))), HM g (enc Q) ρ w) := by
  have m0 := hm.1
  have f1259 : hFR _ 1259 348 = some 397 := (hm.2 48 (by decide)).1
  have k397 : hK _ 397 = 50 := (hm.2 48 (by decide)).2.1
  have n397 : hLN _ 397 = 43 := (hm.2 48 (by decide)).2.2
  have lp : ∀ i, i ≤ 6 → am_C PG (d + 1) 235 [.ref 348] (HM g (enc Q) ρ w) = am_R PG (d + 1) 235 4 [some (.ref 348), some (.int (nI (xso (fun i => ¬ 1 < dn Q.1 i) i))), some (.int (nI i))] [] (HM g (enc Q) ρ w) := by
    intro i
    induction i with
    | zero => intro _; rw [q_X12_wrongWorks]; rfl
    | succ i ih =>
      intro hi
      have e5 : (nI i < (6 : Int32)) = True := eq_true (nI_lt (b := 6) (by omega) (by decide))
      have a1 : (36 : Int32) + nI i = nI (36 + i) := nI_add 36 i
      have e2 : ∀ x, am_in (nI (36 + i)) 43 x = x := am_inN (by omega) (by decide)
      have t2 : Int32.toNatClampNeg (nI (36 + i)) = 36 + i := nI_clamp (by omega)
      rw [ih (by omega), q_X12_wrongWorks_4]
      simp only [hm_K, hm_R, hm_L, hm_at, hm_E, hm_5, hm_6, hm_7, hm_8, hm_s5, hm_s6, hm_s7, hm_s8, am_kd, m0, f1259, k397, n397, if_true, e5, bR_s, a1, e2, t2, enc_o _ (show i < 6 by omega)]
      by_cases c : 1 < dn Q.1 i
      · rw [if_pos (show 1 < Q.1.2.2.2.2.2.2.2.2 i from c)]
        simp only [xso, if_neg (show ¬ ¬ 1 < dn Q.1 i from fun z => z c), nI_1]
      · rw [if_neg (show ¬ 1 < Q.1.2.2.2.2.2.2.2.2 i from c)]
        simp only [xso, if_pos (show ¬ 1 < dn Q.1 i from c), nI_1, Nat.add_zero, add0]
  rw [lp 6 (Nat.le_refl _), q_X12_wrongWorks_4, if_neg (show ¬ nI 6 < (6 : Int32) from nI_nlt (b := 6) (Nat.le_refl _) (by decide))]
theorem xso_pos (D : Nat → Prop) [DecidablePred D] : ∀ n, 0 < xso D n ↔ ∃ i, i < n ∧ ¬ D i
  | 0 => ⟨fun h => absurd h (by unfold xso; omega), fun ⟨i, hi, _⟩ => by omega⟩
  | n + 1 => by
    have ih := xso_pos D n
    unfold xso
    constructor
    · intro h
      by_cases c : D n
      · rw [if_pos c] at h
        obtain ⟨i, h1, h2⟩ := ih.1 (by omega)
        exact ⟨i, by omega, h2⟩
      · exact ⟨n, by omega, c⟩
    · intro ⟨i, h1, h2⟩
      by_cases c : D n
      · have : 0 < xso D n := ih.2 ⟨i, by
          by_cases e : i = n
          · subst e; exact absurd c h2
          · omega, h2⟩
        omega
      · rw [if_neg c]
        omega
/-- both sides see a work that went wrong alike -/
theorem SR_bad {M : Nat → Nat → Int32} {np nc ne nw hr : Nat} {R : SV} {Q : MQv} (hn : nw ≤ 6) (h : SR M np nc ne nw hr R Q) : bitN (fun w => decide (dn R w = 2 ∨ dn R w = 3)) nw = 0 ↔ ¬ 0 < nI (xso (fun i => ¬ 1 < dn Q.1 i) 6) := by
  obtain ⟨s1, s2, s3, s4, s5, s6, s7, s8, s9, s10, s11, s12, s13, s14, s15⟩ := h
  have le := xso_le (fun i => ¬ 1 < dn Q.1 i) 6
  have e : (0 < nI (xso (fun i => ¬ 1 < dn Q.1 i) 6)) ↔ 0 < xso (fun i => ¬ 1 < dn Q.1 i) 6 := nI_ltI (a := 0) (by decide) (by omega)
  rw [bit_zero hn, e, xso_pos]
  constructor
  · intro h ⟨i, h1, h2⟩
    have h3 : 1 < dn Q.1 i := Decidable.not_not.1 h2
    by_cases c : i < nw
    · have z := of_decide_eq_false (h i c)
      rw [s6 i c] at z
      rcases s11 i c with a | a | a | a
      · rw [a] at h3; exact absurd h3 (by decide)
      · rw [a] at h3; exact absurd h3 (by decide)
      · exact z (Or.inl a)
      · exact z (Or.inr a)
    · rw [s15 i (by omega) h1] at h3
      exact absurd h3 (by decide)
  · intro h j hj
    apply decide_eq_false
    intro z
    apply h
    refine ⟨j, by omega, fun y => y ?_⟩
    rw [s6 j hj] at z
    rcases z with z | z
    · rw [z]; decide
    · rw [z]; decide
