/-! A siege: what works kept cost and pay. -/
def SG (g : AH) (u1 u2 : Nat → Int32) (v : Int32) : AH := sFI (sAI (sAI g 114 u1) 115 u2) 104 112 v
theorem SG_K (g : AH) (u1 u2 : Nat → Int32) (v : Int32) : hK (SG g u1 u2 v) = hK g := rfl
theorem SG_R (g : AH) (u1 u2 : Nat → Int32) (v : Int32) : hFR (SG g u1 u2 v) = hFR g := rfl
theorem SG_L (g : AH) (u1 u2 : Nat → Int32) (v : Int32) : hLN (SG g u1 u2 v) = hLN g := rfl
theorem SG_1 (g : AH) (u1 u2 : Nat → Int32) (v : Int32) : hAI (SG g u1 u2 v) 114 = u1 := by
  unfold SG
  rw [rd_hAI_sFI, sAI_ne _ _ (by decide), sAI_at]
theorem SG_2 (g : AH) (u1 u2 : Nat → Int32) (v : Int32) : hAI (SG g u1 u2 v) 115 = u2 := by
  unfold SG
  rw [rd_hAI_sFI, sAI_at]
theorem SG_o (g : AH) (u1 u2 : Nat → Int32) (v : Int32) {b : Nat} (h1 : b ≠ 114) (h2 : b ≠ 115) : hAI (SG g u1 u2 v) b = hAI g b := by
  unfold SG
  rw [rd_hAI_sFI, sAI_ne _ _ h2, sAI_ne _ _ h1]
theorem SG_E1 (g : AH) (u1 u2 : Nat → Int32) (v : Int32) (j : Nat) (x : Int32) : sEI (SG g u1 u2 v) 114 j x = SG g (upd u1 j x) u2 v := by
  rw [sEI_e, SG_1]
  unfold SG
  rw [sFI_sAI, sAI_comm _ (show (115 : Nat) ≠ 114 by decide), sAI_sAI]
theorem SG_E2 (g : AH) (u1 u2 : Nat → Int32) (v : Int32) (j : Nat) (x : Int32) : sEI (SG g u1 u2 v) 115 j x = SG g u1 (upd u2 j x) v := by
  rw [sEI_e, SG_2]
  unfold SG
  rw [sFI_sAI, sAI_sAI]
theorem SG_f (g : AH) (u1 u2 : Nat → Int32) (v : Int32) : hFI (SG g u1 u2 v) 104 112 = v := sFI_at _ _ _ _
theorem SG_s (g : AH) (u1 u2 : Nat → Int32) (v x : Int32) : sFI (SG g u1 u2 v) 104 112 x = SG g u1 u2 x := sFI_sFI _ _ _ _ _
theorem SG_fo (g : AH) (u1 u2 : Nat → Int32) (v : Int32) {k a : Nat} (h : a ≠ 112) : hFI (SG g u1 u2 v) k a = hFI g k a := sFI_o _ _ (Or.inr h)
theorem SG_self (g : AH) : SG g (hAI g 114) (hAI g 115) (hFI g 104 112) = g := by
  unfold SG
  rw [sAI_self, sAI_self]
  exact AH_ext rfl (am_up2_self _ _ _) rfl rfl rfl rfl rfl rfl rfl
/-- a work kept by clocks c and people p -/
def sK (M : Nat → Nat → Int32) (c p : Int32) (w : Nat) : Bool := decide (((c >>> (M 366 w &&& 31)) &&& 1) = 1) && (decide (((p >>> (M 365 w &&& 31)) &&& 1) = 1) && !decide (M 357 (Int32.toNatClampNeg (M 366 w)) = 2))
/-- the last hour of works kept of one -/
def lo (K : Nat → Bool) (key du : Nat → Int32) (t : Int32) : Nat → Int32
  | 0 => 0
  | n + 1 => if K n = true ∧ key n = t then (if lo K key du t n < du n then du n else lo K key du t n) else lo K key du t n
theorem lo_rng {K : Nat → Bool} {key du : Nat → Int32} {t : Int32} : ∀ n, (∀ w, w < n → ∃ k, 1 ≤ k ∧ k ≤ 99 ∧ du w = nI k) → ∃ k, k ≤ 99 ∧ lo K key du t n = nI k
  | 0, _ => ⟨0, by decide, rfl⟩
  | n + 1, h => by
    obtain ⟨k, k1, k2⟩ := lo_rng (K := K) (key := key) (t := t) n (fun w hw => h w (by omega))
    obtain ⟨j, j0, j1, j2⟩ := h n (by omega)
    unfold lo
    split
    · split
      · exact ⟨j, j1, j2⟩
      · exact ⟨k, k1, k2⟩
    · exact ⟨k, k1, k2⟩
def sPay (M : Nat → Nat → Int32) (c p : Int32) (n : Nat) : Int32 := sumN (fun w => if sK M c p w = true then M 368 w else 0) n
/-- the water that they cost: f the sums of thirst -/
def sCost (M : Nat → Nat → Int32) (f : Nat → Int32) (nc ne nw : Nat) (c p : Int32) : Int32 := sumF (fun e => M 363 e * lo (sK M c p) (M 365) (M 367) (nI e) nw) (sumN (fun t => f (100 * t + Int32.toNatClampNeg (lo (sK M c p) (M 366) (M 367) (nI t) nw))) nc) ne
theorem c_siegeCost {d p np nc ne nw : Nat} {g : AH} {M : Nat → Nat → Int32} {c q : Int32} (hp : PoC g p np nc ne nw) (hP : PRow (rowsP g p) M np nc ne nw) (hc : ChoSh g) (hpb : p ≤ 30) (h0 : ∀ t, t < nc → hAI g 113 (100 * t) = 0) (u1 u2 : Nat → Int32) (v : Int32) :
    ∃ y1 y2, am_C PG (d + 2) 18 [.ref 112, .ref p, .int c, .int q] (SG g u1 u2 v) = some (some (.int (sCost M (hAI g 113) nc ne nw c q)), SG g y1 y2 (sPay M c q nw)) := by
  obtain ⟨c0, -, cs⟩ := hc
  obtain ⟨r1, k1, l1⟩ := cs 0 (by decide)
  obtain ⟨r2, k2, l2⟩ := cs 1 (by decide)
  obtain ⟨r3, k3, l3⟩ := cs 2 (by decide)
  have r1 : hFR g 101 112 = some 113 := r1
  have k1 : hK g 113 = 50 := k1
  have l1 : hLN g 113 = 600 := l1
  have r2 : hFR g 102 112 = some 114 := r2
  have k2 : hK g 114 = 50 := k2
  have l2 : hLN g 114 = 6 := l2
  have r3 : hFR g 103 112 = some 115 := r3
  have k3 : hK g 115 = 50 := k3
  have l3 : hLN g 115 = 4 := l3
  obtain ⟨p1, p2, p3, p4, p5, p6, p7, p8, p9, p10, p11⟩ := hP
  obtain ⟨⟨⟨p0, pf1, pf2, pf3, pf4, pf5, pf6, pf7, pf8, pf9, pf10, pf11, pf12, pf13, pf14, pf17, pk1, pk2, pk3, pk4, pk5, pk6, pk7, pk8, pk9, pk10, pk11, pk12, pk13, pn1, pn2, pn3, pn4, pn5, pn6, pn7, pn8, pn9, pn10, pn11, pn12, pn13⟩, -, -⟩, h1', h2', h3', h4', h5', h6', h7', h8'⟩ := hp
  have w4 : ∀ u1 u2 v, hAI (SG g u1 u2 v) (p + 4) = hAI g (p + 4) := fun _ _ _ => SG_o _ _ _ _ (by omega) (by omega)
  have w8 : ∀ u1 u2 v, hAI (SG g u1 u2 v) (p + 8) = hAI g (p + 8) := fun _ _ _ => SG_o _ _ _ _ (by omega) (by omega)
  have w9 : ∀ u1 u2 v, hAI (SG g u1 u2 v) (p + 9) = hAI g (p + 9) := fun _ _ _ => SG_o _ _ _ _ (by omega) (by omega)
  have w10 : ∀ u1 u2 v, hAI (SG g u1 u2 v) (p + 10) = hAI g (p + 10) := fun _ _ _ => SG_o _ _ _ _ (by omega) (by omega)
  have w11 : ∀ u1 u2 v, hAI (SG g u1 u2 v) (p + 11) = hAI g (p + 11) := fun _ _ _ => SG_o _ _ _ _ (by omega) (by omega)
  have w12 : ∀ u1 u2 v, hAI (SG g u1 u2 v) (p + 12) = hAI g (p + 12) := fun _ _ _ => SG_o _ _ _ _ (by omega) (by omega)
  have w113 : ∀ u1 u2 v, hAI (SG g u1 u2 v) 113 = hAI g 113 := fun _ _ _ => SG_o _ _ _ _ (by decide) (by decide)
  have x3 : ∀ u1 u2 v, hFI (SG g u1 u2 v) 503 p = nI nc := fun _ _ _ => by rw [SG_fo _ _ _ _ (by omega)]; exact h2'
  have x4 : ∀ u1 u2 v, hFI (SG g u1 u2 v) 504 p = nI ne := fun _ _ _ => by rw [SG_fo _ _ _ _ (by omega)]; exact h3'
  have x5 : ∀ u1 u2 v, hFI (SG g u1 u2 v) 505 p = nI nw := fun _ _ _ => by rw [SG_fo _ _ _ _ (by omega)]; exact h4'
  generalize hZ : am_C PG (d + 2) 18 [.ref 112, .ref p, .int c, .int q] (SG g u1 u2 v) = Z
  have lp1 : ∀ i, i ≤ 6 → Z = am_R PG (d + 2) 18 8 [some (.ref 112), some (.ref p), some (.int c), some (.int q), some (.int (nI i)), none, none] [] (SG g (fun k => if k < i then 0 else u1 k) u2 0) := by
    intro i
    induction i with
    | zero =>
      intro _
      rw [← hZ, q_X1_siegeCost]
      simp only [SG_K, SG_R, SG_L, SG_1, SG_2, SG_E1, SG_E2, SG_f, SG_s, am_kd, c0, if_true, am_let_e, Nat.not_lt_zero, if_false]
      rfl
    | succ i ih =>
      intro hi
      have e5 : (nI i < (6 : Int32)) = True := eq_true (nI_lt (b := 6) (by omega) (by decide))
      have e1 : ∀ x, am_in (nI i) 6 x = x := am_inN (by omega) (by decide)
      have t1 : Int32.toNatClampNeg (nI i) = i := nI_clamp (by omega)
      rw [ih (by omega), q_X1_siegeCost_8]
      simp only [SG_K, SG_R, SG_L, SG_1, SG_2, SG_E1, SG_E2, SG_f, SG_s, am_kd, c0, r2, k2, l2, if_true, bR_s, e5, e1, t1, am_let_e, zr_s, nI_1]
  have lp2 : ∀ i, i ≤ 4 → Z = am_R PG (d + 2) 18 32 [some (.ref 112), some (.ref p), some (.int c), some (.int q), some (.int (nI i)), none, none] [] (SG g (fun k => if k < 6 then 0 else u1 k) (fun k => if k < i then 0 else u2 k) 0) := by
    intro i
    induction i with
    | zero =>
      intro _
      rw [lp1 6 (Nat.le_refl _), q_X1_siegeCost_8, if_neg (show ¬ nI 6 < (6 : Int32) by decide)]
      simp only [Nat.not_lt_zero, if_false]
      rfl
    | succ i ih =>
      intro hi
      have e5 : (nI i < (4 : Int32)) = True := eq_true (nI_lt (b := 4) (by omega) (by decide))
      have e1 : ∀ x, am_in (nI i) 4 x = x := am_inN (by omega) (by decide)
      have t1 : Int32.toNatClampNeg (nI i) = i := nI_clamp (by omega)
      rw [ih (by omega), q_X1_siegeCost_32]
      simp only [SG_K, SG_R, SG_L, SG_1, SG_2, SG_E1, SG_E2, SG_f, SG_s, am_kd, c0, r3, k3, l3, if_true, bR_s, e5, e1, t1, am_let_e, zr_s, nI_1]
  have lp3 : ∀ i, i ≤ nw → ∃ y1 y2, (∀ j, j < 6 → y1 j = lo (sK M c q) (M 366) (M 367) (nI j) i) ∧ (∀ j, j < 4 → y2 j = lo (sK M c q) (M 365) (M 367) (nI j) i) ∧ Z = am_R PG (d + 2) 18 55 [some (.ref 112), some (.ref p), some (.int c), some (.int q), some (.int (nI i)), none, none] [] (SG g y1 y2 (sPay M c q i)) := by
    intro i
    induction i with
    | zero =>
      intro _
      refine ⟨(fun k => if k < 6 then 0 else u1 k), (fun k => if k < 4 then 0 else u2 k), fun j hj => if_pos hj, fun j hj => if_pos hj, ?_⟩
      rw [lp2 4 (Nat.le_refl _), q_X1_siegeCost_32, if_neg (show ¬ nI 4 < (4 : Int32) by decide)]
      rfl
    | succ i ih =>
      intro hi
      obtain ⟨y1, y2, a1, a2, a3⟩ := ih (by omega)
      obtain ⟨⟨e, he, he2⟩, ⟨t, ht, ht2⟩, ⟨du, du1, du2, du3⟩, -⟩ := p7 i (by omega)
      obtain ⟨b1, b2, b3, b4⟩ := p3 i (by omega)
      have b1 : hAI g (p + 9) i = nI e := b1.trans he2
      have b2 : hAI g (p + 10) i = nI t := b2.trans ht2
      have b3 : hAI g (p + 11) i = M 367 i := b3
      have b4 : hAI g (p + 12) i = M 368 i := b4
      have b5 : hAI g (p + 4) t = M 357 t := (p1 t ht).1
      have e5 : (nI i < nI nw) = True := eq_true (nI_lt (by omega) (by omega))
      have e1 : ∀ x, am_in (nI i) 6 x = x := am_inN (by omega) (by decide)
      have t1 : Int32.toNatClampNeg (nI i) = i := nI_clamp (by omega)
      have e6 : ∀ x, am_in (nI t) 6 x = x := am_inN (by omega) (by decide)
      have t6 : Int32.toNatClampNeg (nI t) = t := nI_clamp (by omega)
      have e4 : ∀ x, am_in (nI e) 4 x = x := am_inN (by omega) (by decide)
      have t4 : Int32.toNatClampNeg (nI e) = e := nI_clamp (by omega)
      have hk : sK M c q i = (decide (((c >>> (nI t &&& 31)) &&& 1) = 1) && (decide (((q >>> (nI e &&& 31)) &&& 1) = 1) && !decide (M 357 t = 2))) := by
        unfold sK
        rw [he2, ht2, t6]
      have hpy : sPay M c q (i + 1) = sPay M c q i + (if sK M c q i = true then M 368 i else 0) := rfl
      have skip : sK M c q i = false → (∀ j, j < 6 → y1 j = lo (sK M c q) (M 366) (M 367) (nI j) (i + 1)) ∧ (∀ j, j < 4 → y2 j = lo (sK M c q) (M 365) (M 367) (nI j) (i + 1)) ∧ sPay M c q (i + 1) = sPay M c q i := by
        intro z
        refine ⟨fun j hj => ?_, fun j hj => ?_, ?_⟩
        · unfold lo
          rw [z, if_neg (fun z => by cases z.1)]
          exact a1 j hj
        · unfold lo
          rw [z, if_neg (fun z => by cases z.1)]
          exact a2 j hj
        · rw [hpy, z, if_neg (by decide), add0]
      by_cases q1 : ((c >>> (nI t &&& 31)) &&& 1) = 1
      · by_cases q2 : ((q >>> (nI e &&& 31)) &&& 1) = 1
        · by_cases q3 : M 357 t = 2
          · have z : sK M c q i = false := by rw [hk, decide_eq_true q3, Bool.not_true, Bool.and_false, Bool.and_false]
            obtain ⟨z1, z2, z3⟩ := skip z
            refine ⟨y1, y2, z1, z2, ?_⟩
            rw [a3, q_X1_siegeCost_55, z3]
            simp only [SG_K, SG_R, SG_L, SG_1, SG_2, SG_E1, SG_E2, SG_f, SG_s, am_kd, p0, pf1, pf2, pf3, pf4, pf5, pf6, pf7, pf8, pf9, pf10, pf11, pf12, pf13, pf14, pf17, pk1, pk2, pk3, pk4, pk5, pk6, pk7, pk8, pk9, pk10, pk11, pk12, pk13, pn1, pn2, pn3, pn4, pn5, pn6, pn7, pn8, pn9, pn10, pn11, pn12, pn13, c0, x5, w4, w9, w10, if_true, bR_s, e5, e1, t1, b1, b2, b5, q1, q2, q3, e6, t6, nI_1]
          · have z : sK M c q i = true := by rw [hk, decide_eq_true q1, decide_eq_true q2, decide_eq_false q3]; rfl
            refine ⟨upd y1 t (if y1 t < M 367 i then M 367 i else y1 t), upd y2 e (if y2 e < M 367 i then M 367 i else y2 e), fun j hj => ?_, fun j hj => ?_, ?_⟩
            · unfold lo
              rw [z, ht2]
              by_cases ej : j = t
              · subst ej
                rw [pk_us, a1 j hj, if_pos (show true = true ∧ nI j = nI j from ⟨rfl, rfl⟩)]
              · rw [pk_un ej, if_neg (fun z => ej ((nI_eq (by omega) (by omega)).1 z.2).symm)]
                exact a1 j hj
            · unfold lo
              rw [z, he2]
              by_cases ej : j = e
              · subst ej
                rw [pk_us, a2 j hj, if_pos (show true = true ∧ nI j = nI j from ⟨rfl, rfl⟩)]
              · rw [pk_un ej, if_neg (fun z => ej ((nI_eq (by omega) (by omega)).1 z.2).symm)]
                exact a2 j hj
            · rw [a3, q_X1_siegeCost_55, hpy, if_pos z]
              simp only [SG_K, SG_R, SG_L, SG_1, SG_2, SG_E1, SG_E2, SG_f, SG_s, am_kd, p0, pf1, pf2, pf3, pf4, pf5, pf6, pf7, pf8, pf9, pf10, pf11, pf12, pf13, pf14, pf17, pk1, pk2, pk3, pk4, pk5, pk6, pk7, pk8, pk9, pk10, pk11, pk12, pk13, pn1, pn2, pn3, pn4, pn5, pn6, pn7, pn8, pn9, pn10, pn11, pn12, pn13, c0, x5, w4, w9, w10, w11, w12, r2, k2, l2, r3, k3, l3, if_true, if_false, bR_s, e5, e1, t1, b1, b2, b3, b4, b5, q1, q2, q3, e6, t6, e4, t4, c_max, bI_s, am_let_e, nI_1]
        · have z : sK M c q i = false := by rw [hk, decide_eq_false q2, Bool.false_and, Bool.and_false]
          obtain ⟨z1, z2, z3⟩ := skip z
          refine ⟨y1, y2, z1, z2, ?_⟩
          rw [a3, q_X1_siegeCost_55, z3]
          simp only [SG_K, SG_R, SG_L, SG_1, SG_2, SG_E1, SG_E2, SG_f, SG_s, am_kd, p0, pf1, pf2, pf3, pf4, pf5, pf6, pf7, pf8, pf9, pf10, pf11, pf12, pf13, pf14, pf17, pk1, pk2, pk3, pk4, pk5, pk6, pk7, pk8, pk9, pk10, pk11, pk12, pk13, pn1, pn2, pn3, pn4, pn5, pn6, pn7, pn8, pn9, pn10, pn11, pn12, pn13, c0, x5, w4, w9, w10, if_true, if_false, bR_s, e5, e1, t1, b1, b2, q1, q2, nI_1]
      · have z : sK M c q i = false := by rw [hk, decide_eq_false q1, Bool.false_and]
        obtain ⟨z1, z2, z3⟩ := skip z
        refine ⟨y1, y2, z1, z2, ?_⟩
        rw [a3, q_X1_siegeCost_55, z3]
        simp only [SG_K, SG_R, SG_L, SG_1, SG_2, SG_E1, SG_E2, SG_f, SG_s, am_kd, p0, pf1, pf2, pf3, pf4, pf5, pf6, pf7, pf8, pf9, pf10, pf11, pf12, pf13, pf14, pf17, pk1, pk2, pk3, pk4, pk5, pk6, pk7, pk8, pk9, pk10, pk11, pk12, pk13, pn1, pn2, pn3, pn4, pn5, pn6, pn7, pn8, pn9, pn10, pn11, pn12, pn13, c0, x5, w4, w9, w10, if_true, if_false, bR_s, e5, e1, t1, b1, b2, q1, nI_1]
  obtain ⟨y1, y2, a1, a2, a3⟩ := lp3 nw (Nat.le_refl _)
  have hdu : ∀ w, w < nw → ∃ k, 1 ≤ k ∧ k ≤ 99 ∧ M 367 w = nI k := fun w hw => (p7 w hw).2.2.1
  have lp4 : ∀ i, i ≤ nc → Z = am_R PG (d + 2) 18 189 [some (.ref 112), some (.ref p), none, none, some (.int (sumN (fun t => hAI g 113 (100 * t + Int32.toNatClampNeg (lo (sK M c q) (M 366) (M 367) (nI t) nw))) i)), some (.int (nI i)), none] [] (SG g y1 y2 (sPay M c q nw)) := by
    intro i
    induction i with
    | zero =>
      intro _
      have e5 : (nI nw < nI nw) = False := eq_false (nI_nlt (Nat.le_refl _) (by omega))
      rw [a3, q_X1_siegeCost_55]
      simp only [SG_K, SG_R, SG_L, SG_1, SG_2, SG_E1, SG_E2, SG_f, SG_s, am_kd, p0, pf1, pf2, pf3, pf4, pf5, pf6, pf7, pf8, pf9, pf10, pf11, pf12, pf13, pf14, pf17, pk1, pk2, pk3, pk4, pk5, pk6, pk7, pk8, pk9, pk10, pk11, pk12, pk13, pn1, pn2, pn3, pn4, pn5, pn6, pn7, pn8, pn9, pn10, pn11, pn12, pn13, x5, if_true, if_false, e5]
      rfl
    | succ i ih =>
      intro hi
      have e5 : (nI i < nI nc) = True := eq_true (nI_lt (by omega) (by omega))
      have e1 : ∀ x, am_in (nI i) 6 x = x := am_inN (by omega) (by decide)
      have t1 : Int32.toNatClampNeg (nI i) = i := nI_clamp (by omega)
      obtain ⟨k, hk1, hk2⟩ := lo_rng (K := sK M c q) (key := M 366) (t := nI i) nw hdu
      have hy : y1 i = nI k := (a1 i (by omega)).trans hk2
      have sm : sumN (fun t => hAI g 113 (100 * t + Int32.toNatClampNeg (lo (sK M c q) (M 366) (M 367) (nI t) nw))) (i + 1) = sumN (fun t => hAI g 113 (100 * t + Int32.toNatClampNeg (lo (sK M c q) (M 366) (M 367) (nI t) nw))) i + hAI g 113 (100 * i + k) := by
        show _ + hAI g 113 (100 * i + Int32.toNatClampNeg (lo (sK M c q) (M 366) (M 367) (nI i) nw)) = _
        rw [hk2, nI_clamp (by omega)]
      have m1 : nI i * (100 : Int32) + nI k = nI (100 * i + k) := by rw [show (100 : Int32) = nI 100 from rfl, pk_mul, nI_add, Nat.mul_comm]
      have i1 : ∀ x, am_in (nI (100 * i + k)) 600 x = x := am_inN (by omega) (by decide)
      have ti : Int32.toNatClampNeg (nI (100 * i + k)) = 100 * i + k := nI_clamp (by omega)
      rw [ih (by omega), q_X1_siegeCost_189, sm]
      by_cases z : k = 0
      · subst z
        have : nI 0 = 0 := rfl
        rw [show 100 * i + 0 = 100 * i from rfl, h0 i (by omega)]
        simp only [SG_K, SG_R, SG_L, SG_1, SG_2, SG_E1, SG_E2, SG_f, SG_s, am_kd, p0, pf1, pf2, pf3, pf4, pf5, pf6, pf7, pf8, pf9, pf10, pf11, pf12, pf13, pf14, pf17, pk1, pk2, pk3, pk4, pk5, pk6, pk7, pk8, pk9, pk10, pk11, pk12, pk13, pn1, pn2, pn3, pn4, pn5, pn6, pn7, pn8, pn9, pn10, pn11, pn12, pn13, c0, x3, r2, k2, l2, if_true, bR_s, e5, e1, t1, hy, this, nI_1]
      · have : (nI k = 0) = False := eq_false (nI_ne0 (by omega) (by omega))
        simp only [SG_K, SG_R, SG_L, SG_1, SG_2, SG_E1, SG_E2, SG_f, SG_s, am_kd, p0, pf1, pf2, pf3, pf4, pf5, pf6, pf7, pf8, pf9, pf10, pf11, pf12, pf13, pf14, pf17, pk1, pk2, pk3, pk4, pk5, pk6, pk7, pk8, pk9, pk10, pk11, pk12, pk13, pn1, pn2, pn3, pn4, pn5, pn6, pn7, pn8, pn9, pn10, pn11, pn12, pn13, c0, x3, r1, k1, l1, r2, k2, l2, w113, if_true, if_false, bR_s, e5, e1, t1, hy, this, m1, i1, ti, nI_1]
  have lp5 : ∀ i, i ≤ ne → Z = am_R PG (d + 2) 18 244 [some (.ref 112), some (.ref p), none, none, some (.int (sumF (fun e => M 363 e * lo (sK M c q) (M 365) (M 367) (nI e) nw) (sumN (fun t => hAI g 113 (100 * t + Int32.toNatClampNeg (lo (sK M c q) (M 366) (M 367) (nI t) nw))) nc) i)), some (.int (nI i)), none] [] (SG g y1 y2 (sPay M c q nw)) := by
    intro i
    induction i with
    | zero =>
      intro _
      have e5 : (nI nc < nI nc) = False := eq_false (nI_nlt (Nat.le_refl _) (by omega))
      rw [lp4 nc (Nat.le_refl _), q_X1_siegeCost_189]
      simp only [SG_K, SG_R, SG_L, SG_1, SG_2, SG_E1, SG_E2, SG_f, SG_s, am_kd, p0, pf1, pf2, pf3, pf4, pf5, pf6, pf7, pf8, pf9, pf10, pf11, pf12, pf13, pf14, pf17, pk1, pk2, pk3, pk4, pk5, pk6, pk7, pk8, pk9, pk10, pk11, pk12, pk13, pn1, pn2, pn3, pn4, pn5, pn6, pn7, pn8, pn9, pn10, pn11, pn12, pn13, x3, if_true, if_false, e5]
      rfl
    | succ i ih =>
      intro hi
      have e5 : (nI i < nI ne) = True := eq_true (nI_lt (by omega) (by omega))
      have e1 : ∀ x, am_in (nI i) 4 x = x := am_inN (by omega) (by decide)
      have t1 : Int32.toNatClampNeg (nI i) = i := nI_clamp (by omega)
      have b8 : hAI g (p + 8) i = M 363 i := p2 i (by omega)
      rw [ih (by omega), q_X1_siegeCost_244]
      simp only [SG_K, SG_R, SG_L, SG_1, SG_2, SG_E1, SG_E2, SG_f, SG_s, am_kd, p0, pf1, pf2, pf3, pf4, pf5, pf6, pf7, pf8, pf9, pf10, pf11, pf12, pf13, pf14, pf17, pk1, pk2, pk3, pk4, pk5, pk6, pk7, pk8, pk9, pk10, pk11, pk12, pk13, pn1, pn2, pn3, pn4, pn5, pn6, pn7, pn8, pn9, pn10, pn11, pn12, pn13, c0, x4, w8, r3, k3, l3, if_true, bR_s, e5, e1, t1, b8, a2 i (by omega), nI_1, sumF]
  refine ⟨y1, y2, ?_⟩
  have e5 : (nI ne < nI ne) = False := eq_false (nI_nlt (Nat.le_refl _) (by omega))
  rw [lp5 ne (Nat.le_refl _), q_X1_siegeCost_244]
  simp only [SG_K, SG_R, SG_L, SG_1, SG_2, SG_E1, SG_E2, SG_f, SG_s, am_kd, p0, pf1, pf2, pf3, pf4, pf5, pf6, pf7, pf8, pf9, pf10, pf11, pf12, pf13, pf14, pf17, pk1, pk2, pk3, pk4, pk5, pk6, pk7, pk8, pk9, pk10, pk11, pk12, pk13, pn1, pn2, pn3, pn4, pn5, pn6, pn7, pn8, pn9, pn10, pn11, pn12, pn13, x4, if_true, if_false, e5]
  rfl
