/-! Drawn years: what is drawn; rain; a clock halved. -/
def dN (n : Nat) : Nat := (n * 1103515245 + 12345) % 2147483648
theorem dN_lt (n : Nat) : dN n < 2147483648 := Nat.mod_lt _ (by decide)
theorem sFJ_at (h : AH) (k a : Nat) (v : Int64) : hFJ (sFJ h k a v) k a = v := by
  rw [rd_hFJ_sFJ]
  unfold am_up2
  rw [if_pos ⟨rfl, rfl⟩]
theorem sFJ_sFJ (h : AH) (k a : Nat) (v w : Int64) : sFJ (sFJ h k a v) k a w = sFJ h k a w := AH_ext rfl rfl (am_up2_up2 _ _ _ _ _) rfl rfl rfl rfl rfl rfl
theorem sFJ_putS (h : AH) (k a b : Nat) (v : Int64) (R : SV) : sFJ (putS h b R) k a v = putS (sFJ h k a v) b R := AH_ext rfl rfl rfl rfl rfl rfl rfl rfl rfl
theorem sFJ_sAI (h : AH) (k a b : Nat) (v : Int64) (f : Nat → Int32) : sFJ (sAI h b f) k a v = sAI (sFJ h k a v) b f := AH_ext rfl rfl rfl rfl rfl rfl rfl rfl rfl
theorem hm_J (g : AH) (f : Nat → Int32) (ρ : Nat → Nat → Int32) (w : M4) : hFJ (HM g f ρ w) = hFJ g := rfl
theorem sFJ_HM (g : AH) (f : Nat → Int32) (ρ : Nat → Nat → Int32) (w : M4) (k a : Nat) (v : Int64) : sFJ (HM g f ρ w) k a v = HM (sFJ g k a v) f ρ w := AH_ext rfl rfl rfl rfl rfl rfl rfl rfl rfl
theorem dN_eq {n : Nat} (hn : n < 2147483648) : am_remJ (lN n * (1103515245 : Int64) + (12345 : Int64)) (2147483648 : Int64) = lN (dN n) := by
  have e1 : (1103515245 : Int64) = lN 1103515245 := rfl
  have e2 : (12345 : Int64) = lN 12345 := rfl
  have e3 : (2147483648 : Int64) = lN 2147483648 := rfl
  rw [e1, e2, e3, lN_mul, lN_add]
  exact pk_lRem (by omega) (by decide) (by decide)
theorem dV_eq {n m : Nat} (hm : 0 < m) (hm2 : m < 2147483648) : Int64.toInt32 (am_remJ (lN (dN n) / (65536 : Int64)) (Int32.toInt64 (nI m))) = nI (dN n / 65536 % m) := by
  have e1 : (65536 : Int64) = lN 65536 := rfl
  have := dN_lt n
  rw [e1, nI_l hm2, pk_lDiv (by omega) (by decide) (by decide)]
  unfold am_remJ
  rw [pk_lRem (by omega) hm (by omega), lN_i]
theorem l0 {m : Nat} (hm : 0 < m) (hm2 : m < 2147483648) : Int32.toInt64 (nI m) ≠ 0 := by
  rw [nI_l hm2]
  intro z
  have := (lN_eq (a := m) (b := 0) hm2 (by decide)).1 z
  omega
theorem c_drawB {d n m : Nat} {h : AH} (hk : hK h 93 = 1) (hj : hFJ h 2 93 = lN n) (hn : n < 2147483648) (hm : 0 < m) (hm2 : m < 2147483648) : am_C PG (d + 1) 11 [.ref 93, .int (nI m)] h = some (some (.int (nI (dN n / 65536 % m))), sFJ h 2 93 (lN (dN n))) := by
  have z1 : ∀ x, am_dzJ (2147483648 : Int64) x = x := fun x => am_dzJ_t (by decide) x
  have z2 : ∀ x, am_dzJ (65536 : Int64) x = x := fun x => am_dzJ_t (by decide) x
  have z3 : ∀ x, am_dzJ (Int32.toInt64 (nI m)) x = x := fun x => am_dzJ_t (l0 hm hm2) x
  have e : (nI m < (1 : Int32)) = False := eq_false (nI_nlt (b := 1) hm (by omega))
  rw [q_X0_drawBelow]
  simp only [am_kd, rd_hK_sFJ, hk, if_true, if_false, z1, z2, z3, am_let_e, hj, dN_eq hn, sFJ_at, e, dV_eq hm hm2]
theorem c_mdraw {d n m : Nat} {h : AH} (hk : hK h 348 = 13) (hj : hFJ h 1281 348 = lN n) (hn : n < 2147483648) (hm : 0 < m) (hm2 : m < 2147483648) : am_C PG (d + 1) 263 [.ref 348, .int (nI m)] h = some (some (.int (nI (dN n / 65536 % m))), sFJ h 1281 348 (lN (dN n))) := by
  have z1 : ∀ x, am_dzJ (2147483648 : Int64) x = x := fun x => am_dzJ_t (by decide) x
  have z2 : ∀ x, am_dzJ (65536 : Int64) x = x := fun x => am_dzJ_t (by decide) x
  have z3 : ∀ x, am_dzJ (Int32.toInt64 (nI m)) x = x := fun x => am_dzJ_t (l0 hm hm2) x
  rw [q_X12_draws]
  simp only [am_kd, rd_hK_sFJ, hk, if_true, z1, z2, z3, am_let_e, hj, dN_eq hn, sFJ_at, dV_eq hm hm2]
/-- rain: every clock is full -/
def xrain (nc : Nat) (ho : Nat → Int32) (R : SV) : SV := (R.1, cp nc ho R.2.1, R.2.2)
theorem c_rain {d p np nc ne nw : Nat} {g : AH} {R : SV} (hp : PoC g p np nc ne nw) (ha : AhSh g 93 94) (hpb : p ≤ 30) : am_C PG (d + 1) 13 [.ref 93, .ref p] (putS g 94 R) = some (none, putS g 94 (xrain nc (hAI g (p + 6)) R)) := by
  obtain ⟨a1, a2, a3⟩ := ha
  obtain ⟨s0, sf1, sf2, sf3, sf4, sf5, sf6, sf7, sf8, sk1, sk2, sk3, sk4, sk5, sk6, sk7, sk8, sn1, sn2, sn3, sn4, sn5, sn6, sn7, sn8⟩ := a3
  obtain ⟨⟨⟨p0, pf1, pf2, pf3, pf4, pf5, pf6, pf7, pf8, pf9, pf10, pf11, pf12, pf13, pf14, pf17, pk1, pk2, pk3, pk4, pk5, pk6, pk7, pk8, pk9, pk10, pk11, pk12, pk13, pn1, pn2, pn3, pn4, pn5, pn6, pn7, pn8, pn9, pn10, pn11, pn12, pn13⟩, -, -⟩, h1, h2, h3, h4, h5, h6, h7, h8⟩ := hp
  have w0 : ∀ R, hFI (putS g 94 R) 503 p = nI nc := fun R => by rw [pS_fi _ _ (Or.inl (by decide)), h2]
  have w6 : ∀ R, hAI (putS g 94 R) (p + 6) = hAI g (p + 6) := fun R => pS_far g R (by omega)
  have lp : ∀ i, i ≤ nc → am_C PG (d + 1) 13 [.ref 93, .ref p] (putS g 94 R) = am_R PG (d + 1) 13 2 [some (.ref 93), some (.ref p), some (.int (nI i))] [] (putS g 94 (xrain i (hAI g (p + 6)) R)) := by
    intro i
    induction i with
    | zero => intro _; unfold xrain; rw [q_X0_rain, cp_0]; rfl
    | succ i ih =>
      intro hi
      have e5 : (nI i < nI nc) = True := eq_true (nI_lt (by omega) (by omega))
      have e1 : ∀ x, am_in (nI i) 6 x = x := am_inN (by omega) (by decide)
      have t1 : Int32.toNatClampNeg (nI i) = i := nI_clamp (by omega)
      rw [ih (by omega), q_X0_rain_2]
      simp only [rd_hK_putS, rd_hFR_putS, rd_hLN_putS, rd_hFJ_putS, rd_hAJ_putS, rd_hAR_putS, rd_hNX_putS, pS_1, pS_2, pS_3, pS_4, pS_5, pS_6, pS_7, pS_8, pS_hr, pE_1, pE_2, pE_3, pE_4, pE_5, pE_6, pE_7, pE_8, putS_sFI, am_kd, a1, a2, s0, sf1, sf2, sf3, sf4, sf5, sf6, sf7, sf8, sk1, sk2, sk3, sk4, sk5, sk6, sk7, sk8, sn1, sn2, sn3, sn4, sn5, sn6, sn7, sn8, p0, pf1, pf2, pf3, pf4, pf5, pf6, pf7, pf8, pf9, pf10, pf11, pf12, pf13, pf14, pf17, pk1, pk2, pk3, pk4, pk5, pk6, pk7, pk8, pk9, pk10, pk11, pk12, pk13, pn1, pn2, pn3, pn4, pn5, pn6, pn7, pn8, pn9, pn10, pn11, pn12, pn13, if_true, w0, w6, e5, bR_s, e1, t1, am_let_e, nI_1]
      unfold xrain
      rw [← cp_succ]
  have e6 : (nI nc < nI nc) = False := eq_false (nI_nlt (Nat.le_refl _) (by omega))
  rw [lp nc (Nat.le_refl _), q_X0_rain_2]
  simp only [rd_hK_putS, rd_hFR_putS, rd_hLN_putS, rd_hFJ_putS, rd_hAJ_putS, rd_hAR_putS, rd_hNX_putS, pS_1, pS_2, pS_3, pS_4, pS_5, pS_6, pS_7, pS_8, pS_hr, pE_1, pE_2, pE_3, pE_4, pE_5, pE_6, pE_7, pE_8, putS_sFI, am_kd, p0, if_true, w0, e6, if_false]
theorem c_stillOnes {d p np nc ne nw : Nat} {h : AH} (hp : PoC h p np nc ne nw) (ha : AhSh h 93 94) : am_C PG (d + 1) 14 [.ref 93, .ref p] h = some (some (.int (sumN (hAI h 97) nc)), h) := by
  obtain ⟨a1, a2, a3⟩ := ha
  obtain ⟨s0, sf1, sf2, sf3, sf4, sf5, sf6, sf7, sf8, sk1, sk2, sk3, sk4, sk5, sk6, sk7, sk8, sn1, sn2, sn3, sn4, sn5, sn6, sn7, sn8⟩ := a3
  obtain ⟨⟨⟨p0, pf1, pf2, pf3, pf4, pf5, pf6, pf7, pf8, pf9, pf10, pf11, pf12, pf13, pf14, pf17, pk1, pk2, pk3, pk4, pk5, pk6, pk7, pk8, pk9, pk10, pk11, pk12, pk13, pn1, pn2, pn3, pn4, pn5, pn6, pn7, pn8, pn9, pn10, pn11, pn12, pn13⟩, -, -⟩, h1, h2, h3, h4, h5, h6, h7, h8⟩ := hp
  have lp : ∀ i, i ≤ nc → am_C PG (d + 1) 14 [.ref 93, .ref p] h = am_R PG (d + 1) 14 4 [some (.ref 93), some (.ref p), some (.int (sumN (hAI h 97) i)), some (.int (nI i))] [] h := by
    intro i
    induction i with
    | zero => intro _; rw [q_X0_stillOnes]; rfl
    | succ i ih =>
      intro hi
      have e5 : (nI i < nI nc) = True := eq_true (nI_lt (by omega) (by omega))
      have e1 : ∀ x, am_in (nI i) 6 x = x := am_inN (by omega) (by decide)
      have t1 : Int32.toNatClampNeg (nI i) = i := nI_clamp (by omega)
      rw [ih (by omega), q_X0_stillOnes_4]
      simp only [am_kd, a1, a2, s0, sf1, sf2, sf3, sf4, sf5, sf6, sf7, sf8, sk1, sk2, sk3, sk4, sk5, sk6, sk7, sk8, sn1, sn2, sn3, sn4, sn5, sn6, sn7, sn8, p0, pf1, pf2, pf3, pf4, pf5, pf6, pf7, pf8, pf9, pf10, pf11, pf12, pf13, pf14, pf17, pk1, pk2, pk3, pk4, pk5, pk6, pk7, pk8, pk9, pk10, pk11, pk12, pk13, pn1, pn2, pn3, pn4, pn5, pn6, pn7, pn8, pn9, pn10, pn11, pn12, pn13, if_true, h2, e5, bR_s, e1, t1, nI_1]
      rfl
  have e6 : (nI nc < nI nc) = False := eq_false (nI_nlt (Nat.le_refl _) (by omega))
  rw [lp nc (Nat.le_refl _), q_X0_stillOnes_4]
  simp only [am_kd, p0, if_true, h2, e6, if_false]
/-- the reference's sum of a piece of a row -/
theorem c_msum {d r a n len : Nat} {h : AH} (hk : hK h r = 50) (hl : hLN h r = len) (hle : a + n ≤ len) (h4 : len ≤ 4096) : am_C PG (d + 1) 265 [.ref r, .int (nI a), .int (nI n)] h = some (some (.int (sumN (fun i => hAI h r (a + i)) n)), h) := by
  have lp : ∀ i, i ≤ n → am_C PG (d + 1) 265 [.ref r, .int (nI a), .int (nI n)] h = am_R PG (d + 1) 265 5 [some (.ref r), some (.int (nI a)), some (.int (nI n)), some (.int (sumN (fun i => hAI h r (a + i)) i)), some (.int (nI (a + i)))] [] h := by
    intro i
    induction i with
    | zero => intro _; rw [q_X12_sum]; rfl
    | succ i ih =>
      intro hi
      have e5 : (nI (a + i) < nI (a + n)) = True := eq_true (nI_lt (by omega) (by omega))
      have e1 : ∀ x, am_in (nI (a + i)) len x = x := am_inN (by omega) (by omega)
      have t1 : Int32.toNatClampNeg (nI (a + i)) = a + i := nI_clamp (by omega)
      rw [ih (by omega), q_X12_sum_5]
      simp only [am_kd, hk, hl, if_true, nI_add, e5, e1, t1, nI_1]
      rfl
  have e6 : (nI (a + n) < nI (a + n)) = False := eq_false (nI_nlt (Nat.le_refl _) (by omega))
  rw [lp n (Nat.le_refl _), q_X12_sum_5]
  simp only [nI_add, e6, if_false]
/-- what an hour of the drawn years does ahead of the hour itself -/
def dlot (n : Nat) : Nat := dN n / 65536 % 20
def dcl (nc n : Nat) : Nat := dN (dN n) / 65536 % nc
def ysd (nc n : Nat) : Nat := if dlot n = 1 ∧ 0 < nc then dN (dN n) else dN n
def ylo (nc : Nat) (ho : Nat → Int32) (n : Nat) (R : SV) : SV := if dlot n = 0 then xrain nc ho R else if dlot n = 1 ∧ 0 < nc then xhas (dcl nc n) (R.2.1 (dcl nc n) - R.2.1 (dcl nc n) / 2) R else R
theorem ysd_lt (nc n : Nat) : ysd nc n < 2147483648 := by
  unfold ysd
  split
  · exact dN_lt _
  · exact dN_lt _
theorem SR_rain {M : Nat → Nat → Int32} {np nc ne nw hr : Nat} {R : SV} {Q : MQv} {ho : Nat → Int32} (h : SR M np nc ne nw hr R Q) (h1 : ∀ c, c < nc → ho c = M 359 c) (h2 : ∀ c, c < nc → 0 ≤ (M 359 c).toInt) : SR M np nc ne nw hr (xrain nc ho R) (xrain nc (M 359) Q.1, Q.2) := by
  obtain ⟨s1, s2, s3, s4, s5, s6, s7, s8, s9, s10, s11, s12, s13, s14, s15⟩ := h
  refine ⟨s1, s2, ?_, s4, s5, s6, s7, ?_, s9, s10, s11, ?_, s13, s14, s15⟩
  · intro c hc
    have b := s3 c hc
    show (cp nc ho R.2.1 c, (getc R c).2) = (cp nc (M 359) Q.1.2.1 c, (getc Q.1 c).2)
    rw [cp_in hc, cp_in hc, h1 c hc, b]
  · intro c hc
    have b := s8 c hc
    refine ⟨?_, ?_, b.2.2⟩
    · show 0 ≤ (cp nc (M 359) Q.1.2.1 c).toInt
      rw [cp_in hc]
      exact h2 c hc
    · show (cp nc (M 359) Q.1.2.1 c).toInt ≤ _
      rw [cp_in hc]
      exact Int.le_refl _
  · intro c c1 c2
    have b := s12 c c1 c2
    show (cp nc (M 359) Q.1.2.1 c, (getc Q.1 c).2) = _
    rw [cp_ge _ _ c1]
    exact b
theorem SR_ylo {P M : Nat → Nat → Int32} {np nc ne nw hr n : Nat} {R : SV} {Q : MQv} (hP : PRow P M np nc ne nw) (h : SR M np nc ne nw hr R Q) : SR M np nc ne nw hr (ylo nc (P 6) n R) (ylo nc (M 359) n Q.1, Q.2) := by
  unfold ylo
  by_cases c0 : dlot n = 0
  · rw [if_pos c0, if_pos c0]
    exact SR_rain h (fun c hc => (hP.1 c hc).2.2.1) (fun c hc => by have := (hP.2.2.2.2.1 c hc).2.2.1; omega)
  · rw [if_neg c0, if_neg c0]
    by_cases c1 : dlot n = 1 ∧ 0 < nc
    · rw [if_pos c1, if_pos c1]
      have hc : dcl nc n < nc := Nat.mod_lt _ c1.2
      generalize dcl nc n = c at hc
      have b : R.2.1 c = Q.1.2.1 c := congrArg Prod.fst (h.2.2.1 c hc)
      have ok := h.2.2.2.2.2.2.2.1 c hc
      have o1 : 0 ≤ (Q.1.2.1 c).toInt := ok.1
      have o2 : (Q.1.2.1 c).toInt ≤ (M 359 c).toInt := ok.2.1
      rw [b]
      obtain ⟨j, hj, ej⟩ := nI_of (x := Q.1.2.1 c) (by rw [i_lt, Int32.toInt_zero]; omega)
      have e2 : (2 : Int32) = nI 2 := rfl
      have ev : Q.1.2.1 c - Q.1.2.1 c / 2 = nI (j - j / 2) := by rw [ej, e2, pk_div hj (by decide) (by decide), pk_sub (Nat.div_le_self _ _)]
      have ev2 : (Q.1.2.1 c - Q.1.2.1 c / 2).toInt = ((j - j / 2 : Nat) : Int) := by rw [ev]; exact nI_toInt (by omega)
      rw [ej, nI_toInt hj] at o2
      exact SR_has h hc (by omega) (by omega)
    · rw [if_neg c1, if_neg c1]
      exact h
