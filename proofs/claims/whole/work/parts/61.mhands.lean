/-! The reference's small methods: copies, hours, hands. -/
theorem hm_sAI (g : AH) (f : Nat → Int32) (ρ : Nat → Nat → Int32) (w : M4) {b : Nat} (u : Nat → Int32) (h1 : b ≠ 397) (h2 : b < 375 ∨ 384 < b) : sAI (HM g f ρ w) b u = HM (sAI g b u) f ρ w := by
  apply AH_ext
  all_goals (try simp only [rd_hK_sFI, rd_hFI_sFI, rd_hFJ_sFI, rd_hFR_sFI, rd_hLN_sFI, rd_hAI_sFI, rd_hAJ_sFI, rd_hAR_sFI, rd_hNX_sFI, rd_hK_sEI, rd_hFI_sEI, rd_hFJ_sEI, rd_hFR_sEI, rd_hLN_sEI, rd_hAI_sEI, rd_hAJ_sEI, rd_hAR_sEI, rd_hNX_sEI, rd_hK_sAI, rd_hFI_sAI, rd_hFJ_sAI, rd_hFR_sAI, rd_hLN_sAI, rd_hAI_sAI, rd_hAJ_sAI, rd_hAR_sAI, rd_hNX_sAI, rd_hK_sCP, rd_hFI_sCP, rd_hFJ_sCP, rd_hFR_sCP, rd_hLN_sCP, rd_hAI_sCP, rd_hAJ_sCP, rd_hAR_sCP, rd_hNX_sCP, hm_K, hm_R, hm_L])
  · unfold HM
    simp only [rd_hFI_mF, rd_hFI_mV, rd_hFI_sAI]
  · unfold HM
    simp only [rd_hFJ_mF, rd_hFJ_mV, rd_hFJ_sAI]
  · funext c
    unfold am_up
    by_cases e : c = b
    · rw [if_pos e, e, hm_o _ _ _ _ h1 h2, sAI_at]
    · rw [if_neg e]
      by_cases e3 : c = 397
      · rw [e3, hm_at, hm_at]
      · by_cases e4 : 375 ≤ c ∧ c ≤ 384
        · unfold HM
          rw [rd_hAI_mF, rd_hAI_mF, mV_in _ _ e4.1 e4.2, mV_in _ _ e4.1 e4.2]
        · rw [hm_o _ _ _ _ e3 (by omega), hm_o _ _ _ _ e3 (by omega), sAI_ne _ _ e]
  · unfold HM
    simp only [rd_hAJ_mF, rd_hAJ_mV, rd_hAJ_sAI]
  · unfold HM
    simp only [rd_hAR_mF, rd_hAR_mV, rd_hAR_sAI]
  · unfold HM
    simp only [rd_hNX_mF, rd_hNX_mV, rd_hNX_sAI]
theorem hm_fo (g : AH) (f : Nat → Int32) (ρ : Nat → Nat → Int32) (w : M4) {k a : Nat} (e : a ≠ 348 ∨ k < 1265 ∨ 1268 < k) : hFI (HM g f ρ w) k a = hFI g k a := by
  unfold HM
  rw [mF_out _ _ e, rd_hFI_mV, rd_hFI_sAI]
theorem hm_sFI (g : AH) (f : Nat → Int32) (ρ : Nat → Nat → Int32) (w : M4) {k a : Nat} (v : Int32) (e : a ≠ 348 ∨ k < 1265 ∨ 1268 < k) : sFI (HM g f ρ w) k a v = HM (sFI g k a v) f ρ w := by
  unfold HM
  apply AH_ext
  all_goals (try simp only [rd_hK_sFI, rd_hFI_sFI, rd_hFJ_sFI, rd_hFR_sFI, rd_hLN_sFI, rd_hAI_sFI, rd_hAJ_sFI, rd_hAR_sFI, rd_hNX_sFI, rd_hK_sEI, rd_hFI_sEI, rd_hFJ_sEI, rd_hFR_sEI, rd_hLN_sEI, rd_hAI_sEI, rd_hAJ_sEI, rd_hAR_sEI, rd_hNX_sEI, rd_hK_sAI, rd_hFI_sAI, rd_hFJ_sAI, rd_hFR_sAI, rd_hLN_sAI, rd_hAI_sAI, rd_hAJ_sAI, rd_hAR_sAI, rd_hNX_sAI, rd_hK_sCP, rd_hFI_sCP, rd_hFJ_sCP, rd_hFR_sCP, rd_hLN_sCP, rd_hAI_sCP, rd_hAJ_sCP, rd_hAR_sCP, rd_hNX_sCP, rd_hK_mF, rd_hFJ_mF, rd_hFR_mF, rd_hLN_mF, rd_hAI_mF, rd_hAJ_mF, rd_hAR_mF, rd_hNX_mF, rd_hK_mV, rd_hFJ_mV, rd_hFR_mV, rd_hLN_mV, rd_hAJ_mV, rd_hAR_mV, rd_hNX_mV, rd_hAI_mV])
  funext j b
  unfold am_up2
  by_cases c : j = k ∧ b = a
  · obtain ⟨rfl, rfl⟩ := c
    rw [if_pos ⟨rfl, rfl⟩, mF_out _ _ e, rd_hFI_mV, rd_hFI_sAI, rd_hFI_sFI]
    unfold am_up2
    rw [if_pos ⟨rfl, rfl⟩]
  · rw [if_neg c, rd_hFI_mF, rd_hFI_mF]
    dsimp only
    rw [rd_hFI_mV, rd_hFI_mV, rd_hFI_sAI, rd_hFI_sAI, rd_hFI_sFI]
    unfold am_up2
    rw [if_neg c]
theorem hm_397 (g : AH) (f : Nat → Int32) (ρ : Nat → Nat → Int32) (w : M4) (u : Nat → Int32) : sAI (HM g f ρ w) 397 u = HM g u ρ w := by
  apply AH_ext
  all_goals (try simp only [rd_hK_sFI, rd_hFI_sFI, rd_hFJ_sFI, rd_hFR_sFI, rd_hLN_sFI, rd_hAI_sFI, rd_hAJ_sFI, rd_hAR_sFI, rd_hNX_sFI, rd_hK_sEI, rd_hFI_sEI, rd_hFJ_sEI, rd_hFR_sEI, rd_hLN_sEI, rd_hAI_sEI, rd_hAJ_sEI, rd_hAR_sEI, rd_hNX_sEI, rd_hK_sAI, rd_hFI_sAI, rd_hFJ_sAI, rd_hFR_sAI, rd_hLN_sAI, rd_hAI_sAI, rd_hAJ_sAI, rd_hAR_sAI, rd_hNX_sAI, rd_hK_sCP, rd_hFI_sCP, rd_hFJ_sCP, rd_hFR_sCP, rd_hLN_sCP, rd_hAI_sCP, rd_hAJ_sCP, rd_hAR_sCP, rd_hNX_sCP, hm_K, hm_R, hm_L])
  · unfold HM
    simp only [rd_hFI_mF, rd_hFI_mV, rd_hFI_sAI]
  · unfold HM
    simp only [rd_hFJ_mF, rd_hFJ_mV, rd_hFJ_sAI]
  · funext c
    unfold am_up
    by_cases e : c = 397
    · rw [if_pos e, e, hm_at]
    · rw [if_neg e]
      by_cases e4 : 375 ≤ c ∧ c ≤ 384
      · unfold HM
        rw [rd_hAI_mF, rd_hAI_mF, mV_in _ _ e4.1 e4.2, mV_in _ _ e4.1 e4.2]
      · rw [hm_o _ _ _ _ e (by omega), hm_o _ _ _ _ e (by omega)]
  · unfold HM
    simp only [rd_hAJ_mF, rd_hAJ_mV, rd_hAJ_sAI]
  · unfold HM
    simp only [rd_hAR_mF, rd_hAR_mV, rd_hAR_sAI]
  · unfold HM
    simp only [rd_hNX_mF, rd_hNX_mV, rd_hNX_sAI]
theorem am_cpy_0 (f g : Nat → Int32) (a b : Nat) : am_cpy f g a b 0 = g := by
  funext k
  unfold am_cpy
  rw [if_neg (by omega)]
theorem am_cpy_s (f g : Nat → Int32) (a b n : Nat) : upd (am_cpy f g a b n) (b + n) (f (a + n)) = am_cpy f g a b (n + 1) := by
  funext k
  by_cases e : k = b + n
  · subst e
    rw [pk_us]
    unfold am_cpy
    rw [if_pos (by omega), show b + n - b = n by omega]
  · rw [pk_un e]
    unfold am_cpy
    by_cases e2 : b ≤ k ∧ k < b + n
    · rw [if_pos e2, if_pos (by omega)]
    · rw [if_neg e2, if_neg (by omega)]
theorem c_copies {d r1 r2 a b n1 n2 : Nat} {h : AH} (hne : r1 ≠ r2) (k1 : hK h r1 = 50) (k2 : hK h r2 = 50) (l1 : hLN h r1 = n1) (l2 : hLN h r2 = n2) (b1 : a + 43 ≤ n1) (b2 : b + 43 ≤ n2) (c1 : n1 ≤ 4096) (c2 : n2 ≤ 4096) :
    am_C PG (d + 1) 201 [.ref r1, .int (nI a), .ref r2, .int (nI b)] h = some (none, sAI h r2 (am_cpy (hAI h r1) (hAI h r2) a b 43)) := by
  have lp : ∀ i, i ≤ 43 → am_C PG (d + 1) 201 [.ref r1, .int (nI a), .ref r2, .int (nI b)] h = am_R PG (d + 1) 201 3 [some (.ref r1), some (.int (nI a)), some (.ref r2), some (.int (nI b)), some (.int (nI i))] [] (sAI h r2 (am_cpy (hAI h r1) (hAI h r2) a b i)) := by
    intro i
    induction i with
    | zero => intro _; rw [q_X12_copies, am_cpy_0, sAI_self]; rfl
    | succ i ih =>
      intro hi
      have e5 : (nI i < (43 : Int32)) = True := eq_true (nI_lt (b := 43) (by omega) (by decide))
      have e1 : ∀ x, am_in (nI (a + i)) n1 x = x := am_inN (by omega) (by omega)
      have e2 : ∀ x, am_in (nI (b + i)) n2 x = x := am_inN (by omega) (by omega)
      have t1 : Int32.toNatClampNeg (nI (a + i)) = a + i := nI_clamp (by omega)
      have t2 : Int32.toNatClampNeg (nI (b + i)) = b + i := nI_clamp (by omega)
      have w : ∀ f, hAI (sAI h r2 f) r1 = hAI h r1 := fun f => sAI_ne _ _ hne
      rw [ih (by omega), q_X12_copies_3]
      simp only [rd_hK_sAI, rd_hLN_sAI, am_kd, k1, k2, l1, l2, if_true, e5, nI_add, e1, e2, t1, t2, w, am_let_e, sEI_sAI, nI_1, am_cpy_s]
  rw [lp 43 (Nat.le_refl _), q_X12_copies_3, if_neg (by decide)]
theorem c_within (d : Nat) (x a b : Int32) (h : AH) : am_C PG (d + 1) 161 [.int x, .int a, .int b] h = some (some (.int (b2i (¬ x < a ∧ ¬ b < x))), h) := by
  rw [q_X12_within]
  simp only [am_nar4_0, am_nar4_1, b2i]
  by_cases c1 : x < a
  · simp [c1]
  · by_cases c2 : b < x
    · simp [c1, c2]
    · simp [c1, c2]
theorem c_misPlace {d n : Nat} {h : AH} (hm : MSh h) (hn : hAI h 350 0 = nI n) (x : Int32) : am_C PG (d + 1) 209 [.ref 348, .int x] h = some (some (.int (b2i (¬ x < 0 ∧ x < nI n))), h) := by
  have m0 := hm.1
  have f1210 : hFR _ 1210 348 = some 350 := (hm.2 1 (by decide)).1
  have k350 : hK _ 350 = 50 := (hm.2 1 (by decide)).2.1
  have n350 : hLN _ 350 = 10 := (hm.2 1 (by decide)).2.2
  have e0 : ∀ x, am_in (0 : Int32) 10 x = x := am_inN (i := 0) (by decide) (by decide)
  rw [q_X12_isPlace]
  simp only [am_kd, m0, f1210, k350, n350, if_true, bR_s, e0, nI_cl0, hn, am_nar4_0, am_nar4_1, b2i]
  by_cases c1 : x < 0
  · simp [c1]
  · by_cases c2 : x < nI n
    · simp [c1, c2]
    · simp [c1, c2]
theorem c_misTimer {d n : Nat} {h : AH} (hm : MSh h) (hn : hAI h 350 2 = nI n) (x : Int32) : am_C PG (d + 1) 210 [.ref 348, .int x] h = some (some (.int (b2i (¬ x < 0 ∧ x < nI n))), h) := by
  have m0 := hm.1
  have f1210 : hFR _ 1210 348 = some 350 := (hm.2 1 (by decide)).1
  have k350 : hK _ 350 = 50 := (hm.2 1 (by decide)).2.1
  have n350 : hLN _ 350 = 10 := (hm.2 1 (by decide)).2.2
  have e0 : ∀ x, am_in (2 : Int32) 10 x = x := am_inN (i := 2) (by decide) (by decide)
  have i2 : Int32.toNatClampNeg 2 = 2 := by decide
  rw [q_X12_isTimer]
  simp only [am_kd, m0, f1210, k350, n350, if_true, bR_s, e0, i2, hn, am_nar4_0, am_nar4_1, b2i]
  by_cases c1 : x < 0
  · simp [c1]
  · by_cases c2 : x < nI n
    · simp [c1, c2]
    · simp [c1, c2]
theorem c_misPerson {d n : Nat} {h : AH} (hm : MSh h) (hn : hAI h 350 3 = nI n) (x : Int32) : am_C PG (d + 1) 211 [.ref 348, .int x] h = some (some (.int (b2i (¬ x < 0 ∧ x < nI n))), h) := by
  have m0 := hm.1
  have f1210 : hFR _ 1210 348 = some 350 := (hm.2 1 (by decide)).1
  have k350 : hK _ 350 = 50 := (hm.2 1 (by decide)).2.1
  have n350 : hLN _ 350 = 10 := (hm.2 1 (by decide)).2.2
  have e0 : ∀ x, am_in (3 : Int32) 10 x = x := am_inN (i := 3) (by decide) (by decide)
  have i3 : Int32.toNatClampNeg 3 = 3 := by decide
  rw [q_X12_isPerson]
  simp only [am_kd, m0, f1210, k350, n350, if_true, bR_s, e0, i3, hn, am_nar4_0, am_nar4_1, b2i]
  by_cases c1 : x < 0
  · simp [c1]
  · by_cases c2 : x < nI n
    · simp [c1, c2]
    · simp [c1, c2]
/-- so many hours of the reference -/
def mhours (W : Int32 → Int32 → Int32 → Int32 → Int32) (M : Nat → Nat → Int32) (nc ne nw hr : Nat) : Nat → MQv → MQv
  | 0, Q => Q
  | n + 1, Q => mhour W M nc ne nw (hr + n) (mhours W M nc ne nw hr n Q)
theorem SR_hours {W : Int32 → Int32 → Int32 → Int32 → Int32} {P M : Nat → Nat → Int32} {np nc ne nw hr : Nat} {R : SV} {Q : MQv} (hP : PRow P M np nc ne nw) (h : SR M np nc ne nw hr R Q) : ∀ n, SR M np nc ne nw (hr + n) (xhours W P nc ne nw hr n R) (mhours W M nc ne nw hr n Q)
  | 0 => h
  | n + 1 => SR_hour hP (SR_hours hP h n)
/-- what the reference's hour asks of the row -/
theorem SR_cap {P M : Nat → Nat → Int32} {np nc ne nw hr : Nat} {R : SV} {Q : MQv} (hP : PRow P M np nc ne nw) (h : SR M np nc ne nw hr R Q) : Q.1.1 = nI hr ∧ (∀ c, c < nc → ¬ M 359 c < Q.1.2.1 c ∧ M 359 c < 1000) ∧ ∀ k, k < nw → ¬ Q.1.2.2.2.2.2.2.2.2 k < 0 := by
  obtain ⟨s1, s2, s3, s4, s5, s6, s7, s8, s9, s10, s11, s12, s13, s14, s15⟩ := h
  refine ⟨s2, fun c hc => ?_, fun k hk => ?_⟩
  · have h1 := (s8 c hc).2.1
    have h2 := (hP.2.2.2.2.1 c hc).2.2.2
    rw [i_lt, i_lt, t1000]
    have h3 : (getc Q.1 c).1.toInt = (Q.1.2.1 c).toInt := rfl
    omega
  · have e : dn Q.1 k = Q.1.2.2.2.2.2.2.2.2 k := rfl
    rw [← e]
    rcases s11 k hk with z | z | z | z <;> rw [z] <;> decide
theorem PRow_T {P : Nat → Nat → Int32} {g : AH} {np nc ne nw : Nat} (hP : PRow P (hAI g) np nc ne nw) : MoT g nw := fun w hw => by
  obtain ⟨-, -, -, -, -, -, p7, p8, p9, p10, p11⟩ := hP
  obtain ⟨-, ⟨c, hc, hc2⟩, -⟩ := p7 w hw
  exact ⟨c, by omega, hc2⟩
theorem c_mhours {dp n np nc ne nw hr k : Nat} {W : Int32 → Int32 → Int32 → Int32 → Int32} {P : Nat → Nat → Int32} {g : AH} {R : SV} {Q : MQv} {ρ : Nat → Nat → Int32} {w : M4} (hm : MSh g) (hl : MoL g n W) (hn : MoC g nc ne nw) (hP : PRow P (hAI g) np nc ne nw) (hS : SR (hAI g) np nc ne nw hr R Q) (hh : hr + k < 2 ^ 31) :
    ∃ τ x, am_C PG (dp + 7) 222 [.ref 348, .int (nI k)] (HM g (enc Q) ρ w) = some (none, HM g (enc (mhours W (hAI g) nc ne nw hr k Q)) τ x) := by
  have lp : ∀ i, i ≤ k → ∃ τ x, am_C PG (dp + 7) 222 [.ref 348, .int (nI k)] (HM g (enc Q) ρ w) = am_R PG (dp + 7) 222 2 [some (.ref 348), some (.int (nI k)), some (.int (nI i))] [] (HM g (enc (mhours W (hAI g) nc ne nw hr i Q)) τ x) := by
    intro i
    induction i with
    | zero => intro _; exact ⟨ρ, w, by rw [q_X12_hoursPass]; rfl⟩
    | succ i ih =>
      intro hi
      obtain ⟨τ, x, k1⟩ := ih (by omega)
      obtain ⟨q1, q2, q3⟩ := SR_cap hP (SR_hours (W := W) hP hS i)
      obtain ⟨τ2, x2, k2⟩ := c_mhour (dp := dp) (ρ := τ) (w := x) hm hl hn (PRow_T hP) (show hr + i < 2 ^ 31 by omega) q1 q2 q3
      have m0 := hm.1
      have e5 : (nI i < nI k) = True := eq_true (nI_lt (by omega) (by omega))
      refine ⟨τ2, x2, ?_⟩
      rw [k1, q_X12_hoursPass_2]
      simp only [hm_K, am_kd, m0, if_true, e5, k2, bV_s, nI_1]
      rfl
  obtain ⟨τ, x, k1⟩ := lp k (Nat.le_refl _)
  exact ⟨τ, x, by rw [k1, q_X12_hoursPass_2, if_neg (nI_nlt (Nat.le_refl _) (by omega))]⟩
theorem c_mcanDraw {dp e q : Nat} {g : AH} {Q : MQv} {ρ : Nat → Nat → Int32} {w : M4} (hm : MSh g) (he : e < 4) (hq : q < 5) (hw : Q.1.2.2.2.2.1 e = nI q) (s : Int32) : am_C PG (dp + 1) 224 [.ref 348, .int (nI e), .int s] (HM g (enc Q) ρ w) = some (some (.int (b2i (¬ (Q.1.2.2.2.2.2.2.2.1 q < s ∨ 999 < Q.1.2.2.2.2.2.1 e + s)))), HM g (enc Q) ρ w) := by
  have m0 := hm.1
  have f1259 : hFR _ 1259 348 = some 397 := (hm.2 48 (by decide)).1
  have k397 : hK _ 397 = 50 := (hm.2 48 (by decide)).2.1
  have n397 : hLN _ 397 = 43 := (hm.2 48 (by decide)).2.2
  have a24 : (24 : Int32) + nI e = nI (24 + e) := nI_add 24 e
  have a28 : (28 : Int32) + nI e = nI (28 + e) := nI_add 28 e
  have a1 : (1 : Int32) + nI q = nI (1 + q) := nI_add 1 q
  have e24 : ∀ x, am_in (nI (24 + e)) 43 x = x := am_inN (by omega) (by decide)
  have e28 : ∀ x, am_in (nI (28 + e)) 43 x = x := am_inN (by omega) (by decide)
  have e1 : ∀ x, am_in (nI (1 + q)) 43 x = x := am_inN (by omega) (by decide)
  have i24 : Int32.toNatClampNeg (nI (24 + e)) = 24 + e := nI_clamp (by omega)
  have i28 : Int32.toNatClampNeg (nI (28 + e)) = 28 + e := nI_clamp (by omega)
  have i1 : Int32.toNatClampNeg (nI (1 + q)) = 1 + q := nI_clamp (by omega)
  rw [q_X12_canDraw]
  simp only [hm_K, hm_R, hm_L, hm_at, hm_E, hm_5, hm_6, hm_7, hm_8, hm_s5, hm_s6, hm_s7, hm_s8, am_kd, m0, f1259, k397, n397, if_true, bR_s, a24, a28, e24, e28, i24, i28, enc_a Q he, enc_p Q he, hw, a1, e1, i1, enc_w Q hq, am_nar4_0, am_nar4_1, b2i]
  by_cases c1 : Q.1.2.2.2.2.2.2.2.1 q < s
  · simp only [c1, if_true, true_or, not_true, if_false]
  · by_cases c2 : 999 < Q.1.2.2.2.2.2.1 e + s
    · simp only [c1, c2, if_true, if_false, or_true, not_true]
    · simp only [c1, c2, if_false, or_self, not_false_iff, if_true]
theorem c_mdraws {dp e q : Nat} {g : AH} {Q : MQv} {ρ : Nat → Nat → Int32} {w : M4} (hm : MSh g) (he : e < 4) (hq : q < 5) (hw : Q.1.2.2.2.2.1 e = nI q) (s : Int32) : am_C PG (dp + 1) 225 [.ref 348, .int (nI e), .int s] (HM g (enc Q) ρ w) = some (none, HM g (enc (xdraw e q s Q.1, Q.2)) ρ w) := by
  have m0 := hm.1
  have f1259 : hFR _ 1259 348 = some 397 := (hm.2 48 (by decide)).1
  have k397 : hK _ 397 = 50 := (hm.2 48 (by decide)).2.1
  have n397 : hLN _ 397 = 43 := (hm.2 48 (by decide)).2.2
  have a24 : (24 : Int32) + nI e = nI (24 + e) := nI_add 24 e
  have a28 : (28 : Int32) + nI e = nI (28 + e) := nI_add 28 e
  have a1 : (1 : Int32) + nI q = nI (1 + q) := nI_add 1 q
  have e24 : ∀ x, am_in (nI (24 + e)) 43 x = x := am_inN (by omega) (by decide)
  have e28 : ∀ x, am_in (nI (28 + e)) 43 x = x := am_inN (by omega) (by decide)
  have e1 : ∀ x, am_in (nI (1 + q)) 43 x = x := am_inN (by omega) (by decide)
  have i24 : Int32.toNatClampNeg (nI (24 + e)) = 24 + e := nI_clamp (by omega)
  have i28 : Int32.toNatClampNeg (nI (28 + e)) = 28 + e := nI_clamp (by omega)
  have i1 : Int32.toNatClampNeg (nI (1 + q)) = 1 + q := nI_clamp (by omega)
  rw [q_X12_draws0]
  simp only [hm_K, hm_R, hm_L, hm_at, hm_E, hm_5, hm_6, hm_7, hm_8, hm_s5, hm_s6, hm_s7, hm_s8, am_kd, m0, f1259, k397, n397, if_true, bR_s, a24, a28, e24, e28, i24, i28, enc_a _ he, enc_p _ he, hw, a1, e1, i1, enc_w _ hq, enu_w _ hq, enu_p _ he, am_let_e]
  rfl
theorem c_mcanPour {dp e c : Nat} {g : AH} {Q : MQv} {ρ : Nat → Nat → Int32} {w : M4} (hm : MSh g) (he : e < 4) (hc : c < 6) (s : Int32) : am_C PG (dp + 1) 227 [.ref 348, .int (nI e), .int (nI c), .int s] (HM g (enc Q) ρ w) = some (some (.int (b2i (Q.1.2.2.2.2.1 e = hAI g 358 c ∧ ¬ Q.1.2.2.2.2.2.1 e < s ∧ ¬ hAI g 359 c < Q.1.2.1 c + s))), HM g (enc Q) ρ w) := by
  have m0 := hm.1
  have f1218 : hFR _ 1218 348 = some 358 := (hm.2 9 (by decide)).1
  have k358 : hK _ 358 = 50 := (hm.2 9 (by decide)).2.1
  have n358 : hLN _ 358 = 12 := (hm.2 9 (by decide)).2.2
  have f1219 : hFR _ 1219 348 = some 359 := (hm.2 10 (by decide)).1
  have k359 : hK _ 359 = 50 := (hm.2 10 (by decide)).2.1
  have n359 : hLN _ 359 = 12 := (hm.2 10 (by decide)).2.2
  have f1259 : hFR _ 1259 348 = some 397 := (hm.2 48 (by decide)).1
  have k397 : hK _ 397 = 50 := (hm.2 48 (by decide)).2.1
  have n397 : hLN _ 397 = 43 := (hm.2 48 (by decide)).2.2
  have o358 : ∀ f ρ w, hAI (HM g f ρ w) 358 = hAI g 358 := fun f ρ w => hm_o g f ρ w (by decide) (by decide)
  have o359 : ∀ f ρ w, hAI (HM g f ρ w) 359 = hAI g 359 := fun f ρ w => hm_o g f ρ w (by decide) (by decide)
  have a24 : (24 : Int32) + nI e = nI (24 + e) := nI_add 24 e
  have a28 : (28 : Int32) + nI e = nI (28 + e) := nI_add 28 e
  have a6 : (6 : Int32) + nI c = nI (6 + c) := nI_add 6 c
  have e24 : ∀ x, am_in (nI (24 + e)) 43 x = x := am_inN (by omega) (by decide)
  have e28 : ∀ x, am_in (nI (28 + e)) 43 x = x := am_inN (by omega) (by decide)
  have e6 : ∀ x, am_in (nI (6 + c)) 43 x = x := am_inN (by omega) (by decide)
  have ec : ∀ x, am_in (nI c) 12 x = x := am_inN (by omega) (by decide)
  have i24 : Int32.toNatClampNeg (nI (24 + e)) = 24 + e := nI_clamp (by omega)
  have i28 : Int32.toNatClampNeg (nI (28 + e)) = 28 + e := nI_clamp (by omega)
  have i6 : Int32.toNatClampNeg (nI (6 + c)) = 6 + c := nI_clamp (by omega)
  have ic : Int32.toNatClampNeg (nI c) = c := nI_clamp (by omega)
  rw [q_X12_canPour]
  simp only [hm_K, hm_R, hm_L, hm_at, hm_E, hm_5, hm_6, hm_7, hm_8, hm_s5, hm_s6, hm_s7, hm_s8, am_kd, m0, f1218, k358, n358, f1219, k359, n359, f1259, k397, n397, if_true, bR_s, o358, o359, a24, a28, a6, e24, e28, e6, ec, i24, i28, i6, ic, enc_a Q he, enc_p Q he, enc_h Q hc, am_nar4_0, am_nar4_1, b2i]
  by_cases c1 : hAI g 358 c = Q.1.2.2.2.2.1 e
  · by_cases c2 : Q.1.2.2.2.2.2.1 e < s
    · simp only [c1, c2, if_true, not_true, false_and, and_false, if_false]
    · by_cases c3 : hAI g 359 c < Q.1.2.1 c + s
      · simp only [c1, c2, c3, if_true, if_false, not_true, and_false]
      · simp only [c1, c2, c3, if_true, if_false, not_false_iff, and_self]
  · have c1' : ¬ Q.1.2.2.2.2.1 e = hAI g 358 c := fun z => c1 z.symm
    simp only [c1, c1', if_false, false_and]
theorem c_mpours {dp e c : Nat} {g : AH} {Q : MQv} {ρ : Nat → Nat → Int32} {w : M4} (hm : MSh g) (he : e < 4) (hc : c < 6) (s : Int32) : am_C PG (dp + 1) 228 [.ref 348, .int (nI e), .int (nI c), .int s] (HM g (enc Q) ρ w) = some (none, HM g (enc (xpour e c s Q.1, Q.2)) ρ w) := by
  have m0 := hm.1
  have f1259 : hFR _ 1259 348 = some 397 := (hm.2 48 (by decide)).1
  have k397 : hK _ 397 = 50 := (hm.2 48 (by decide)).2.1
  have n397 : hLN _ 397 = 43 := (hm.2 48 (by decide)).2.2
  have a28 : (28 : Int32) + nI e = nI (28 + e) := nI_add 28 e
  have a6 : (6 : Int32) + nI c = nI (6 + c) := nI_add 6 c
  have e28 : ∀ x, am_in (nI (28 + e)) 43 x = x := am_inN (by omega) (by decide)
  have e6 : ∀ x, am_in (nI (6 + c)) 43 x = x := am_inN (by omega) (by decide)
  have i28 : Int32.toNatClampNeg (nI (28 + e)) = 28 + e := nI_clamp (by omega)
  have i6 : Int32.toNatClampNeg (nI (6 + c)) = 6 + c := nI_clamp (by omega)
  rw [q_X12_pours]
  simp only [hm_K, hm_R, hm_L, hm_at, hm_E, hm_5, hm_6, hm_7, hm_8, hm_s5, hm_s6, hm_s7, hm_s8, am_kd, m0, f1259, k397, n397, if_true, bR_s, a28, a6, e28, e6, i28, i6, enc_p _ he, enc_h _ hc, enu_p _ he, enu_h _ hc, am_let_e]
  rfl
theorem c_mstep {dp e q t : Nat} {g : AH} {Q : MQv} {ρ : Nat → Nat → Int32} {w : M4} (hm : MSh g) (he : e < 4) (hq : q < 5) (ht : t < 5) (hw : Q.1.2.2.2.2.1 e = nI q) : am_C PG (dp + 1) 230 [.ref 348, .int (nI e), .int (nI t)] (HM g (enc Q) ρ w) = some (some (.int (hAI g 356 (5 * q + t))), HM g (enc Q) ρ w) := by
  have m0 := hm.1
  have f1216 : hFR _ 1216 348 = some 356 := (hm.2 7 (by decide)).1
  have k356 : hK _ 356 = 50 := (hm.2 7 (by decide)).2.1
  have n356 : hLN _ 356 = 50 := (hm.2 7 (by decide)).2.2
  have f1259 : hFR _ 1259 348 = some 397 := (hm.2 48 (by decide)).1
  have k397 : hK _ 397 = 50 := (hm.2 48 (by decide)).2.1
  have n397 : hLN _ 397 = 43 := (hm.2 48 (by decide)).2.2
  have o356 : ∀ f ρ w, hAI (HM g f ρ w) 356 = hAI g 356 := fun f ρ w => hm_o g f ρ w (by decide) (by decide)
  have a24 : (24 : Int32) + nI e = nI (24 + e) := nI_add 24 e
  have e24 : ∀ x, am_in (nI (24 + e)) 43 x = x := am_inN (by omega) (by decide)
  have i24 : Int32.toNatClampNeg (nI (24 + e)) = 24 + e := nI_clamp (by omega)
  have a5 : (5 : Int32) * nI q + nI t = nI (5 * q + t) := by rw [show (5 : Int32) = nI 5 from rfl, pk_mul, nI_add]
  have e5 : ∀ x, am_in (nI (5 * q + t)) 50 x = x := am_inN (by omega) (by decide)
  have i5 : Int32.toNatClampNeg (nI (5 * q + t)) = 5 * q + t := nI_clamp (by omega)
  rw [q_X12_stepOf]
  simp only [hm_K, hm_R, hm_L, hm_at, hm_E, hm_5, hm_6, hm_7, hm_8, hm_s5, hm_s6, hm_s7, hm_s8, am_kd, m0, f1216, k356, n356, f1259, k397, n397, if_true, bR_s, o356, a24, e24, i24, enc_a Q he, hw, a5, e5, i5]
theorem c_mwalk {dp n np nc ne nw hr e q t k : Nat} {W : Int32 → Int32 → Int32 → Int32 → Int32} {P : Nat → Nat → Int32} {g : AH} {R : SV} {Q : MQv} {ρ : Nat → Nat → Int32} {w : M4} (hm : MSh g) (hl : MoL g n W) (hn : MoC g nc ne nw) (hP : PRow P (hAI g) np nc ne nw) (hS : SR (hAI g) np nc ne nw hr R Q) (hh : hr + k < 2 ^ 31) (he : e < 4) (hq : q < 5) (ht : t < 5) (hw : Q.1.2.2.2.2.1 e = nI q) (hk : hAI g 356 (5 * q + t) = nI k) :
    ∃ τ x, am_C PG (dp + 8) 231 [.ref 348, .int (nI e), .int (nI t)] (HM g (enc Q) ρ w) = some (none, HM g (enc (xgo e (nI t) (mhours W (hAI g) nc ne nw hr k Q).1, (mhours W (hAI g) nc ne nw hr k Q).2)) τ x) := by
  have k1 := c_mstep (dp := dp + 6) (ρ := ρ) (w := w) hm he hq ht hw
  rw [hk] at k1
  obtain ⟨τ, x, k2⟩ := c_mhours (dp := dp) (ρ := ρ) (w := w) hm hl hn hP hS hh
  refine ⟨τ, x, ?_⟩
  have m0 := hm.1
  have f1259 : hFR _ 1259 348 = some 397 := (hm.2 48 (by decide)).1
  have k397 : hK _ 397 = 50 := (hm.2 48 (by decide)).2.1
  have n397 : hLN _ 397 = 43 := (hm.2 48 (by decide)).2.2
  have a24 : (24 : Int32) + nI e = nI (24 + e) := nI_add 24 e
  have e24 : ∀ x, am_in (nI (24 + e)) 43 x = x := am_inN (by omega) (by decide)
  have i24 : Int32.toNatClampNeg (nI (24 + e)) = 24 + e := nI_clamp (by omega)
  rw [q_X12_walks]
  simp only [hm_K, hm_R, hm_L, hm_at, hm_E, hm_5, hm_6, hm_7, hm_8, hm_s5, hm_s6, hm_s7, hm_s8, am_kd, m0, f1259, k397, n397, if_true, bR_s, k1, bI_s, k2, bV_s, a24, e24, i24, am_let_e, enu_a _ he]
  rfl
