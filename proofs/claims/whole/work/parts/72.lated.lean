/-! late, both sides whole. -/
theorem lst_up {B : Nat → Bool} {n : Nat} : ∀ k, n + k < 2 ^ 31 → (∀ j, n ≤ j → j < n + k → B j = false) → lst B (n + k) = lst B n
  | 0, _, _ => rfl
  | k + 1, hk, h => by
    have ih := lst_up (B := B) (n := n) k (by omega) (fun j h1 h2 => h j h1 (by omega))
    have e : lst B (n + (k + 1)) = if lst B (n + k) < 0 then (if B (n + k) = true then nI (n + k) else -1) else lst B (n + k) := rfl
    rw [e, h (n + k) (by omega) (by omega), if_neg (show ¬ (false = true) by decide), ← ih]
    by_cases c : lst B (n + k) < 0
    · rw [if_pos c, ((lst_neg B (n + k) (by omega)).1 c).1]
    · rw [if_neg c]
theorem lst_skip {B : Nat → Bool} {n : Nat} (hn : n + 1 < 2 ^ 31) (h : B n = false) : lst B (n + 1) = lst B n := lst_up 1 hn (fun j h1 h2 => by rw [show j = n by omega]; exact h)
theorem nwr_out {D0 D : Nat → Int32} {nw k : Nat} (h : nw ≤ k) : nwr D0 D nw k = false := by
  unfold nwr ext6
  rw [decide_eq_false (by omega), Bool.false_and]
theorem nwr_in {D0 D : Nat → Int32} {nw k : Nat} (h : k < nw) : nwr D0 D nw k = (decide (D0 k = 0) && decide (1 < D k)) := by
  unfold nwr ext6
  rw [decide_eq_true h, Bool.true_and]
def mx (N P : Nat → Bool) (j : Nat) : Nat → Bool := fun k => if k < j then N k else P k
theorem mx_skip {N P : Nat → Bool} {j : Nat} (h : N j = P j) : mx N P (j + 1) = mx N P j := by
  funext k
  unfold mx
  by_cases c : k < j
  · rw [if_pos c, if_pos (by omega)]
  · rw [if_neg c]
    by_cases c2 : k = j
    · rw [if_pos (by omega), c2, h]
    · rw [if_neg (by omega)]
theorem mx_set {N P : Nat → Bool} {j : Nat} (h : N j = true) : mx N P (j + 1) = fun k => decide (k = j) || mx N P j k := by
  funext k
  unfold mx
  by_cases c2 : k = j
  · rw [if_pos (by omega), decide_eq_true c2, c2, h, Bool.true_or]
  · rw [decide_eq_false c2, Bool.false_or]
    by_cases c : k < j
    · rw [if_pos c, if_pos (by omega)]
    · rw [if_neg c, if_neg (by omega)]
/-- the reference looks at all works behind an hour -/
theorem c_late62 {d nc ne nw : Nat} {g : AH} {Q : MQv} {ρ : Nat → Nat → Int32} {w : M4} {D0 : Nat → Int32} {P : Nat → Bool} {f l1 l2 l5 : Int32} (hm : MSh g) (hn : MoC g nc ne nw) (h398 : ∀ k, k < 6 → hAI g 398 (36 + k) = D0 k) (hD : ∀ k, k < nw → D0 k = 0 ∨ 0 < D0 k) (hPN : ∀ k, P k = true → nwr D0 (dn Q.1) nw k = true) (hf : f < 0 → f = -1 ∧ ∀ k, P k = false) : ∀ j, j ≤ nw →
    am_R PG (d + 1) 241 62 [some (.ref 348), some (.int l1), some (.int l2), some (.int (bitN P 6)), some (.int f), some (.int l5), some (.int 0)] [] (HM g (enc Q) ρ w) = am_R PG (d + 1) 241 62 [some (.ref 348), some (.int l1), some (.int l2), some (.int (bitN (mx (nwr D0 (dn Q.1) nw) P j) 6)), some (.int (if f < 0 then lst (nwr D0 (dn Q.1) nw) j else f)), some (.int l5), some (.int (nI j))] [] (HM g (enc Q) ρ w) := by
  obtain ⟨n2, n3, n4, c2, c3, c4⟩ := hn
  have m0 := hm.1
  have f1210 : hFR _ 1210 348 = some 350 := (hm.2 1 (by decide)).1
  have k350 : hK _ 350 = 50 := (hm.2 1 (by decide)).2.1
  have n350 : hLN _ 350 = 10 := (hm.2 1 (by decide)).2.2
  have f1259 : hFR _ 1259 348 = some 397 := (hm.2 48 (by decide)).1
  have k397 : hK _ 397 = 50 := (hm.2 48 (by decide)).2.1
  have n397 : hLN _ 397 = 43 := (hm.2 48 (by decide)).2.2
  have f1260 : hFR _ 1260 348 = some 398 := (hm.2 49 (by decide)).1
  have k398 : hK _ 398 = 50 := (hm.2 49 (by decide)).2.1
  have n398 : hLN _ 398 = 43 := (hm.2 49 (by decide)).2.2
  have i4 : Int32.toNatClampNeg 4 = 4 := by decide
  have x4 : ∀ x, am_in (4 : Int32) 10 x = x := am_inN (i := 4) (by decide) (by decide)
  have o0 : hAI (HM g (enc Q) ρ w) 350 = hAI g 350 := hm_o _ _ _ _ (by decide) (by decide)
  have o8 : hAI (HM g (enc Q) ρ w) 398 = hAI g 398 := hm_o _ _ _ _ (by decide) (by decide)
  have hNin : ∀ k, k < nw → nwr D0 (dn Q.1) nw k = (decide (D0 k = 0) && decide (1 < dn Q.1 k)) := fun k hk => nwr_in hk
  intro j
  generalize nwr D0 (dn Q.1) nw = N at hPN hNin ⊢
  induction j with
  | zero =>
    intro _
    have e1 : mx N P 0 = P := by funext k; unfold mx; rw [if_neg (by omega)]
    have e2 : (if f < 0 then lst N 0 else f) = f := by
      by_cases c : f < 0
      · rw [if_pos c, (hf c).1]
        rfl
      · rw [if_neg c]
    rw [e1, e2]
    rfl
  | succ j ih =>
    intro hj
    have e5 : (nI j < nI nw) = True := eq_true (nI_lt (by omega) (by omega))
    have a1 : (36 : Int32) + nI j = nI (36 + j) := nI_add 36 j
    have e2 : ∀ x, am_in (nI (36 + j)) 43 x = x := am_inN (by omega) (by decide)
    have t2 : Int32.toNatClampNeg (nI (36 + j)) = 36 + j := nI_clamp (by omega)
    have hb := bit_at (mx N P j) (show j < 6 by omega)
    have ho := bit_or (mx N P j) (show j < 6 by omega)
    have hmj : mx N P j j = P j := by unfold mx; rw [if_neg (by omega)]
    rw [hmj] at hb
    have hNj := hNin j (by omega)
    have enj : enc Q (36 + j) = dn Q.1 j := enc_o _ (show j < 6 by omega)
    rw [ih (by omega), q_X12_late_62]
    simp only [hm_K, hm_R, hm_L, hm_at, hm_E, hm_5, hm_6, hm_7, hm_8, hm_s5, hm_s6, hm_s7, hm_s8, am_kd, m0, f1210, k350, n350, f1259, k397, n397, f1260, k398, n398, if_true, bR_s, x4, i4, o0, n4, e5, a1, e2, t2, o8, h398 j (by omega), enj, nI_1, hb]
    by_cases k1 : 0 < D0 j
    · have z : ¬ D0 j = 0 := by intro z; rw [z] at k1; exact absurd k1 (by decide)
      rw [decide_eq_false z, Bool.false_and] at hNj
      have hPj : P j = false := by
        cases q : P j with
        | false => rfl
        | true => rw [hPN j q] at hNj; cases hNj
      rw [if_pos k1, mx_skip (hNj.trans hPj.symm), lst_skip (by omega) hNj]
    · have z : D0 j = 0 := (hD j (by omega)).resolve_right k1
      rw [decide_eq_true z, Bool.true_and] at hNj
      by_cases k2 : dn Q.1 j < 2
      · have z2 : ¬ 1 < dn Q.1 j := by
          rw [i_lt] at k2 ⊢
          have := i1
          have := i2v
          omega
        rw [decide_eq_false z2] at hNj
        have hPj : P j = false := by
          cases q : P j with
          | false => rfl
          | true => rw [hPN j q] at hNj; cases hNj
        rw [if_neg k1, if_pos k2, mx_skip (hNj.trans hPj.symm), lst_skip (by omega) hNj]
      · have z2 : 1 < dn Q.1 j := by
          rw [i_lt] at k2 ⊢
          have := i1
          have := i2v
          omega
        rw [decide_eq_true z2] at hNj
        cases hPj : P j with
        | true =>
          have nf : ¬ f < 0 := by
            intro q
            rw [(hf q).2 j] at hPj
            cases hPj
          rw [if_neg k1, if_neg k2, if_pos (show (if true = true then (1 : Int32) else 0) = 1 from rfl), mx_skip (hNj.trans hPj.symm), if_neg nf, if_neg nf]
        | false =>
          have e : lst N (j + 1) = if lst N j < 0 then (if N j = true then nI j else -1) else lst N j := rfl
          rw [if_neg k1, if_neg k2, if_neg (show ¬ (if false = true then (1 : Int32) else 0) = 1 by decide), ho, mx_set hNj, e, if_pos hNj]
          by_cases nf : f < 0
          · by_cases c : lst N j < 0
            · simp only [if_pos nf, if_pos c]
            · simp only [if_pos nf, if_neg c]
          · simp only [if_neg nf]
/-- the first that goes wrong, hour by hour -/
def lF (B : Nat → Nat → Bool) : Nat → Int32
  | 0 => -1
  | i + 1 => if lF B i < 0 then lst (B (i + 1)) 6 else lF B i
theorem lF_neg (B : Nat → Nat → Bool) : ∀ i, lF B i < 0 → lF B i = -1
  | 0, _ => rfl
  | i + 1, h => by
    have e : lF B (i + 1) = if lF B i < 0 then lst (B (i + 1)) 6 else lF B i := rfl
    rw [e] at h ⊢
    by_cases c : lF B i < 0
    · rw [if_pos c] at h ⊢
      exact ((lst_neg _ 6 (by decide)).1 h).1
    · rw [if_neg c] at h
      exact absurd h c
theorem pr_late {d d2 p np nc ne nw len n hr m : Nat} {W : Int32 → Int32 → Int32 → Int32 → Int32} {g g2 : AH} {a b : Int32} {Q : MQv} {ρ : Nat → Nat → Int32} {w : M4} (L : Lk g g2 p np nc ne nw len n W) (ha : AhSh g 93 94) (h62 : StSh g 62) (hpb : p ≤ 30) (hS : SR (hAI g2) np nc ne nw hr (getS g 62) Q) (hm1 : 1 ≤ m) (hm2 : m ≤ 240) (hh : hr + m < 2 ^ 31) (hab : (a = -1 ∧ b = 0) ∨ (a = 0 ∧ b = 1)) :
    ∃ r f T τ y u, am_C PG (d + 5) 4 [.ref 93, .ref p, .ref 62, .int (nI m), .int b] g = some (some (.int r), putS (sAI g (p + 16) f) 94 T) ∧ am_C PG (d2 + 7) 241 [.ref 348, .int (nI m), .int a] (HM g2 (enc Q) ρ w) = some (some (.int r), HM (asd g2 (enc Q)) (cp 43 (enc Q) u) τ y) := by
  have L2 := L.asd (f := enc Q)
  have p0 := L.1.1.1.1
  have hm := L.2.2.2.1
  have hbd : np ≤ 5 ∧ nc ≤ 6 ∧ ne ≤ 4 ∧ nw ≤ 6 := ⟨L.1.2.2.2.2.2.1, L.1.2.2.2.2.2.2⟩
  have o : ∀ a, a ≠ 398 → hAI (asd g2 (enc Q)) a = hAI g2 a := fun a h => asd_o _ _ h
  have S0 : SR (hAI (asd g2 (enc Q))) np nc ne nw hr (getS g 62) Q := SR_M (o _ (by decide)) (o _ (by decide)) hS
  obtain ⟨a1, a2, a3⟩ := ha
  have s0 := a3.1
  have kc := c_copy (d := d + 3) (R := getS g 94) a3 h62 (by decide)
  rw [putS_get] at kc
  have ks := c_aside (d := d2 + 5) (f := enc Q) (ρ := ρ) (w := w) hm
  have kK := c_bad (d := d + 3) (a := 62) L.1 h62
  change am_C PG (d + 4) 72 [.ref p, .ref 62] g = some (some (.int (bitN (fun w => decide (dn (getS g 62) w = 2 ∨ dn (getS g 62) w = 3)) nw)), g) at kK
  have hPR := L2.2.2.2.2.2.2.2.1
  have qS : ∀ i, ∃ R, SR (hAI (asd g2 (enc Q))) np nc ne nw (hr + i) R (mhours W (hAI (asd g2 (enc Q))) nc ne nw hr i Q) := fun i => ⟨_, SR_hours (W := W) hPR S0 i⟩
  generalize hB : (fun i => nwr (dn Q.1) (dn (mhours W (hAI (asd g2 (enc Q))) nc ne nw hr i Q).1) nw) = B
  have hBi : ∀ i, nwr (dn Q.1) (dn (mhours W (hAI (asd g2 (enc Q))) nc ne nw hr i Q).1) nw = B i := fun i => by rw [← hB]
  have B0 : ∀ k, B 0 k = false := by
    intro k
    rw [← hBi 0]
    show nwr (dn Q.1) (dn Q.1) nw k = false
    by_cases c : k < nw
    · rw [nwr_in c]
      by_cases z : dn Q.1 k = 0
      · rw [z]
        decide
      · rw [decide_eq_false z, Bool.false_and]
    · exact nwr_out (by omega)
  have Bz : bitN (B 0) 6 = 0 := (bit_zero (Nat.le_refl 6)).2 (fun j _ => B0 j)
  have Bm : ∀ i k, B i k = true → B (i + 1) k = true := by
    intro i k h
    rw [← hBi] at h ⊢
    exact nwr_mono h
  have Bo : ∀ i k, nw ≤ k → B i k = false := by
    intro i k h
    rw [← hBi]
    exact nwr_out h
  have Fs : ∀ i, lF B (i + 1) = if lF B i < 0 then lst (B (i + 1)) 6 else lF B i := fun i => rfl
  have FB : ∀ i, lF B i < 0 → ∀ k, B i k = false := by
    intro i
    cases i with
    | zero => intro _ k; exact B0 k
    | succ i =>
      intro h k
      by_cases c : lF B i < 0
      · rw [Fs, if_pos c] at h
        by_cases c2 : k < 6
        · exact ((lst_neg _ 6 (by decide)).1 h).2 k c2
        · exact Bo _ k (by omega)
      · rw [Fs, if_neg c] at h
        exact absurd h c
  -- the class
  have lc : ∀ i, i ≤ m → (b = 1 ∧ ¬ lF B i < 0 ∧ ∃ f T, am_C PG (d + 5) 4 [.ref 93, .ref p, .ref 62, .int (nI m), .int b] g = some (some (.int (lF B i)), putS (sAI g (p + 16) f) 94 T)) ∨
      (∃ f T, (b = 1 → lF B i < 0) ∧ SR (hAI (asd g2 (enc Q))) np nc ne nw (hr + i) T (mhours W (hAI (asd g2 (enc Q))) nc ne nw hr i Q) ∧ am_C PG (d + 5) 4 [.ref 93, .ref p, .ref 62, .int (nI m), .int b] g = am_R PG (d + 5) 4 21 [some (.ref 93), some (.ref p), none, some (.int (nI m)), some (.int b), some (.int (bitN (fun w => decide (dn (getS g 62) w = 2 ∨ dn (getS g 62) w = 3)) nw)), some (.int (bitN (B i) 6)), some (.int (nI i))] [] (putS (sAI g (p + 16) f) 94 T)) := by
    intro i
    induction i with
    | zero =>
      intro _
      refine Or.inr ⟨hAI g (p + 16), cpS (getS g 62) (getS g 94), fun _ => show (-1 : Int32) < 0 by decide, SR_cpS hbd S0, ?_⟩
      rw [Bz, sAI_self, q_X0_lateWorks]
      simp only [am_kd, a1, a2, p0, s0, if_true, bR_s, kK, bI_s, kc, bV_s]
      rfl
    | succ i ih =>
      intro hi
      rcases ih (by omega) with ⟨q1, q2, q3⟩ | ⟨f, T, q1, q2, q3⟩
      · refine Or.inl ⟨q1, ?_, ?_⟩
        · rw [Fs, if_neg q2]; exact q2
        · rw [Fs, if_neg q2]; exact q3
      obtain ⟨l1, l2, l3, l4, l5, l6, l7, l8, l9⟩ := L2.scr (f := f)
      obtain ⟨f2, k1⟩ := c_hour (d := d) (a := 94) (R := T) l1 l2 l3 (a3.to rfl rfl rfl) (Or.inr (by omega)) (show hr + i < 2 ^ 31 by omega) q2.1
      have S2 := SR_hour (W := W) l8 q2
      generalize xhour W (rowsP (sAI g (p + 16) f) p) nc ne nw (hr + i) T = T2 at k1 S2
      rw [sAI_sAI] at k1
      have kb := c_bad (d := d + 3) (a := 94) (h := putS (sAI g (p + 16) f2) 94 T2) (PoC.put (L.scr (f := f2)).1) (a3.to rfl rfl rfl)
      rw [pS_8] at kb
      change am_C PG (d + 4) 72 [.ref p, .ref 94] (putS (sAI g (p + 16) f2) 94 T2) = some (some (.int (bitN (fun w => decide (dn T2 w = 2 ∨ dn T2 w = 3)) nw)), putS (sAI g (p + 16) f2) 94 T2) at kb
      have sn := SR_new (W := W) (i := i + 1) hbd.2.2.2 S0 S2
      rw [hBi] at sn
      have e5 : (nI i < nI m) = True := eq_true (nI_lt (by omega) (by omega))
      have kl := c_lowest (d := d + 3) (B (i + 1)) (putS (sAI g (p + 16) f2) 94 T2)
      have key : am_C PG (d + 5) 4 [.ref 93, .ref p, .ref 62, .int (nI m), .int b] g = (if b = 0 then am_R PG (d + 5) 4 21 [some (.ref 93), some (.ref p), none, some (.int (nI m)), some (.int b), some (.int (bitN (fun w => decide (dn (getS g 62) w = 2 ∨ dn (getS g 62) w = 3)) nw)), some (.int (bitN (B (i + 1)) 6)), some (.int (nI (i + 1)))] [] (putS (sAI g (p + 16) f2) 94 T2) else if bitN (B (i + 1)) 6 = 0 then am_R PG (d + 5) 4 21 [some (.ref 93), some (.ref p), none, some (.int (nI m)), some (.int b), some (.int (bitN (fun w => decide (dn (getS g 62) w = 2 ∨ dn (getS g 62) w = 3)) nw)), some (.int (bitN (B (i + 1)) 6)), some (.int (nI (i + 1)))] [] (putS (sAI g (p + 16) f2) 94 T2) else some (some (.int (lst (B (i + 1)) 6)), putS (sAI g (p + 16) f2) 94 T2)) := by
        rw [q3, q_X0_lateWorks_21]
        simp only [rd_hK_putS, rd_hFR_putS, rd_hLN_putS, rd_hFJ_putS, rd_hAJ_putS, rd_hAR_putS, rd_hNX_putS, rd_hK_sAI, rd_hFR_sAI, am_kd, a1, a2, p0, if_true, e5, bR_s, k1, bV_s, kb, bI_s, sn, kl, nI_1]
      by_cases c0 : b = 0
      · rw [if_pos c0] at key
        exact Or.inr ⟨f2, T2, fun z => absurd (c0.symm.trans z) (by decide), S2, key⟩
      · rw [if_neg c0] at key
        have b1 : b = 1 := by
          rcases hab with z | z
          · exact absurd z.2 c0
          · exact z.2
        have fn := q1 b1
        by_cases c1 : bitN (B (i + 1)) 6 = 0
        · rw [if_pos c1] at key
          refine Or.inr ⟨f2, T2, fun _ => ?_, S2, key⟩
          rw [Fs, if_pos fn]
          exact lst_bit.1 c1
        · rw [if_neg c1] at key
          refine Or.inl ⟨b1, ?_, f2, T2, ?_⟩
          · rw [Fs, if_pos fn]
            exact fun z => c1 (lst_bit.2 z)
          · rw [Fs, if_pos fn]
            exact key
  -- the reference
  have hmm := hm
  have m0 := hmm.1
  have f1210 : hFR _ 1210 348 = some 350 := (hmm.2 1 (by decide)).1
  have k350 : hK _ 350 = 50 := (hmm.2 1 (by decide)).2.1
  have n350 : hLN _ 350 = 10 := (hmm.2 1 (by decide)).2.2
  have f1259 : hFR _ 1259 348 = some 397 := (hmm.2 48 (by decide)).1
  have k397 : hK _ 397 = 50 := (hmm.2 48 (by decide)).2.1
  have n397 : hLN _ 397 = 43 := (hmm.2 48 (by decide)).2.2
  have f1260 : hFR _ 1260 348 = some 398 := (hmm.2 49 (by decide)).1
  have k398 : hK _ 398 = 50 := (hmm.2 49 (by decide)).2.1
  have n398 : hLN _ 398 = 43 := (hmm.2 49 (by decide)).2.2
  have v1 : b2i (¬ nI m < 1 ∧ ¬ 240 < nI m) = 1 := b2i_t ⟨nI_nlt (b := 1) hm1 (by omega), nI_nlt (a := 240) hm2 (by decide)⟩
  have v2 : b2i (¬ a < (-1) ∧ ¬ 0 < a) = 1 := by
    apply b2i_t
    rcases hab with z | z
    · rw [z.1]; decide
    · rw [z.1]; decide
  have z1 : ((1 : Int32) = 0) = False := eq_false (by decide)
  have lr : ∀ i, i ≤ m → ∃ τ y, am_C PG (d2 + 7) 241 [.ref 348, .int (nI m), .int a] (HM g2 (enc Q) ρ w) = am_R PG (d2 + 7) 241 49 [some (.ref 348), some (.int (nI m)), some (.int a), some (.int (bitN (B i) 6)), some (.int (lF B i)), some (.int (nI i)), none] [] (HM (asd g2 (enc Q)) (enc (mhours W (hAI (asd g2 (enc Q))) nc ne nw hr i Q)) τ y) := by
    intro i
    induction i with
    | zero =>
      intro _
      refine ⟨ρ, w, ?_⟩
      rw [Bz, q_X12_late]
      simp only [hm_K, am_kd, m0, if_true, am_let_e]
      rw [hm_sFI _ _ _ _ _ (Or.inr (Or.inl (by decide)))]
      simp only [c_within, bI_s, v1, v2, z1, if_false, hm_K, hm_R, rd_hK_sFI, rd_hFR_sFI, m0, f1210, k350, n350, f1259, k397, n397, f1260, k398, n398, if_true, bR_s, ks, bV_s]
      rfl
    | succ i ih =>
      intro hi
      obtain ⟨τ, y, q1⟩ := ih (by omega)
      obtain ⟨R, q2⟩ := qS i
      obtain ⟨u1, u2, u3⟩ := SR_cap hPR q2
      obtain ⟨τ2, y2, k2⟩ := c_mhour (dp := d2) (ρ := τ) (w := y) L2.2.2.2.1 L2.2.2.2.2.1 L2.2.2.2.2.2.1 (PRow_T hPR) (show hr + i < 2 ^ 31 by omega) u1 u2 u3
      change am_C PG (d2 + 6) 215 [.ref 348] (HM (asd g2 (enc Q)) (enc (mhours W (hAI (asd g2 (enc Q))) nc ne nw hr i Q)) τ y) = some (none, HM (asd g2 (enc Q)) (enc (mhours W (hAI (asd g2 (enc Q))) nc ne nw hr (i + 1) Q)) τ2 y2) at k2
      have e5 : (nI i < nI m) = True := eq_true (nI_lt (by omega) (by omega))
      have e6 : (nI nw < nI nw) = False := eq_false (nI_nlt (Nat.le_refl _) (by omega))
      have n4 := L2.2.2.2.2.2.1.2.2.1
      have i4 : Int32.toNatClampNeg 4 = 4 := by decide
      have x4 : ∀ x, am_in (4 : Int32) 10 x = x := am_inN (i := 4) (by decide) (by decide)
      have o0 : ∀ u τ y, hAI (HM (asd g2 (enc Q)) u τ y) 350 = hAI (asd g2 (enc Q)) 350 := fun u τ y => hm_o _ _ _ _ (by decide) (by decide)
      have kl := c_late62 (d := d2 + 6) (Q := mhours W (hAI (asd g2 (enc Q))) nc ne nw hr (i + 1) Q) (ρ := τ2) (w := y2) (D0 := dn Q.1) (P := B i) (f := lF B i) (l1 := nI m) (l2 := a) (l5 := nI i) L2.2.2.2.1 L2.2.2.2.2.2.1 (fun k hk => by
        rw [asd_398, cp_in (by omega)]
        exact enc_o _ hk) (fun k hk => by
        rcases hS.2.2.2.2.2.2.2.2.2.2.1 k hk with z | z | z | z
        · exact Or.inl z
        · exact Or.inr (by rw [z]; decide)
        · exact Or.inr (by rw [z]; decide)
        · exact Or.inr (by rw [z]; decide)) (fun k hk => by rw [hBi]; exact Bm i k hk) (fun hf => ⟨lF_neg B i hf, FB i hf⟩) nw (Nat.le_refl _)
      rw [hBi] at kl
      have em : mx (B (i + 1)) (B i) nw = B (i + 1) := by
        funext k
        unfold mx
        by_cases c : k < nw
        · rw [if_pos c]
        · rw [if_neg c, Bo i k (by omega), Bo (i + 1) k (by omega)]
      have el : lst (B (i + 1)) nw = lst (B (i + 1)) 6 := by
        obtain ⟨k, hk⟩ : ∃ k, 6 = nw + k := ⟨6 - nw, by omega⟩
        rw [hk, lst_up k (by omega) (fun j h1 h2 => Bo _ j h1)]
      rw [em, el, ← Fs] at kl
      refine ⟨τ2, y2, ?_⟩
      rw [q1, q_X12_late_49]
      simp only [hm_K, hm_R, hm_L, hm_at, hm_E, hm_5, hm_6, hm_7, hm_8, hm_s5, hm_s6, hm_s7, hm_s8, asd_K, am_kd, m0, if_true, e5, k2, bV_s]
      rw [kl, q_X12_late_62]
      simp only [hm_K, hm_R, hm_L, hm_at, hm_E, hm_5, hm_6, hm_7, hm_8, hm_s5, hm_s6, hm_s7, hm_s8, asd_K, asd_R, asd_L, am_kd, m0, f1210, k350, n350, f1259, k397, n397, f1260, k398, n398, if_true, bR_s, x4, i4, o0, n4, e6, if_false, nI_1]
  obtain ⟨τ, y, q1⟩ := lr m (Nat.le_refl _)
  have kb := c_back (d := d2 + 5) (f := enc Q) (u := enc (mhours W (hAI (asd g2 (enc Q))) nc ne nw hr m Q)) (ρ := τ) (w := y) hm
  have q2 : am_C PG (d2 + 7) 241 [.ref 348, .int (nI m), .int a] (HM g2 (enc Q) ρ w) = (if a = -1 then some (some (.int (bitN (B m) 6)), HM (asd g2 (enc Q)) (cp 43 (enc Q) (enc (mhours W (hAI (asd g2 (enc Q))) nc ne nw hr m Q))) τ y) else some (some (.int (lF B m)), HM (asd g2 (enc Q)) (cp 43 (enc Q) (enc (mhours W (hAI (asd g2 (enc Q))) nc ne nw hr m Q))) τ y)) := by
    rw [q1, q_X12_late_49, if_neg (nI_nlt (Nat.le_refl _) (by omega))]
    simp only [hm_K, hm_R, hm_L, hm_at, hm_E, hm_5, hm_6, hm_7, hm_8, hm_s5, hm_s6, hm_s7, hm_s8, asd_K, asd_R, am_kd, m0, f1210, k350, n350, f1259, k397, n397, f1260, k398, n398, if_true, bR_s, kb, bV_s]
  have nm : ¬ nI m < nI m := nI_nlt (Nat.le_refl _) (by omega)
  rcases hab with z | z
  · rcases lc m (Nat.le_refl _) with ⟨x1, _⟩ | ⟨f, T, x1, x2, x3⟩
    · exact absurd (z.2.symm.trans x1) (by decide)
    · rw [q_X0_lateWorks_21, if_neg nm, if_pos z.2] at x3
      rw [if_pos z.1] at q2
      exact ⟨_, f, T, τ, y, _, x3, q2⟩
  · rw [if_neg (by rw [z.1]; decide)] at q2
    rcases lc m (Nat.le_refl _) with ⟨x1, x2, f, T, x3⟩ | ⟨f, T, x1, x2, x3⟩
    · exact ⟨_, f, T, τ, y, _, x3, q2⟩
    · rw [q_X0_lateWorks_21, if_neg nm, if_neg (by rw [z.2]; decide), ← lF_neg B m (x1 z.2)] at x3
      exact ⟨_, f, T, τ, y, _, x3, q2⟩
