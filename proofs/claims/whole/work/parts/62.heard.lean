/-! What is said and told: the class's Heard against the reference's rows 391..396. -/
def HeSh (h : AH) (a : Nat) : Prop := hK h a = 4 ∧ hFR h 301 a = some (a + 1) ∧ hFR h 302 a = some (a + 2) ∧ hFR h 304 a = some (a + 3) ∧ hFR h 305 a = some (a + 4) ∧ hK h (a + 1) = 50 ∧ hK h (a + 2) = 50 ∧ hK h (a + 3) = 50 ∧ hK h (a + 4) = 50 ∧ hLN h (a + 1) = 10 ∧ hLN h (a + 2) = 10 ∧ hLN h (a + 3) = 12 ∧ hLN h (a + 4) = 12
theorem HeSh.to {h g : AH} {a : Nat} (e1 : hK g = hK h) (e2 : hFR g = hFR h) (e3 : hLN g = hLN h) (s : HeSh h a) : HeSh g a := by
  unfold HeSh at s ⊢
  rw [e1, e2, e3]
  exact s
theorem sEI_e (h : AH) (a i : Nat) (v : Int32) : sEI h a i v = sAI h a (upd (hAI h a) i v) := AH_ext rfl rfl rfl rfl rfl rfl rfl rfl rfl
theorem sFI_at (h : AH) (k a : Nat) (v : Int32) : hFI (sFI h k a v) k a = v := by
  rw [rd_hFI_sFI]
  unfold am_up2
  rw [if_pos ⟨rfl, rfl⟩]
theorem c_addSaid {d a n : Nat} {h : AH} (hs : HeSh h a) (hn : hFI h 300 a = nI n) (hl : n < 10) (x y : Int32) : am_C PG (d + 1) 36 [.ref a, .int x, .int y] h = some (some (.int 1), sFI (sAI (sAI h (a + 1) (upd (hAI h (a + 1)) n x)) (a + 2) (upd (hAI h (a + 2)) n y)) 300 a (nI (n + 1))) := by
  obtain ⟨a0, f1, f2, f3, f4, k1, k2, k3, k4, n1, n2, n3, n4⟩ := hs
  have e5 : (nI n < (10 : Int32)) = True := eq_true (nI_lt (b := 10) hl (by decide))
  have e1 : ∀ x, am_in (nI n) 10 x = x := am_inN hl (by decide)
  have t1 : Int32.toNatClampNeg (nI n) = n := nI_clamp (by omega)
  have w : ∀ f, hAI (sAI h (a + 1) f) (a + 2) = hAI h (a + 2) := fun f => sAI_ne _ _ (by omega)
  rw [q_X3_addSaid]
  simp only [am_kd, sEI_e, rd_hK_sAI, rd_hLN_sAI, rd_hFR_sAI, rd_hFI_sAI, rd_hK_sFI, a0, f1, f2, f3, f4, k1, k2, k3, k4, n1, n2, n3, n4, hn, if_true, e5, bR_s, e1, t1, am_let_e, w, nI_1, am_nar4_1]
theorem c_addSaid_no {d a : Nat} {h : AH} (hs : HeSh h a) (hn : ¬ hFI h 300 a < 10) (x y : Int32) : am_C PG (d + 1) 36 [.ref a, .int x, .int y] h = some (some (.int 0), h) := by
  obtain ⟨a0, f1, f2, f3, f4, k1, k2, k3, k4, n1, n2, n3, n4⟩ := hs
  rw [q_X3_addSaid]
  simp only [am_kd, a0, if_true, if_neg hn, am_nar4_0]
theorem c_addTold {d a n : Nat} {h : AH} (hs : HeSh h a) (hn : hFI h 303 a = nI n) (hl : n < 12) (x y : Int32) : am_C PG (d + 1) 37 [.ref a, .int x, .int y] h = some (some (.int 1), sFI (sAI (sAI h (a + 3) (upd (hAI h (a + 3)) n x)) (a + 4) (upd (hAI h (a + 4)) n y)) 303 a (nI (n + 1))) := by
  obtain ⟨a0, f1, f2, f3, f4, k1, k2, k3, k4, n1, n2, n3, n4⟩ := hs
  have e5 : (nI n < (12 : Int32)) = True := eq_true (nI_lt (b := 12) hl (by decide))
  have e1 : ∀ x, am_in (nI n) 12 x = x := am_inN hl (by decide)
  have t1 : Int32.toNatClampNeg (nI n) = n := nI_clamp (by omega)
  have w : ∀ f, hAI (sAI h (a + 3) f) (a + 4) = hAI h (a + 4) := fun f => sAI_ne _ _ (by omega)
  rw [q_X3_addTold]
  simp only [am_kd, sEI_e, rd_hK_sAI, rd_hLN_sAI, rd_hFR_sAI, rd_hFI_sAI, rd_hK_sFI, a0, f1, f2, f3, f4, k1, k2, k3, k4, n1, n2, n3, n4, hn, if_true, e5, bR_s, e1, t1, am_let_e, w, nI_1, am_nar4_1]
theorem c_addTold_no {d a : Nat} {h : AH} (hs : HeSh h a) (hn : ¬ hFI h 303 a < 12) (x y : Int32) : am_C PG (d + 1) 37 [.ref a, .int x, .int y] h = some (some (.int 0), h) := by
  obtain ⟨a0, f1, f2, f3, f4, k1, k2, k3, k4, n1, n2, n3, n4⟩ := hs
  rw [q_X3_addTold]
  simp only [am_kd, a0, if_true, if_neg hn, am_nar4_0]
/-- how many of the first n say so -/
def xso (D : Nat → Prop) [DecidablePred D] : Nat → Nat
  | 0 => 0
  | n + 1 => xso D n + if D n then 0 else 1
theorem xso_le (D : Nat → Prop) [DecidablePred D] : ∀ n, xso D n ≤ n
  | 0 => Nat.le_refl _
  | n + 1 => by
    have := xso_le D n
    unfold xso
    split <;> omega
theorem xso_eq {D E : Nat → Prop} [DecidablePred D] [DecidablePred E] : ∀ n, (∀ i, i < n → (D i ↔ E i)) → xso D n = xso E n
  | 0, _ => rfl
  | n + 1, e => by
    unfold xso
    rw [xso_eq n (fun i hi => e i (by omega))]
    have := e n (by omega)
    by_cases c : D n
    · rw [if_pos c, if_pos (this.1 c)]
    · rw [if_neg c, if_neg (fun z => c (this.2 z))]
def iabs (x : Int32) : Int32 := if x < 0 then -x else x
def iaway (x y : Int32) : Int32 := if x < y then y - x else x - y
theorem c_soAt {d a n : Nat} {h : AH} (hs : HeSh h a) (hn : hFI h 300 a = nI n) (hl : n ≤ 10) (hr : Int32) : am_C PG (d + 2) 39 [.ref a, .int hr] h = some (some (.int (nI (xso (fun i => hAI h (a + 2) i < iabs (hAI h (a + 1) i - hr)) n))), h) := by
  obtain ⟨a0, f1, f2, f3, f4, k1, k2, k3, k4, n1, n2, n3, n4⟩ := hs
  have lp : ∀ i, i ≤ n → am_C PG (d + 2) 39 [.ref a, .int hr] h = am_R PG (d + 2) 39 4 [some (.ref a), some (.int hr), some (.int (nI (xso (fun i => hAI h (a + 2) i < iabs (hAI h (a + 1) i - hr)) i))), some (.int (nI i))] [] h := by
    intro i
    induction i with
    | zero => intro _; rw [q_X3_soAt]; rfl
    | succ i ih =>
      intro hi
      have e5 : (nI i < nI n) = True := eq_true (nI_lt (by omega) (by omega))
      have e1 : ∀ x, am_in (nI i) 10 x = x := am_inN (by omega) (by decide)
      have t1 : Int32.toNatClampNeg (nI i) = i := nI_clamp (by omega)
      rw [ih (by omega), q_X3_soAt_4]
      simp only [am_kd, a0, f1, f2, f3, f4, k1, k2, k3, k4, n1, n2, n3, n4, if_true, hn, e5, bR_s, e1, t1, c_abs, bI_s]
      by_cases c : hAI h (a + 2) i < iabs (hAI h (a + 1) i - hr)
      · rw [if_pos (show hAI h (a + 2) i < (if hAI h (a + 1) i - hr < 0 then -(hAI h (a + 1) i - hr) else hAI h (a + 1) i - hr) from c)]
        simp only [xso, if_pos c, nI_1, Nat.add_zero, show ∀ x : Int32, x + 0 = x from Int32.add_zero]
      · rw [if_neg (show ¬ hAI h (a + 2) i < (if hAI h (a + 1) i - hr < 0 then -(hAI h (a + 1) i - hr) else hAI h (a + 1) i - hr) from c)]
        simp only [xso, if_neg c, nI_1]
  rw [lp n (Nat.le_refl _), q_X3_soAt_4]
  have e6 : (nI n < nI n) = False := eq_false (nI_nlt (Nat.le_refl _) (by omega))
  simp only [am_kd, a0, f1, f2, f3, f4, k1, k2, k3, k4, n1, n2, n3, n4, if_true, hn, e6, if_false]
theorem c_agreeing {d n : Nat} {h : AH} (hm : MSh h) (hn : hAI h 391 0 = nI n) (hl : n ≤ 10) (hr : Int32) : am_C PG (d + 2) 247 [.ref 348, .int hr] h = some (some (.int (nI (xso (fun i => hAI h 393 i < iaway hr (hAI h 392 i)) n))), h) := by
  have m0 := hm.1
  have f1253 : hFR _ 1253 348 = some 391 := (hm.2 42 (by decide)).1
  have k391 : hK _ 391 = 50 := (hm.2 42 (by decide)).2.1
  have n391 : hLN _ 391 = 5 := (hm.2 42 (by decide)).2.2
  have f1254 : hFR _ 1254 348 = some 392 := (hm.2 43 (by decide)).1
  have k392 : hK _ 392 = 50 := (hm.2 43 (by decide)).2.1
  have n392 : hLN _ 392 = 50 := (hm.2 43 (by decide)).2.2
  have f1255 : hFR _ 1255 348 = some 393 := (hm.2 44 (by decide)).1
  have k393 : hK _ 393 = 50 := (hm.2 44 (by decide)).2.1
  have n393 : hLN _ 393 = 50 := (hm.2 44 (by decide)).2.2
  have e0 : ∀ x, am_in (0 : Int32) 5 x = x := am_inN (i := 0) (by decide) (by decide)
  have lp : ∀ i, i ≤ n → am_C PG (d + 2) 247 [.ref 348, .int hr] h = am_R PG (d + 2) 247 4 [some (.ref 348), some (.int hr), some (.int (nI (xso (fun i => hAI h 393 i < iaway hr (hAI h 392 i)) i))), some (.int (nI i))] [] h := by
    intro i
    induction i with
    | zero => intro _; rw [q_X12_agreeing]; rfl
    | succ i ih =>
      intro hi
      have e5 : (nI i < nI n) = True := eq_true (nI_lt (by omega) (by omega))
      have e1 : ∀ x, am_in (nI i) 50 x = x := am_inN (by omega) (by decide)
      have t1 : Int32.toNatClampNeg (nI i) = i := nI_clamp (by omega)
      have k : am_C PG (d + 1) 163 [.int hr, .int (hAI h 392 i)] h = some (some (.int (iaway hr (hAI h 392 i))), h) := by
        rw [q_X12_away]
        unfold iaway
        split <;> rfl
      rw [ih (by omega), q_X12_agreeing_4]
      simp only [am_kd, m0, f1253, k391, n391, f1254, k392, n392, f1255, k393, n393, if_true, nI_cl0, hn, e5, bR_s, e0, e1, t1, k, bI_s]
      by_cases c : hAI h 393 i < iaway hr (hAI h 392 i)
      · rw [if_pos c]
        simp only [xso, if_pos c, nI_1, Nat.add_zero, show ∀ x : Int32, x + 0 = x from Int32.add_zero]
      · rw [if_neg c]
        simp only [xso, if_neg c, nI_1]
  rw [lp n (Nat.le_refl _), q_X12_agreeing_4]
  have e6 : (nI n < nI n) = False := eq_false (nI_nlt (Nat.le_refl _) (by omega))
  simp only [am_kd, m0, f1253, k391, n391, f1254, k392, n392, f1255, k393, n393, if_true, nI_cl0, bR_s, e0, hn, e6, if_false]
theorem iaway_eq {x y : Int32} (h1 : ¬ x < 0) (h2 : ¬ y < 0) : iabs (y - x) = iaway x y := by
  rw [i_lt, Int32.toInt_zero] at h1 h2
  have a1 := Int32.toInt_lt x
  have a2 := Int32.toInt_lt y
  have e : (y - x).toInt = y.toInt - x.toInt := i_sub (by omega) (by omega)
  unfold iabs iaway
  by_cases c : x < y
  · rw [if_pos c, if_neg]
    rw [i_lt] at c ⊢
    rw [e, Int32.toInt_zero]
    omega
  · rw [if_neg c]
    by_cases c2 : x = y
    · subst c2
      rw [Int32.sub_self]
      rfl
    · rw [if_pos, Int32.neg_sub]
      rw [i_lt] at c ⊢
      rw [i_eq] at c2
      rw [e, Int32.toInt_zero]
      omega
/-- the hours that most say: most, many, first, last -/
def tst (v h : Int32) (T : Int32 × Int32 × Int32 × Int32) : Int32 × Int32 × Int32 × Int32 :=
  if T.1 < v then (v, 1, h, h) else if v = T.1 then (T.1, T.2.1 + 1, T.2.2.1, if T.2.2.2 = h - 1 then h else T.2.2.2) else T
def tru (v : Nat → Int32) : Nat → Int32 × Int32 × Int32 × Int32
  | 0 => (-1, 0, 0, 0)
  | n + 1 => tst (v n) (nI n) (tru v n)
def tans (a m n : Int32) (T : Int32 × Int32 × Int32 × Int32) : Int32 := if a = 0 then T.2.1 else if a = 1 then T.2.2.1 else if a = 2 then T.2.2.2 else n - m
theorem c_true {d a n : Nat} {h : AH} (hs : HeSh h a) (hn : hFI h 300 a = nI n) (hl : n ≤ 10) (w : Int32) : am_C PG (d + 3) 38 [.ref a, .int w] h = some (some (.int (tans w (tru (fun k => nI (xso (fun i => hAI h (a + 2) i < iabs (hAI h (a + 1) i - nI k)) n)) 1099).1 (nI n) (tru (fun k => nI (xso (fun i => hAI h (a + 2) i < iabs (hAI h (a + 1) i - nI k)) n)) 1099))), h) := by
  have k0 := fun hr => c_soAt (d := d) hs hn hl hr
  obtain ⟨a0, f1, f2, f3, f4, k1, k2, k3, k4, n1, n2, n3, n4⟩ := hs
  generalize hv : (fun k => nI (xso (fun i => hAI h (a + 2) i < iabs (hAI h (a + 1) i - nI k)) n)) = v
  have k1 : ∀ k, am_C PG (d + 2) 39 [.ref a, .int (nI k)] h = some (some (.int (v k)), h) := by
    intro k
    rw [k0, ← hv]
  have lp : ∀ i, i ≤ 1099 → am_C PG (d + 3) 38 [.ref a, .int w] h = am_R PG (d + 3) 38 13 [some (.ref a), some (.int w), some (.int (tru v i).1), some (.int (tru v i).2.1), some (.int (tru v i).2.2.1), some (.int (tru v i).2.2.2), some (.int (nI i)), none] [] h := by
    intro i
    induction i with
    | zero => intro _; rw [q_X3_trueHours]; rfl
    | succ i ih =>
      intro hi
      have e5 : ((1098 : Int32) < nI i) = False := eq_false (nI_nlt (a := 1098) (by omega) (by decide))
      rw [ih (by omega), q_X3_trueHours_13]
      simp only [am_kd, a0, if_true, e5, if_false, k1, bI_s, nI_1]
      simp only [tru]
      generalize tru v i = T
      unfold tst
      by_cases c1 : T.1 < v i
      · simp only [if_pos c1]
        rfl
      · by_cases c2 : v i = T.1
        · by_cases c3 : T.2.2.2 = nI i - 1
          · simp only [if_neg c1, if_pos c2, if_pos c3]
          · simp only [if_neg c1, if_pos c2, if_neg c3]
        · simp only [if_neg c1, if_neg c2]
  rw [lp 1099 (Nat.le_refl _), q_X3_trueHours_13]
  have e6 : ((1098 : Int32) < nI 1099) = True := eq_true (nI_lt (a := 1098) (by decide) (by decide))
  simp only [am_kd, a0, if_true, e6, hn, tans]
  split
  · rfl
  · split
    · rfl
    · split <;> rfl
theorem c_mtruth0 {d n : Nat} {h : AH} (hm : MSh h) (hn : hAI h 391 0 = nI n) (hl : n ≤ 10) (w : Int32) : am_R PG (d + 3) 248 29 [some (.ref 348), some (.int w), some (.int (-1)), some (.int 0), some (.int 0), some (.int 0), some (.int 0), none] [] h = some (some (.int (tans w (tru (fun k => nI (xso (fun i => hAI h 393 i < iaway (nI k) (hAI h 392 i)) n)) 1099).1 (nI n) (tru (fun k => nI (xso (fun i => hAI h 393 i < iaway (nI k) (hAI h 392 i)) n)) 1099))), h) := by
  have k0 := fun hr => c_agreeing (d := d) hm hn hl hr
  have m0 := hm.1
  have f1253 : hFR _ 1253 348 = some 391 := (hm.2 42 (by decide)).1
  have k391 : hK _ 391 = 50 := (hm.2 42 (by decide)).2.1
  have n391 : hLN _ 391 = 5 := (hm.2 42 (by decide)).2.2
  have e0 : ∀ x, am_in (0 : Int32) 5 x = x := am_inN (i := 0) (by decide) (by decide)
  generalize hv : (fun k => nI (xso (fun i => hAI h 393 i < iaway (nI k) (hAI h 392 i)) n)) = v
  have k1 : ∀ k, am_C PG (d + 2) 247 [.ref 348, .int (nI k)] h = some (some (.int (v k)), h) := by
    intro k
    rw [k0, ← hv]
  have lp : ∀ i, i ≤ 1099 → am_R PG (d + 3) 248 29 [some (.ref 348), some (.int w), some (.int (-1)), some (.int 0), some (.int 0), some (.int 0), some (.int 0), none] [] h = am_R PG (d + 3) 248 29 [some (.ref 348), some (.int w), some (.int (tru v i).1), some (.int (tru v i).2.1), some (.int (tru v i).2.2.1), some (.int (tru v i).2.2.2), some (.int (nI i)), none] [] h := by
    intro i
    induction i with
    | zero => intro _; rfl
    | succ i ih =>
      intro hi
      have e5 : (nI i < (1099 : Int32)) = True := eq_true (nI_lt (b := 1099) (by omega) (by decide))
      rw [ih (by omega), q_X12_truth_29]
      simp only [am_kd, m0, if_true, e5, k1, bI_s, nI_1]
      simp only [tru]
      generalize tru v i = T
      unfold tst
      by_cases c1 : T.1 < v i
      · have c0 : ¬ v i < T.1 := by rw [i_lt] at c1 ⊢; omega
        have c4 : ¬ nI i = nI (i + 1) := by rw [nI_eq (by omega) (by omega)]; omega
        simp only [if_pos c1, if_neg c0, if_neg c4]
        rfl
      · by_cases c2 : v i = T.1
        · have c0 : ¬ v i < T.1 := by rw [c2, i_lt]; omega
          by_cases c3 : T.2.2.2 = nI i - 1
          · have c5 : nI i = T.2.2.2 + 1 := by rw [c3, Int32.sub_add_cancel]
            rw [if_neg c0, if_neg c1, if_pos c5, if_neg c1, if_pos c2]
            simp only [if_pos c3]
          · have c5 : ¬ nI i = T.2.2.2 + 1 := by intro z; apply c3; rw [z, Int32.add_sub_cancel]
            rw [if_neg c0, if_neg c1, if_neg c5, if_neg c1, if_pos c2]
            simp only [if_neg c3]
        · have c0 : v i < T.1 := by rw [i_lt] at c1 ⊢; rw [i_eq] at c2; omega
          simp only [if_neg c1, if_neg c2, if_pos c0]
  rw [lp 1099 (Nat.le_refl _), q_X12_truth_29]
  have e6 : (nI 1099 < (1099 : Int32)) = False := eq_false (nI_nlt (b := 1099) (Nat.le_refl _) (by decide))
  simp only [am_kd, m0, f1253, k391, n391, if_true, if_false, e6, bR_s, e0, nI_cl0, hn, tans]
  split
  · rfl
  · split
    · rfl
    · split <;> rfl
