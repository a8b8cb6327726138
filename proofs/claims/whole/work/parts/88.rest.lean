/-! Resting prices: the class's search; the reference's sums. -/
/-- no other price of its own has more -/
def rAt (A B : Nat → Int32) (i : Nat) : Nat → Bool
  | 0 => true
  | n + 1 => rAt A B i n && (decide (¬ A i < A (10 * n + i % 10)) && decide (¬ B i < B (10 * (i / 10) + n)))
theorem c_rest {d a i g1 g2 : Nat} {h : AH} (ha : hK h a = 2) (hg1 : hFR h 115 a = some g1) (hg2 : hFR h 116 a = some g2) (k1 : hK h g1 = 50) (k2 : hK h g2 = 50) (n1 : hLN h g1 = 100) (n2 : hLN h g2 = 100) (hi : i < 100) :
    am_C PG (d + 1) 29 [.ref a, .int (nI i)] h = some (some (.int (bi (rAt (hAI h g1) (hAI h g2) i 10))), h) := by
  have d10 : ∀ x, am_dz (10 : Int32) x = x := fun x => am_dz_t (by decide) x
  have q1 : nI i / 10 = nI (i / 10) := pk_div (d := 10) (by omega) (by decide) (by decide)
  have q2 : am_rem (nI i) 10 = nI (i % 10) := rem_nI (d := 10) (by omega) (by decide) (by decide)
  have ei : ∀ x, am_in (nI i) 100 x = x := am_inN hi (by decide)
  have ti : Int32.toNatClampNeg (nI i) = i := nI_clamp (by omega)
  have lp : ∀ n, n ≤ 10 → am_C PG (d + 1) 29 [.ref a, .int (nI i)] h = (if rAt (hAI h g1) (hAI h g2) i n = true then am_R PG (d + 1) 29 13 [some (.ref a), some (.int (nI i)), some (.int (nI (i / 10))), some (.int (nI (i % 10))), some (.int (nI n))] [] h else some (some (.int 0), h)) := by
    intro n
    induction n with
    | zero => intro _; rw [q_X1_isAtRest, d10, d10, q1, q2]; rfl
    | succ n ih =>
      intro hn
      rw [ih (by omega)]
      by_cases c : rAt (hAI h g1) (hAI h g2) i n = true
      · have e5 : (nI n < (10 : Int32)) = True := eq_true (nI_lt (b := 10) (by omega) (by decide))
        have m1 : nI n * (10 : Int32) + nI (i % 10) = nI (10 * n + i % 10) := by rw [show (10 : Int32) = nI 10 from rfl, pk_mul, nI_add, Nat.mul_comm]
        have m2 : nI (i / 10) * (10 : Int32) + nI n = nI (10 * (i / 10) + n) := by rw [show (10 : Int32) = nI 10 from rfl, pk_mul, nI_add, Nat.mul_comm]
        have i1 : ∀ x, am_in (nI (10 * n + i % 10)) 100 x = x := am_inN (by omega) (by decide)
        have i2 : ∀ x, am_in (nI (10 * (i / 10) + n)) 100 x = x := am_inN (by omega) (by decide)
        have t1 : Int32.toNatClampNeg (nI (10 * n + i % 10)) = 10 * n + i % 10 := nI_clamp (by omega)
        have t2 : Int32.toNatClampNeg (nI (10 * (i / 10) + n)) = 10 * (i / 10) + n := nI_clamp (by omega)
        rw [if_pos c, q_X1_isAtRest_13]
        simp only [am_kd, ha, hg1, hg2, k1, k2, n1, n2, if_true, bR_s, e5, m1, m2, ei, ti, i1, i2, t1, t2, am_nar4_0, nI_1, rAt, c, Bool.true_and]
        by_cases c1 : hAI h g1 i < hAI h g1 (10 * n + i % 10)
        · simp [c1]
        · by_cases c2 : hAI h g2 i < hAI h g2 (10 * (i / 10) + n)
          · simp [c1, c2]
          · simp [c1, c2]
      · rw [if_neg c, if_neg (by rw [rAt, Bool.eq_false_iff.2 c, Bool.false_and]; decide)]
  rw [lp 10 (Nat.le_refl _)]
  cases c : rAt (hAI h g1) (hAI h g2) i 10 with
  | false => rfl
  | true => rw [if_pos rfl, q_X1_isAtRest_13, if_neg (show ¬ nI 10 < (10 : Int32) by decide), am_nar4_1]; rfl
/-- the w-th one; how many ahead -/
def rst (B : Nat → Bool) (w : Int32) : Nat → Option Nat × Nat
  | 0 => (none, 0)
  | n + 1 => match (rst B w n).1 with
    | some v => (some v, (rst B w n).2)
    | none => if B n = true then (if nI (rst B w n).2 = w then (some n, (rst B w n).2) else (none, (rst B w n).2 + 1)) else (none, (rst B w n).2)
theorem rst_le (B : Nat → Bool) (w : Int32) : ∀ n, (rst B w n).2 ≤ n ∧ ∀ v, (rst B w n).1 = some v → v < n
  | 0 => ⟨Nat.le_refl _, fun v h => by cases h⟩
  | n + 1 => by
    obtain ⟨h1, h2⟩ := rst_le B w n
    simp only [rst]
    cases e : (rst B w n).1 with
    | some v =>
      refine ⟨by dsimp only; omega, fun u hu => ?_⟩
      cases hu
      have := h2 v e
      omega
    | none =>
      dsimp only
      split
      · split
        · exact ⟨by dsimp only; omega, fun u hu => by cases hu; omega⟩
        · exact ⟨by dsimp only; omega, fun u hu => by cases hu⟩
      · exact ⟨by dsimp only; omega, fun u hu => by cases hu⟩
/-- what each gains -/
def rA (T1 T2 dr : Nat → Int32) (ne i : Nat) : Int32 := rS (fun e => rG1 (T1 e) (T2 e) (nI (i / 10)) (nI (i % 10))) dr ne * nI (i / 10)
def rB (T1 T2 dr : Nat → Int32) (ne i : Nat) : Int32 := rS (fun e => rG2 (T1 e) (T2 e) (nI (i / 10)) (nI (i % 10))) dr ne * nI (i % 10)
theorem rAt_congr {A B A' B' : Nat → Int32} {i : Nat} (hi : i < 100) (h1 : ∀ j, j < 100 → A j = A' j) (h2 : ∀ j, j < 100 → B j = B' j) : ∀ n, n ≤ 10 → rAt A B i n = rAt A' B' i n
  | 0, _ => rfl
  | n + 1, hn => by
    unfold rAt
    rw [rAt_congr hi h1 h2 n (by omega), h1 i hi, h2 i hi, h1 _ (by omega), h2 _ (by omega)]
theorem rst_congr {B B' : Nat → Bool} {w : Int32} : ∀ n, (∀ j, j < n → B j = B' j) → rst B w n = rst B' w n
  | 0, _ => rfl
  | n + 1, h => by
    unfold rst
    rw [rst_congr n (fun j hj => h j (by omega)), h n (by omega)]
/-- the class's answer: below 0 none -/
def rsA (B : Nat → Bool) (w : Int32) : Int32 := match (rst B w 100).1 with
  | some v => nI v
  | none => if w = -1 then nI (rst B w 100).2 else -1
theorem c_resting {d p s np nc ne nw a one other : Nat} {h : AH} {q : Nat → Nat} {w : Int32} (hp : PoC h p np nc ne nw) (hs : StSh h s) (ha : hK h a = 2) (hg1 : hFR h 115 a = some 122) (hg2 : hFR h 116 a = some 123) (k1 : hK h 122 = 50) (k2 : hK h 123 = 50) (n1 : hLN h 122 = 100) (n2 : hLN h 123 = 100) (hpb : p ≤ 30) (hsb : s ≤ 62) (h1 : one < 5) (h2 : other < 5) (hq : ∀ e, e < ne → q e < 5 ∧ hAI h (s + 4) e = nI (q e)) :
    ∃ u v, am_C PG (d + 3) 27 [.ref a, .ref p, .ref s, .int (nI one), .int (nI other), .int w] h = some (some (.int (rsA (fun i => rAt (rA (fun e => hAI h (p + 3) (5 * q e + one)) (fun e => hAI h (p + 3) (5 * q e + other)) (hAI h (p + 8)) ne) (rB (fun e => hAI h (p + 3) (5 * q e + one)) (fun e => hAI h (p + 3) (5 * q e + other)) (hAI h (p + 8)) ne) i 10) w)), sAI (sAI h 122 u) 123 v) := by
  have hne := hp.2.2.2.2.2.2.2.1
  generalize hA : rA (fun e => hAI h (p + 3) (5 * q e + one)) (fun e => hAI h (p + 3) (5 * q e + other)) (hAI h (p + 8)) ne = A
  generalize hB : rB (fun e => hAI h (p + 3) (5 * q e + one)) (fun e => hAI h (p + 3) (5 * q e + other)) (hAI h (p + 8)) ne = B
  have lp : ∀ i, i ≤ 100 → am_C PG (d + 3) 27 [.ref a, .ref p, .ref s, .int (nI one), .int (nI other), .int w] h = am_R PG (d + 3) 27 3 [some (.ref a), some (.ref p), some (.ref s), some (.int (nI one)), some (.int (nI other)), some (.int w), some (.int (nI i)), none] [] (sAI (sAI h 122 (cp i A (hAI h 122))) 123 (cp i B (hAI h 123))) := by
    intro i
    induction i with
    | zero =>
      intro _
      rw [cp_0, cp_0, sAI_self, sAI_self, q_X1_restingPrices]
      rfl
    | succ i ih =>
      intro hi
      have e5 : (nI i < (100 : Int32)) = True := eq_true (nI_lt (b := 100) (by omega) (by decide))
      have hp2 : PoC (sAI (sAI h 122 (cp i A (hAI h 122))) 123 (cp i B (hAI h 123))) p np nc ne nw := hp.scr.scr
      have o : ∀ b, b ≠ 122 → b ≠ 123 → hAI (sAI (sAI h 122 (cp i A (hAI h 122))) 123 (cp i B (hAI h 123))) b = hAI h b := fun b z1 z2 => by rw [sAI_ne _ _ z2, sAI_ne _ _ z1]
      have k := c_sell (d := d) (one := one) (other := other) (i := i) (q := q) hp2 (hs.to rfl rfl rfl) ha hg1 hg2 k1 k2 n1 n2 (by decide) h1 h2 (by omega) (fun e he => ⟨(hq e he).1, by rw [o _ (by omega) (by omega)]; exact (hq e he).2⟩)
      rw [o (p + 3) (by omega) (by omega), o (p + 8) (by omega) (by omega)] at k
      have eA : rS (fun e => rG1 (hAI h (p + 3) (5 * q e + one)) (hAI h (p + 3) (5 * q e + other)) (nI (i / 10)) (nI (i % 10))) (hAI h (p + 8)) ne * nI (i / 10) = A i := by rw [← hA]; rfl
      have eB : rS (fun e => rG2 (hAI h (p + 3) (5 * q e + one)) (hAI h (p + 3) (5 * q e + other)) (nI (i / 10)) (nI (i % 10))) (hAI h (p + 8)) ne * nI (i % 10) = B i := by rw [← hB]; rfl
      rw [eA, eB] at k
      have w1 : hAI (sAI (sAI h 122 (cp i A (hAI h 122))) 123 (cp i B (hAI h 123))) 122 = cp i A (hAI h 122) := by rw [sAI_ne _ _ (by decide), sAI_at]
      have w2 : hAI (sAI (sAI h 122 (cp i A (hAI h 122))) 123 (cp i B (hAI h 123))) 123 = cp i B (hAI h 123) := sAI_at _ _ _
      rw [w1, w2, cp_succ, cp_succ, sAI_comm _ (show (123 : Nat) ≠ 122 by decide), sAI_sAI, sAI_sAI] at k
      rw [ih (by omega), q_X1_restingPrices_3]
      simp only [am_kd, rd_hK_sAI, ha, if_true, e5, k, bV_s, nI_1]
  have lp2 : ∀ i, i ≤ 100 → am_C PG (d + 3) 27 [.ref a, .ref p, .ref s, .int (nI one), .int (nI other), .int w] h = (match (rst (fun i => rAt A B i 10) w i).1 with
      | some v => some (some (.int (nI v)), sAI (sAI h 122 (cp 100 A (hAI h 122))) 123 (cp 100 B (hAI h 123)))
      | none => am_R PG (d + 3) 27 33 [some (.ref a), none, none, none, none, some (.int w), some (.int (nI (rst (fun i => rAt A B i 10) w i).2)), some (.int (nI i))] [] (sAI (sAI h 122 (cp 100 A (hAI h 122))) 123 (cp 100 B (hAI h 123)))) := by
    intro i
    induction i with
    | zero =>
      intro _
      rw [lp 100 (Nat.le_refl _), q_X1_restingPrices_3, if_neg (show ¬ nI 100 < (100 : Int32) by decide)]
      rfl
    | succ i ih =>
      intro hi
      have e5 : (nI i < (100 : Int32)) = True := eq_true (nI_lt (b := 100) (by omega) (by decide))
      have k := c_rest (d := d + 1) (a := a) (i := i) (h := sAI (sAI h 122 (cp 100 A (hAI h 122))) 123 (cp 100 B (hAI h 123))) ha hg1 hg2 k1 k2 n1 n2 (by omega)
      have w1 : hAI (sAI (sAI h 122 (cp 100 A (hAI h 122))) 123 (cp 100 B (hAI h 123))) 122 = cp 100 A (hAI h 122) := by rw [sAI_ne _ _ (by decide), sAI_at]
      have w2 : hAI (sAI (sAI h 122 (cp 100 A (hAI h 122))) 123 (cp 100 B (hAI h 123))) 123 = cp 100 B (hAI h 123) := sAI_at _ _ _
      rw [w1, w2, rAt_congr (A' := A) (B' := B) (by omega) (fun j hj => cp_lt _ _ hj) (fun j hj => cp_lt _ _ hj) 10 (Nat.le_refl _)] at k
      rw [ih (by omega)]
      simp only [rst]
      cases e : (rst (fun i => rAt A B i 10) w i).1 with
      | some v => rfl
      | none =>
        dsimp only
        generalize (rst (fun i => rAt A B i 10) w i).2 = m
        rw [q_X1_restingPrices_33]
        simp only [am_kd, rd_hK_sAI, ha, if_true, e5, k, bI_s, nI_1]
        by_cases c : rAt A B i 10 = true
        · have z1 : ((1 : Int32) = 0) = False := eq_false (by decide)
          have cb : bi (rAt A B i 10) = 1 := by rw [c]; rfl
          simp only [cb, z1, if_false, if_pos c]
          by_cases c2 : nI m = w
          · simp only [if_pos c2]
          · simp only [if_neg c2]
        · have cb : bi (rAt A B i 10) = 0 := by rw [Bool.eq_false_iff.2 c]; rfl
          simp only [cb, if_true, if_neg c]
  refine ⟨cp 100 A (hAI h 122), cp 100 B (hAI h 123), ?_⟩
  rw [lp2 100 (Nat.le_refl _)]
  unfold rsA
  cases e : (rst (fun i => rAt A B i 10) w 100).1 with
  | some v => rfl
  | none =>
    dsimp only
    rw [q_X1_restingPrices_33, if_neg (show ¬ nI 100 < (100 : Int32) by decide)]
    split <;> rfl
