/-! Resting prices: the reference's side. -/
def mG (x1 x2 a b : Int32) (f : Bool) : Bool := if b + x2 < a + x1 then decide (b + x2 < 100000) && !f else decide (a + x1 < 100000) && f
def mH (X1 X2 dr : Nat → Int32) (a b : Int32) (f : Bool) (ne : Nat) : Int32 := sumN (fun e => if mG (X1 e) (X2 e) a b f = true then dr e * (if f = true then a else b) else 0) ne
theorem c_hasBy {d ne one other : Nat} {a b : Int32} {h : AH} {q : Nat → Nat} (hm : MSh h) (h3 : hAI h 350 3 = nI ne) (hne : ne ≤ 4) (h1 : one < 5) (h2 : other < 5) (hq : ∀ e, e < ne → q e < 5 ∧ hAI h 397 (24 + e) = nI (q e)) (f : Bool) :
    am_C PG (d + 2) 260 [.ref 348, .int (nI one), .int (nI other), .int a, .int b, .int (bi f)] h = some (some (.int (mH (fun e => hAI h 385 (5 * q e + one)) (fun e => hAI h 385 (5 * q e + other)) (hAI h 363) a b f ne)), h) := by
  have m0 := hm.1
  have f1210 : hFR _ 1210 348 = some 350 := (hm.2 1 (by decide)).1
  have k350 : hK _ 350 = 50 := (hm.2 1 (by decide)).2.1
  have n350 : hLN _ 350 = 10 := (hm.2 1 (by decide)).2.2
  have f1247 : hFR _ 1247 348 = some 385 := (hm.2 36 (by decide)).1
  have k385 : hK _ 385 = 50 := (hm.2 36 (by decide)).2.1
  have n385 : hLN _ 385 = 25 := (hm.2 36 (by decide)).2.2
  have f1259 : hFR _ 1259 348 = some 397 := (hm.2 48 (by decide)).1
  have k397 : hK _ 397 = 50 := (hm.2 48 (by decide)).2.1
  have n397 : hLN _ 397 = 43 := (hm.2 48 (by decide)).2.2
  have f1223 : hFR _ 1223 348 = some 363 := (hm.2 14 (by decide)).1
  have k363 : hK _ 363 = 50 := (hm.2 14 (by decide)).2.1
  have n363 : hLN _ 363 = 8 := (hm.2 14 (by decide)).2.2
  have e3 : ∀ x, am_in (3 : Int32) 10 x = x := am_inN (i := 3) (by decide) (by decide)
  have t3 : Int32.toNatClampNeg 3 = 3 := by decide
  have lp : ∀ e, e ≤ ne → am_C PG (d + 2) 260 [.ref 348, .int (nI one), .int (nI other), .int a, .int b, .int (bi f)] h = am_R PG (d + 2) 260 6 [some (.ref 348), some (.int (nI one)), some (.int (nI other)), some (.int a), some (.int b), some (.int (bi f)), some (.int (mH (fun e => hAI h 385 (5 * q e + one)) (fun e => hAI h 385 (5 * q e + other)) (hAI h 363) a b f e)), some (.int (nI e)), none, none] [] h := by
    intro e
    induction e with
    | zero => intro _; rw [q_X12_hasBy]; rfl
    | succ e ih =>
      intro he
      obtain ⟨hq1, hq2⟩ := hq e (by omega)
      have e5 : (nI e < nI ne) = True := eq_true (nI_lt (by omega) (by omega))
      have a24 : (24 : Int32) + nI e = nI (24 + e) := nI_add 24 e
      have i24 : ∀ x, am_in (nI (24 + e)) 43 x = x := am_inN (by omega) (by decide)
      have t24 : Int32.toNatClampNeg (nI (24 + e)) = 24 + e := nI_clamp (by omega)
      have m1 : (5 : Int32) * nI (q e) + nI one = nI (5 * q e + one) := by rw [show (5 : Int32) = nI 5 from rfl, pk_mul, nI_add]
      have m2 : (5 : Int32) * nI (q e) + nI other = nI (5 * q e + other) := by rw [show (5 : Int32) = nI 5 from rfl, pk_mul, nI_add]
      have i1 : ∀ x, am_in (nI (5 * q e + one)) 25 x = x := am_inN (by omega) (by decide)
      have i2 : ∀ x, am_in (nI (5 * q e + other)) 25 x = x := am_inN (by omega) (by decide)
      have t1 : Int32.toNatClampNeg (nI (5 * q e + one)) = 5 * q e + one := nI_clamp (by omega)
      have t2 : Int32.toNatClampNeg (nI (5 * q e + other)) = 5 * q e + other := nI_clamp (by omega)
      have i8 : ∀ x, am_in (nI e) 8 x = x := am_inN (by omega) (by decide)
      have te : Int32.toNatClampNeg (nI e) = e := nI_clamp (by omega)
      have z1 : ((0 : Int32) = 1) = False := eq_false (by decide)
      have z2 : ((1 : Int32) = 0) = False := eq_false (by decide)
      rw [ih (by omega), q_X12_hasBy_6]
      simp only [am_kd, m0, f1210, k350, n350, f1247, k385, n385, f1259, k397, n397, f1223, k363, n363, if_true, bR_s, e3, t3, h3, e5, a24, i24, t24, hq2, m1, m2, i1, i2, t1, t2, c_min, bI_s, i8, te, nI_1, mH, sumN]
      generalize sumN (fun e => if mG (hAI h 385 (5 * q e + one)) (hAI h 385 (5 * q e + other)) a b f = true then hAI h 363 e * (if f = true then a else b) else 0) e = S
      unfold mG
      cases f with
      | false =>
        by_cases c1 : b + hAI h 385 (5 * q e + other) < a + hAI h 385 (5 * q e + one)
        · by_cases c2 : b + hAI h 385 (5 * q e + other) < 100000
          · simp [c1, c2, bi_f]
          · simp [c1, c2, bi_f, add0]
        · by_cases c2 : a + hAI h 385 (5 * q e + one) < 100000
          · simp [c1, c2, bi_f, add0]
          · simp [c1, c2, bi_f, add0]
      | true =>
        by_cases c1 : b + hAI h 385 (5 * q e + other) < a + hAI h 385 (5 * q e + one)
        · by_cases c2 : b + hAI h 385 (5 * q e + other) < 100000
          · simp [c1, c2, bi_t, add0]
          · simp [c1, c2, bi_t, add0]
        · by_cases c2 : a + hAI h 385 (5 * q e + one) < 100000
          · simp [c1, c2, bi_t]
          · simp [c1, c2, bi_t, add0]
  have e6 : (nI ne < nI ne) = False := eq_false (nI_nlt (Nat.le_refl _) (by omega))
  rw [lp ne (Nat.le_refl _), q_X12_hasBy_6]
  simp only [am_kd, m0, f1210, k350, n350, f1247, k385, n385, f1259, k397, n397, f1223, k363, n363, if_true, if_false, bR_s, e3, t3, h3, e6]
/-- hours on the way: the class's and the reference's -/
def NeR1 (t x : Int32) : Prop := (t = -1 ∧ x = 100000) ∨ ∃ k, k ≤ 9999 ∧ t = nI k ∧ x = nI k
theorem n100k : (100000 : Int32) = nI 100000 := rfl
theorem NeR_G {t1 t2 x1 x2 : Int32} {a b : Nat} (ha : a ≤ 9) (hb : b ≤ 9) (h1 : NeR1 t1 x1) (h2 : NeR1 t2 x2) : mG x1 x2 (nI a) (nI b) true = rG1 t1 t2 (nI a) (nI b) ∧ mG x1 x2 (nI a) (nI b) false = rG2 t1 t2 (nI a) (nI b) := by
  unfold rG2 mG rG1
  have n1 : (-1 : Int32) < 0 := by decide
  rcases h1 with ⟨rfl, rfl⟩ | ⟨k, hk, rfl, rfl⟩
  · rcases h2 with ⟨rfl, rfl⟩ | ⟨l, hl, rfl, rfl⟩
    · have q1 : ¬ nI b + (100000 : Int32) < 100000 := by rw [n100k, nI_add]; exact nI_nlt (by omega) (by omega)
      have q2 : ¬ nI a + (100000 : Int32) < 100000 := by rw [n100k, nI_add]; exact nI_nlt (by omega) (by omega)
      simp [n1, q1, q2]
    · have q1 : nI b + nI l < nI a + (100000 : Int32) := by rw [n100k, nI_add, nI_add]; exact nI_lt (by omega) (by omega)
      have q2 : nI b + nI l < (100000 : Int32) := by rw [n100k, nI_add]; exact nI_lt (by omega) (by omega)
      have q3 : ¬ nI l < 0 := nI_pos (by omega)
      simp [n1, q1, q2, q3]
  · have p1 : ¬ nI k < 0 := nI_pos (by omega)
    rcases h2 with ⟨rfl, rfl⟩ | ⟨l, hl, rfl, rfl⟩
    · have q1 : ¬ nI b + (100000 : Int32) < nI a + nI k := by rw [n100k, nI_add, nI_add]; exact nI_nlt (by omega) (by omega)
      have q2 : nI a + nI k < (100000 : Int32) := by rw [n100k, nI_add]; exact nI_lt (by omega) (by omega)
      simp [n1, p1, q1, q2]
    · have q3 : ¬ nI l < 0 := nI_pos (by omega)
      have q2 : nI a + nI k < (100000 : Int32) := by rw [n100k, nI_add]; exact nI_lt (by omega) (by omega)
      have q4 : nI b + nI l < (100000 : Int32) := by rw [n100k, nI_add]; exact nI_lt (by omega) (by omega)
      have c1 : nI l + nI b = nI b + nI l := Int32.add_comm _ _
      have c2 : nI k + nI a = nI a + nI k := Int32.add_comm _ _
      rw [c1, c2]
      by_cases c : nI b + nI l < nI a + nI k
      · simp [p1, q3, q2, q4, c]
      · simp [p1, q3, q2, q4, c]
theorem rS_mul (G : Nat → Bool) (dr : Nat → Int32) (x : Int32) : ∀ n, rS G dr n * x = sumN (fun e => if G e = true then dr e * x else 0) n
  | 0 => Int32.zero_mul
  | n + 1 => by
    show (rS G dr n + (if G n = true then dr n else 0)) * x = sumN (fun e => if G e = true then dr e * x else 0) n + (if G n = true then dr n * x else 0)
    rw [Int32.add_mul, rS_mul G dr x n]
    by_cases c : G n = true
    · rw [if_pos c, if_pos c]
    · rw [if_neg c, if_neg c, Int32.zero_mul]
theorem NeR_A {T1 T2 X1 X2 dr dr' : Nat → Int32} {ne : Nat} (h : ∀ e, e < ne → NeR1 (T1 e) (X1 e) ∧ NeR1 (T2 e) (X2 e) ∧ dr e = dr' e) {i : Nat} (hi : i < 100) : mH X1 X2 dr' (nI (i / 10)) (nI (i % 10)) true ne = rA T1 T2 dr ne i ∧ mH X1 X2 dr' (nI (i / 10)) (nI (i % 10)) false ne = rB T1 T2 dr ne i := by
  unfold rA rB mH
  rw [rS_mul, rS_mul]
  refine ⟨sumN_congr ne (fun e he => ?_), sumN_congr ne (fun e he => ?_)⟩
  · obtain ⟨h1, h2, h3⟩ := h e he
    rw [(NeR_G (by omega) (by omega) h1 h2).1, h3]
    rfl
  · obtain ⟨h1, h2, h3⟩ := h e he
    rw [(NeR_G (by omega) (by omega) h1 h2).2, h3]
    rfl
theorem c_isRest {d ne one other i : Nat} {h : AH} {q : Nat → Nat} {A B : Nat → Int32} (hm : MSh h) (h3 : hAI h 350 3 = nI ne) (hne : ne ≤ 4) (h1 : one < 5) (h2 : other < 5) (hq : ∀ e, e < ne → q e < 5 ∧ hAI h 397 (24 + e) = nI (q e)) (hi : i < 100)
    (hA : ∀ j, j < 100 → mH (fun e => hAI h 385 (5 * q e + one)) (fun e => hAI h 385 (5 * q e + other)) (hAI h 363) (nI (j / 10)) (nI (j % 10)) true ne = A j ∧ mH (fun e => hAI h 385 (5 * q e + one)) (fun e => hAI h 385 (5 * q e + other)) (hAI h 363) (nI (j / 10)) (nI (j % 10)) false ne = B j) :
    am_C PG (d + 3) 261 [.ref 348, .int (nI one), .int (nI other), .int (nI (i / 10)), .int (nI (i % 10))] h = some (some (.int (bi (rAt A B i 10))), h) := by
  have m0 := hm.1
  have kt := fun a b => c_hasBy (d := d) (a := a) (b := b) hm h3 hne h1 h2 hq true
  have kf := fun a b => c_hasBy (d := d) (a := a) (b := b) hm h3 hne h1 h2 hq false
  rw [bi_t] at kt
  rw [bi_f] at kf
  have kA : ∀ a b, a < 10 → b < 10 → am_C PG (d + 2) 260 [.ref 348, .int (nI one), .int (nI other), .int (nI a), .int (nI b), .int 1] h = some (some (.int (A (10 * a + b))), h) := by
    intro a b ha hb
    rw [kt]
    have := (hA (10 * a + b) (by omega)).1
    rw [show (10 * a + b) / 10 = a by omega, show (10 * a + b) % 10 = b by omega] at this
    rw [this]
  have kB : ∀ a b, a < 10 → b < 10 → am_C PG (d + 2) 260 [.ref 348, .int (nI one), .int (nI other), .int (nI a), .int (nI b), .int 0] h = some (some (.int (B (10 * a + b))), h) := by
    intro a b ha hb
    rw [kf]
    have := (hA (10 * a + b) (by omega)).2
    rw [show (10 * a + b) / 10 = a by omega, show (10 * a + b) % 10 = b by omega] at this
    rw [this]
  have ei : 10 * (i / 10) + i % 10 = i := by omega
  have ka := kA (i / 10) (i % 10) (by omega) (by omega)
  have kb := kB (i / 10) (i % 10) (by omega) (by omega)
  rw [ei] at ka kb
  have lp : ∀ n, n ≤ 10 → am_C PG (d + 3) 261 [.ref 348, .int (nI one), .int (nI other), .int (nI (i / 10)), .int (nI (i % 10))] h = (if rAt A B i n = true then am_R PG (d + 3) 261 27 [some (.ref 348), some (.int (nI one)), some (.int (nI other)), some (.int (nI (i / 10))), some (.int (nI (i % 10))), some (.int (A i)), some (.int (B i)), some (.int (nI n))] [] h else some (some (.int 0), h)) := by
    intro n
    induction n with
    | zero =>
      intro _
      rw [q_X12_isRest]
      simp only [am_kd, m0, if_true, ka, kb, bI_s]
      rfl
    | succ n ih =>
      intro hn
      rw [ih (by omega)]
      by_cases c : rAt A B i n = true
      · have e5 : (nI n < (10 : Int32)) = True := eq_true (nI_lt (b := 10) (by omega) (by decide))
        have ka2 := kA n (i % 10) (by omega) (by omega)
        have kb2 := kB (i / 10) n (by omega) (by omega)
        rw [if_pos c, q_X12_isRest_27]
        simp only [am_kd, m0, if_true, e5, ka2, kb2, bI_s, am_nar4_0, nI_1, rAt, c, Bool.true_and]
        by_cases c1 : A i < A (10 * n + i % 10)
        · simp [c1]
        · by_cases c2 : B i < B (10 * (i / 10) + n)
          · simp [c1, c2]
          · simp [c1, c2]
      · rw [if_neg c, if_neg (by rw [rAt, Bool.eq_false_iff.2 c, Bool.false_and]; decide)]
  rw [lp 10 (Nat.le_refl _)]
  cases c : rAt A B i 10 with
  | false => rfl
  | true => rw [if_pos rfl, q_X12_isRest_27, if_neg (show ¬ nI 10 < (10 : Int32) by decide), am_nar4_1]; rfl
/-- what the reference answers, and whether it says 'thrown' -/
def rsM (B : Nat → Bool) (w : Int32) : Int32 × Int32 := match (rst B w 100).1 with
  | some v => (nI v, 0)
  | none => if w = -1 then (nI (rst B w 100).2, 0) else (0, 1)
theorem c_mrests {d ne one other : Nat} {h : AH} {q : Nat → Nat} {A B : Nat → Int32} {w : Int32} (hm : MSh h) (ht : hFI h 1200 348 = 0) (h3 : hAI h 350 3 = nI ne) (hne : ne ≤ 4) (h1 : one < 5) (h2 : other < 5) (hq : ∀ e, e < ne → q e < 5 ∧ hAI h 397 (24 + e) = nI (q e))
    (hA : ∀ j, j < 100 → mH (fun e => hAI h 385 (5 * q e + one)) (fun e => hAI h 385 (5 * q e + other)) (hAI h 363) (nI (j / 10)) (nI (j % 10)) true ne = A j ∧ mH (fun e => hAI h 385 (5 * q e + one)) (fun e => hAI h 385 (5 * q e + other)) (hAI h 363) (nI (j / 10)) (nI (j % 10)) false ne = B j) :
    am_R PG (d + 4) 262 51 [some (.ref 348), some (.int (nI one)), some (.int (nI other)), some (.int w), some (.int 0), some (.int 0)] [] h = some (some (.int (rsM (fun i => rAt A B i 10) w).1), sFI h 1200 348 (rsM (fun i => rAt A B i 10) w).2) := by
  have m0 := hm.1
  have d10 : ∀ x, am_dz (10 : Int32) x = x := fun x => am_dz_t (by decide) x
  have lp : ∀ i, i ≤ 100 → am_R PG (d + 4) 262 51 [some (.ref 348), some (.int (nI one)), some (.int (nI other)), some (.int w), some (.int 0), some (.int 0)] [] h = (match (rst (fun i => rAt A B i 10) w i).1 with
      | some v => some (some (.int (nI v)), h)
      | none => am_R PG (d + 4) 262 51 [some (.ref 348), some (.int (nI one)), some (.int (nI other)), some (.int w), some (.int (nI (rst (fun i => rAt A B i 10) w i).2)), some (.int (nI i))] [] h) := by
    intro i
    induction i with
    | zero => intro _; rfl
    | succ i ih =>
      intro hi
      have e5 : (nI i < (100 : Int32)) = True := eq_true (nI_lt (b := 100) (by omega) (by decide))
      have q1 : nI i / 10 = nI (i / 10) := pk_div (d := 10) (by omega) (by decide) (by decide)
      have q2 : am_rem (nI i) 10 = nI (i % 10) := rem_nI (d := 10) (by omega) (by decide) (by decide)
      have k := c_isRest (d := d) (i := i) hm h3 hne h1 h2 hq (by omega) hA
      rw [ih (by omega)]
      simp only [rst]
      cases e : (rst (fun i => rAt A B i 10) w i).1 with
      | some v => rfl
      | none =>
        dsimp only
        generalize (rst (fun i => rAt A B i 10) w i).2 = m
        rw [q_X12_rests_51]
        simp only [am_kd, m0, if_true, e5, d10, q1, q2, k, bI_s, nI_1]
        by_cases c : rAt A B i 10 = true
        · have z1 : ((1 : Int32) = 0) = False := eq_false (by decide)
          have cb : bi (rAt A B i 10) = 1 := by rw [c]; rfl
          simp only [cb, z1, if_false, if_pos c]
          by_cases c2 : nI m = w
          · simp only [if_pos c2]
          · simp only [if_neg c2]
        · have cb : bi (rAt A B i 10) = 0 := by rw [Bool.eq_false_iff.2 c]; rfl
          simp only [cb, if_true, if_neg c]
  rw [lp 100 (Nat.le_refl _)]
  unfold rsM
  cases e : (rst (fun i => rAt A B i 10) w 100).1 with
  | some v =>
    dsimp only
    rw [← ht]
    have : sFI h 1200 348 (hFI h 1200 348) = h := AH_ext rfl (am_up2_self _ _ _) rfl rfl rfl rfl rfl rfl rfl
    rw [this]
  | none =>
    dsimp only
    rw [q_X12_rests_51, if_neg (show ¬ nI 100 < (100 : Int32) by decide)]
    by_cases c : w = -1
    · simp only [if_pos c, am_kd, m0, if_true, am_let_e]
    · simp only [if_neg c, am_kd, m0, if_true, am_let_e]
