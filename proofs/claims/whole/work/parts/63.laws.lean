/-! The laws that fit what is told: Choice.lawsOf against the reference's laws. -/
/-- the law a + b * heat says all that is told -/
def xfit (he dr : Nat → Int32) (a b : Int32) : Nat → Bool
  | 0 => true
  | n + 1 => xfit he dr a b n && decide (a + b * he n = dr n)
theorem xfit_eq {he dr he2 dr2 : Nat → Int32} (a b : Int32) : ∀ n, (∀ i, i < n → he i = he2 i ∧ dr i = dr2 i) → xfit he dr a b n = xfit he2 dr2 a b n
  | 0, _ => rfl
  | n + 1, e => by
    unfold xfit
    rw [xfit_eq a b n (fun i hi => e i (by omega)), (e n (by omega)).1, (e n (by omega)).2]
theorem xfit_f {he dr : Nat → Int32} {a b : Int32} {i : Nat} (c : ¬ a + b * he i = dr i) : ∀ n, i < n → xfit he dr a b n = false
  | 0, hi => by omega
  | n + 1, hi => by
    unfold xfit
    by_cases e : i = n
    · subst e
      rw [decide_eq_false c, Bool.and_false]
    · rw [xfit_f c n (by omega), Bool.false_and]
def bi (b : Bool) : Int32 := if b then 1 else 0
theorem bi_t : bi true = 1 := rfl
theorem bi_f : bi false = 0 := rfl
theorem c_fits {d a n : Nat} {h : AH} (hs : HeSh h a) (hn : hFI h 303 a = nI n) (hl : n ≤ 12) (x y : Int32) : am_C PG (d + 1) 40 [.ref a, .int x, .int y] h = some (some (.int (bi (xfit (hAI h (a + 3)) (hAI h (a + 4)) x y n))), h) := by
  obtain ⟨a0, f1, f2, f3, f4, k1, k2, k3, k4, n1, n2, n3, n4⟩ := hs
  have lp : ∀ i, i ≤ n → am_C PG (d + 1) 40 [.ref a, .int x, .int y] h = (if xfit (hAI h (a + 3)) (hAI h (a + 4)) x y i then am_R PG (d + 1) 40 2 [some (.ref a), some (.int x), some (.int y), some (.int (nI i))] [] h else some (some (.int 0), h)) := by
    intro i
    induction i with
    | zero => intro _; rw [q_X3_fits]; rfl
    | succ i ih =>
      intro hi
      have e5 : (nI i < nI n) = True := eq_true (nI_lt (by omega) (by omega))
      have e1 : ∀ x, am_in (nI i) 12 x = x := am_inN (by omega) (by decide)
      have t1 : Int32.toNatClampNeg (nI i) = i := nI_clamp (by omega)
      rw [ih (by omega)]
      by_cases e : xfit (hAI h (a + 3)) (hAI h (a + 4)) x y i = true
      · rw [if_pos e, q_X3_fits_2]
        simp only [am_kd, a0, f1, f2, f3, f4, k1, k2, k3, k4, n1, n2, n3, n4, if_true, hn, e5, bR_s, e1, t1, nI_1, am_nar4_0]
        by_cases c : x + y * hAI h (a + 3) i = hAI h (a + 4) i
        · rw [if_pos c, if_pos (show xfit (hAI h (a + 3)) (hAI h (a + 4)) x y (i + 1) = true by rw [xfit, e, decide_eq_true c]; rfl)]
        · rw [if_neg c, if_neg (show ¬ xfit (hAI h (a + 3)) (hAI h (a + 4)) x y (i + 1) = true by rw [xfit_f c (i + 1) (by omega)]; decide)]
      · rw [if_neg e, if_neg (show ¬ xfit (hAI h (a + 3)) (hAI h (a + 4)) x y (i + 1) = true by rw [xfit, Bool.eq_false_iff.2 e, Bool.false_and]; decide)]
  rw [lp n (Nat.le_refl _)]
  have e6 : (nI n < nI n) = False := eq_false (nI_nlt (Nat.le_refl _) (by omega))
  cases e : xfit (hAI h (a + 3)) (hAI h (a + 4)) x y n with
  | false => rfl
  | true =>
    rw [if_pos rfl, q_X3_fits_2]
    simp only [am_kd, a0, f1, f2, f3, f4, k1, k2, k3, k4, n1, n2, n3, n4, if_true, hn, e6, if_false, am_nar4_1, bi_t]
theorem c_isLaw {d n : Nat} {h : AH} (hm : MSh h) (hn : hAI h 394 0 = nI n) (hl : n ≤ 12) (x y : Int32) : am_C PG (d + 1) 253 [.ref 348, .int x, .int y] h = some (some (.int (bi (xfit (hAI h 395) (hAI h 396) x y n))), h) := by
  have m0 := hm.1
  have f1256 : hFR _ 1256 348 = some 394 := (hm.2 45 (by decide)).1
  have k394 : hK _ 394 = 50 := (hm.2 45 (by decide)).2.1
  have n394 : hLN _ 394 = 5 := (hm.2 45 (by decide)).2.2
  have f1257 : hFR _ 1257 348 = some 395 := (hm.2 46 (by decide)).1
  have k395 : hK _ 395 = 50 := (hm.2 46 (by decide)).2.1
  have n395 : hLN _ 395 = 60 := (hm.2 46 (by decide)).2.2
  have f1258 : hFR _ 1258 348 = some 396 := (hm.2 47 (by decide)).1
  have k396 : hK _ 396 = 50 := (hm.2 47 (by decide)).2.1
  have n396 : hLN _ 396 = 60 := (hm.2 47 (by decide)).2.2
  have e0 : ∀ x, am_in (0 : Int32) 5 x = x := am_inN (i := 0) (by decide) (by decide)
  have lp : ∀ i, i ≤ n → am_C PG (d + 1) 253 [.ref 348, .int x, .int y] h = (if xfit (hAI h 395) (hAI h 396) x y i then am_R PG (d + 1) 253 2 [some (.ref 348), some (.int x), some (.int y), some (.int (nI i))] [] h else some (some (.int 0), h)) := by
    intro i
    induction i with
    | zero => intro _; rw [q_X12_isLaw]; rfl
    | succ i ih =>
      intro hi
      have e5 : (nI i < nI n) = True := eq_true (nI_lt (by omega) (by omega))
      have e1 : ∀ x, am_in (nI i) 60 x = x := am_inN (by omega) (by decide)
      have t1 : Int32.toNatClampNeg (nI i) = i := nI_clamp (by omega)
      rw [ih (by omega)]
      by_cases e : xfit (hAI h 395) (hAI h 396) x y i = true
      · rw [if_pos e, q_X12_isLaw_2]
        simp only [am_kd, m0, f1256, k394, n394, f1257, k395, n395, f1258, k396, n396, if_true, nI_cl0, hn, e5, bR_s, e0, e1, t1, nI_1, am_nar4_0]
        by_cases c : x + y * hAI h 395 i = hAI h 396 i
        · rw [if_pos c, if_pos (show xfit (hAI h 395) (hAI h 396) x y (i + 1) = true by rw [xfit, e, decide_eq_true c]; rfl)]
        · rw [if_neg c, if_neg (show ¬ xfit (hAI h 395) (hAI h 396) x y (i + 1) = true by rw [xfit_f c (i + 1) (by omega)]; decide)]
      · rw [if_neg e, if_neg (show ¬ xfit (hAI h 395) (hAI h 396) x y (i + 1) = true by rw [xfit, Bool.eq_false_iff.2 e, Bool.false_and]; decide)]
  rw [lp n (Nat.le_refl _)]
  have e6 : (nI n < nI n) = False := eq_false (nI_nlt (Nat.le_refl _) (by omega))
  cases e : xfit (hAI h 395) (hAI h 396) x y n with
  | false => rfl
  | true =>
    rw [if_pos rfl, q_X12_isLaw_2]
    simp only [am_kd, m0, f1256, k394, n394, f1257, k395, n395, f1258, k396, n396, if_true, nI_cl0, bR_s, e0, hn, e6, if_false, am_nar4_1, bi_t]
/-- how many of the first n; the first of them -/
def cntB (B : Nat → Bool) : Nat → Nat
  | 0 => 0
  | n + 1 => cntB B n + if B n then 1 else 0
theorem cntB_le (B : Nat → Bool) : ∀ n, cntB B n ≤ n
  | 0 => Nat.le_refl _
  | n + 1 => by
    have := cntB_le B n
    unfold cntB
    split <;> omega
def LeastB (B : Nat → Bool) (a b : Nat) (f : Int32) : Prop := (f = -1 ∧ ∀ j, a ≤ j → j < b → B j = false) ∨ ∃ j, a ≤ j ∧ j < b ∧ B j = true ∧ (∀ i, a ≤ i → i < j → B i = false) ∧ f = nI j
theorem LeastB.uniq {B : Nat → Bool} {a b : Nat} {f g : Int32} (h1 : LeastB B a b f) (h2 : LeastB B a b g) : f = g := by
  rcases h1 with ⟨e1, n1⟩ | ⟨j, j1, j2, j3, j4, j5⟩
  · rcases h2 with ⟨e2, n2⟩ | ⟨k, k1, k2, k3, k4, k5⟩
    · rw [e1, e2]
    · rw [n1 k k1 k2] at k3
      cases k3
  · rcases h2 with ⟨e2, n2⟩ | ⟨k, k1, k2, k3, k4, k5⟩
    · rw [n2 j j1 j2] at j3
      cases j3
    · by_cases c : j < k
      · rw [k4 j j1 c] at j3
        cases j3
      · by_cases c2 : k < j
        · rw [j4 k k1 c2] at k3
          cases k3
        · have : j = k := by omega
          rw [j5, k5, this]
theorem LeastB.up {B : Nat → Bool} {b : Nat} {f : Int32} (hb : b < 2 ^ 31) (h : LeastB B 0 b f) : LeastB B 0 (b + 1) (if B b then (if f < 0 then nI b else f) else f) := by
  rcases h with ⟨e1, n1⟩ | ⟨j, j1, j2, j3, j4, j5⟩
  · cases c : B b with
    | false =>
      rw [if_neg (by decide)]
      exact Or.inl ⟨e1, fun j h1 h2 => by
        by_cases e : j = b
        · rw [e, c]
        · exact n1 j h1 (by omega)⟩
    | true =>
      rw [if_pos rfl, e1, if_pos (by decide)]
      exact Or.inr ⟨b, by omega, by omega, c, fun i h1 h2 => n1 i h1 h2, rfl⟩
  · have e : (if B b then (if f < 0 then nI b else f) else f) = f := by
      rw [if_neg (show ¬ f < 0 by rw [j5]; exact nI_pos (by omega))]
      split <;> rfl
    rw [e]
    exact Or.inr ⟨j, j1, by omega, j3, j4, j5⟩
theorem LeastB.down {B : Nat → Bool} {a b : Nat} {f : Int32} (hb : a < b) (h : LeastB B (a + 1) b f) : LeastB B a b (if B a then nI a else f) := by
  cases c : B a with
  | true =>
    rw [if_pos rfl]
    exact Or.inr ⟨a, by omega, hb, c, fun i h1 h2 => by omega, rfl⟩
  | false =>
    rw [if_neg (by decide)]
    rcases h with ⟨e1, n1⟩ | ⟨j, j1, j2, j3, j4, j5⟩
    · exact Or.inl ⟨e1, fun j h1 h2 => by
        by_cases e : j = a
        · rw [e, c]
        · exact n1 j (by omega) h2⟩
    · exact Or.inr ⟨j, by omega, j2, j3, fun i h1 h2 => by
        by_cases e : i = a
        · rw [e, c]
        · exact j4 i (by omega) h2, j5⟩
/-- how many laws at most say the same at a heat -/
def xalk (B : Nat → Bool) (ht : Nat) : Nat → Int32 × (Nat → Int32)
  | 0 => (0, fun _ => 0)
  | n + 1 => if B n then ((if (xalk B ht n).1 < (xalk B ht n).2 (n / 10 + n % 10 * ht) + 1 then (xalk B ht n).2 (n / 10 + n % 10 * ht) + 1 else (xalk B ht n).1), upd (xalk B ht n).2 (n / 10 + n % 10 * ht) ((xalk B ht n).2 (n / 10 + n % 10 * ht) + 1)) else xalk B ht n
def ChSh (h : AH) (a : Nat) : Prop := hK h a = 2 ∧ ∃ b, hFR h 110 a = some b ∧ hK h b = 50 ∧ hLN h b = 91
/-- a row of zeros as far as n -/
theorem zr_s (n : Nat) (f : Nat → Int32) : upd (fun k => if k < n then 0 else f k) n 0 = fun k => if k < n + 1 then 0 else f k := by
  funext k
  by_cases e : k = n
  · subst e
    rw [pk_us, if_pos (by omega)]
  · rw [pk_un e]
    by_cases c : k < n
    · rw [if_pos c, if_pos (by omega)]
    · rw [if_neg c, if_neg (by omega)]
/-- agree on the first 91 -/
def Ag91 (f g : Nat → Int32) : Prop := ∀ k, k < 91 → f k = g k
theorem Ag91.upd {f g : Nat → Int32} (h : Ag91 f g) (i : Nat) (v : Int32) : Ag91 (upd f i v) (upd g i v) := by
  intro k hk
  by_cases e : k = i
  · subst e
    rw [pk_us, pk_us]
  · rw [pk_un e, pk_un e, h k hk]
theorem v91 {i ht : Nat} (hi : i < 100) (h : ht ≤ 9) : i / 10 + i % 10 * ht < 91 := by
  have a1 : i / 10 ≤ 9 := by omega
  have a2 : i % 10 * ht ≤ 9 * 9 := Nat.mul_le_mul (by omega) h
  omega
theorem c_alike {d a b e n ht : Nat} {h : AH} (ha : hK h a = 2) (hr : hFR h 110 a = some b) (hb : hK h b = 50) (hbn : hLN h b = 91) (hs : HeSh h e) (hn : hFI h 303 e = nI n) (hl : n ≤ 12) (hht : ht ≤ 9) (e3 : e + 3 ≠ b) (e4 : e + 4 ≠ b) :
    ∃ f, am_C PG (d + 2) 24 [.ref a, .ref e, .int (nI ht)] h = some (some (.int (xalk (fun i => xfit (hAI h (e + 3)) (hAI h (e + 4)) (nI (i / 10)) (nI (i % 10)) n) ht 100).1), sAI h b f) := by
  have k0 : ∀ f x y, am_C PG (d + 1) 40 [.ref e, .int x, .int y] (sAI h b f) = some (some (.int (bi (xfit (hAI h (e + 3)) (hAI h (e + 4)) x y n))), sAI h b f) := by
    intro f x y
    have := c_fits (d := d) (HeSh.to (g := sAI h b f) rfl rfl rfl hs) hn hl x y
    rw [sAI_ne _ _ e3, sAI_ne _ _ e4] at this
    exact this
  have he := hs.1
  have d10 : ∀ x, am_dz (10 : Int32) x = x := fun x => am_dz_t (by decide) x
  generalize hB : (fun i => xfit (hAI h (e + 3)) (hAI h (e + 4)) (nI (i / 10)) (nI (i % 10)) n) = B
  have k1 : ∀ f i, am_C PG (d + 1) 40 [.ref e, .int (nI (i / 10)), .int (nI (i % 10))] (sAI h b f) = some (some (.int (bi (B i))), sAI h b f) := by
    intro f i
    rw [k0, ← hB]
  have lp1 : ∀ i, i ≤ 91 → am_C PG (d + 2) 24 [.ref a, .ref e, .int (nI ht)] h = am_R PG (d + 2) 24 2 [some (.ref a), some (.ref e), some (.int (nI ht)), some (.int (nI i)), none, none] [] (sAI h b (fun k => if k < i then 0 else hAI h b k)) := by
    intro i
    induction i with
    | zero =>
      intro _
      rw [q_X1_mostAlike]
      have : (fun k => if k < 0 then 0 else hAI h b k) = hAI h b := by funext k; rw [if_neg (by omega)]
      rw [this, sAI_self]
      rfl
    | succ i ih =>
      intro hi
      have e5 : (nI i < (91 : Int32)) = True := eq_true (nI_lt (b := 91) (by omega) (by decide))
      have e1 : ∀ x, am_in (nI i) 91 x = x := am_inN (by omega) (by decide)
      have t1 : Int32.toNatClampNeg (nI i) = i := nI_clamp (by omega)
      rw [ih (by omega), q_X1_mostAlike_2]
      simp only [am_kd, rd_hK_sAI, rd_hFR_sAI, rd_hLN_sAI, ha, hr, hb, hbn, if_true, e5, bR_s, e1, t1, am_let_e, sEI_sAI, zr_s, nI_1]
  have lp2 : ∀ i, i ≤ 100 → ∃ f, Ag91 f (xalk B ht i).2 ∧ am_C PG (d + 2) 24 [.ref a, .ref e, .int (nI ht)] h = am_R PG (d + 2) 24 26 [some (.ref a), some (.ref e), some (.int (nI ht)), some (.int (xalk B ht i).1), some (.int (nI i)), none] [] (sAI h b f) := by
    intro i
    induction i with
    | zero =>
      intro _
      refine ⟨fun k => if k < 91 then 0 else hAI h b k, fun k hk => if_pos hk, ?_⟩
      rw [lp1 91 (Nat.le_refl _), q_X1_mostAlike_2, if_neg (show ¬ nI 91 < (91 : Int32) from nI_nlt (b := 91) (Nat.le_refl _) (by decide))]
      rfl
    | succ i ih =>
      intro hi
      obtain ⟨f, g1, g2⟩ := ih (by omega)
      have e5 : (nI i < (100 : Int32)) = True := eq_true (nI_lt (b := 100) (by omega) (by decide))
      have q1 : nI i / 10 = nI (i / 10) := pk_div (d := 10) (by omega) (by decide) (by decide)
      have q2 : am_rem (nI i) 10 = nI (i % 10) := rem_nI (d := 10) (by omega) (by decide) (by decide)
      have q3 : nI (i / 10) + nI (i % 10) * nI ht = nI (i / 10 + i % 10 * ht) := by rw [pk_mul, nI_add]
      have q4 := v91 (show i < 100 by omega) hht
      simp only [xalk]
      cases c : B i with
      | false =>
        refine ⟨f, by rw [if_neg (by decide)]; exact g1, ?_⟩
        rw [g2, q_X1_mostAlike_26, if_neg (show ¬ (false = true) by decide)]
        simp only [am_kd, rd_hK_sAI, he, if_true, e5, d10, q1, q2, k1, c, bi_f, bI_s, nI_1]
      | true =>
        generalize hv : i / 10 + i % 10 * ht = v at q3 q4
        have e6 : (nI v < (91 : Int32)) = True := eq_true (nI_lt (b := 91) q4 (by decide))
        have e1 : ∀ x, am_in (nI v) 91 x = x := am_inN q4 (by decide)
        have t1 : Int32.toNatClampNeg (nI v) = v := nI_clamp (by omega)
        have z1 : ((1 : Int32) = 0) = False := eq_false (by decide)
        have g3 := g1 v q4
        refine ⟨upd f v (f v + 1), by rw [if_pos rfl, g3]; exact g1.upd v _, ?_⟩
        rw [g2, q_X1_mostAlike_26, if_pos (show true = true from rfl)]
        simp only [am_kd, rd_hK_sAI, rd_hFR_sAI, rd_hLN_sAI, ha, hr, hb, hbn, he, if_true, if_false, e5, d10, q1, q2, q3, k1, c, bi_t, bI_s, z1, e6, bR_s, e1, t1, am_let_e, sAI_at, sEI_sAI, pk_us, c_max, nI_1, g3]
  obtain ⟨f, g1, g2⟩ := lp2 100 (Nat.le_refl _)
  refine ⟨f, ?_⟩
  rw [g2, q_X1_mostAlike_26, if_neg (show ¬ nI 100 < (100 : Int32) from nI_nlt (b := 100) (Nat.le_refl _) (by decide))]
theorem c_malike {d n ht : Nat} {h : AH} (hm : MSh h) (hn : hAI h 394 0 = nI n) (hl : n ≤ 12) (hht : ht ≤ 9) :
    ∃ f, am_C PG (d + 2) 254 [.ref 348, .int (nI ht)] h = some (some (.int (xalk (fun i => xfit (hAI h 395) (hAI h 396) (nI (i / 10)) (nI (i % 10)) n) ht 100).1), sAI h 406 f) := by
  have k0 : ∀ f x y, am_C PG (d + 1) 253 [.ref 348, .int x, .int y] (sAI h 406 f) = some (some (.int (bi (xfit (hAI h 395) (hAI h 396) x y n))), sAI h 406 f) := by
    intro f x y
    have := c_isLaw (d := d) (h := sAI h 406 f) (MSh.to rfl (fun _ => rfl) rfl hm) (by rw [sAI_ne _ _ (by decide)]; exact hn) hl x y
    rw [sAI_ne _ _ (by decide), sAI_ne _ _ (by decide)] at this
    exact this
  have m0 := hm.1
  have f1275 : hFR _ 1275 348 = some 406 := (hm.2 57 (by decide)).1
  have k406 : hK _ 406 = 50 := (hm.2 57 (by decide)).2.1
  have n406 : hLN _ 406 = 91 := (hm.2 57 (by decide)).2.2
  have d10 : ∀ x, am_dz (10 : Int32) x = x := fun x => am_dz_t (by decide) x
  generalize hB : (fun i => xfit (hAI h 395) (hAI h 396) (nI (i / 10)) (nI (i % 10)) n) = B
  have k1 : ∀ f i, am_C PG (d + 1) 253 [.ref 348, .int (nI (i / 10)), .int (nI (i % 10))] (sAI h 406 f) = some (some (.int (bi (B i))), sAI h 406 f) := by
    intro f i
    rw [k0, ← hB]
  have lp1 : ∀ i, i ≤ 91 → am_C PG (d + 2) 254 [.ref 348, .int (nI ht)] h = am_R PG (d + 2) 254 2 [some (.ref 348), some (.int (nI ht)), some (.int (nI i)), none, none] [] (sAI h 406 (fun k => if k < i then 0 else hAI h 406 k)) := by
    intro i
    induction i with
    | zero =>
      intro _
      rw [q_X12_mostAlike]
      have : (fun k => if k < 0 then 0 else hAI h 406 k) = hAI h 406 := by funext k; rw [if_neg (by omega)]
      rw [this, sAI_self]
      rfl
    | succ i ih =>
      intro hi
      have e5 : (nI i < (91 : Int32)) = True := eq_true (nI_lt (b := 91) (by omega) (by decide))
      have e1 : ∀ x, am_in (nI i) 91 x = x := am_inN (by omega) (by decide)
      have t1 : Int32.toNatClampNeg (nI i) = i := nI_clamp (by omega)
      rw [ih (by omega), q_X12_mostAlike_2]
      simp only [am_kd, rd_hK_sAI, rd_hFR_sAI, rd_hLN_sAI, m0, f1275, k406, n406, if_true, e5, bR_s, e1, t1, am_let_e, sEI_sAI, zr_s, nI_1]
  have lp2 : ∀ i, i ≤ 100 → ∃ f, Ag91 f (xalk B ht i).2 ∧ am_C PG (d + 2) 254 [.ref 348, .int (nI ht)] h = am_R PG (d + 2) 254 25 [some (.ref 348), some (.int (nI ht)), some (.int (xalk B ht i).1), some (.int (nI i)), none] [] (sAI h 406 f) := by
    intro i
    induction i with
    | zero =>
      intro _
      refine ⟨fun k => if k < 91 then 0 else hAI h 406 k, fun k hk => if_pos hk, ?_⟩
      rw [lp1 91 (Nat.le_refl _), q_X12_mostAlike_2, if_neg (show ¬ nI 91 < (91 : Int32) from nI_nlt (b := 91) (Nat.le_refl _) (by decide))]
      rfl
    | succ i ih =>
      intro hi
      obtain ⟨f, g1, g2⟩ := ih (by omega)
      have e5 : (nI i < (100 : Int32)) = True := eq_true (nI_lt (b := 100) (by omega) (by decide))
      have q1 : nI i / 10 = nI (i / 10) := pk_div (d := 10) (by omega) (by decide) (by decide)
      have q2 : am_rem (nI i) 10 = nI (i % 10) := rem_nI (d := 10) (by omega) (by decide) (by decide)
      have q3 : nI (i / 10) + nI (i % 10) * nI ht = nI (i / 10 + i % 10 * ht) := by rw [pk_mul, nI_add]
      have q4 := v91 (show i < 100 by omega) hht
      simp only [xalk]
      cases c : B i with
      | false =>
        refine ⟨f, by rw [if_neg (by decide)]; exact g1, ?_⟩
        rw [g2, q_X12_mostAlike_25, if_neg (show ¬ (false = true) by decide)]
        simp only [am_kd, rd_hK_sAI, m0, if_true, e5, d10, q1, q2, k1, c, bi_f, bI_s, nI_1]
      | true =>
        generalize hv : i / 10 + i % 10 * ht = v at q3 q4
        have e1 : ∀ x, am_in (nI v) 91 x = x := am_inN q4 (by decide)
        have t1 : Int32.toNatClampNeg (nI v) = v := nI_clamp (by omega)
        have z1 : ((1 : Int32) = 0) = False := eq_false (by decide)
        have g3 := g1 v q4
        refine ⟨upd f v (f v + 1), by rw [if_pos rfl, g3]; exact g1.upd v _, ?_⟩
        rw [g2, q_X12_mostAlike_25, if_pos (show true = true from rfl)]
        simp only [am_kd, rd_hK_sAI, rd_hFR_sAI, rd_hLN_sAI, m0, f1275, k406, n406, if_true, if_false, e5, d10, q1, q2, q3, k1, c, bi_t, bI_s, z1, bR_s, e1, t1, am_let_e, sAI_at, sEI_sAI, pk_us, c_max, nI_1, g3]
  obtain ⟨f, g1, g2⟩ := lp2 100 (Nat.le_refl _)
  refine ⟨f, ?_⟩
  rw [g2, q_X12_mostAlike_25, if_neg (show ¬ nI 100 < (100 : Int32) from nI_nlt (b := 100) (Nat.le_refl _) (by decide))]
/-- the heat at which fewest are alike -/
def xtel (A : Nat → Int32) (m : Int32) : Nat → Int32 × Int32
  | 0 => (m, -1)
  | n + 1 => if A n < (xtel A m n).1 then (A n, nI n) else xtel A m n
theorem c_telling {d a b e n : Nat} {h : AH} (ha : hK h a = 2) (hr : hFR h 110 a = some b) (hb : hK h b = 50) (hbn : hLN h b = 91) (hs : HeSh h e) (hn : hFI h 303 e = nI n) (hl : n ≤ 12) (e3 : e + 3 ≠ b) (e4 : e + 4 ≠ b) (m : Int32) :
    ∃ f, am_C PG (d + 3) 23 [.ref a, .ref e, .int m] h = some (some (.int (xtel (fun ht => (xalk (fun i => xfit (hAI h (e + 3)) (hAI h (e + 4)) (nI (i / 10)) (nI (i % 10)) n) ht 100).1) m 10).2), sAI h b f) := by
  have k0 : ∀ f ht, ht ≤ 9 → ∃ g, am_C PG (d + 2) 24 [.ref a, .ref e, .int (nI ht)] (sAI h b f) = some (some (.int (xalk (fun i => xfit (hAI h (e + 3)) (hAI h (e + 4)) (nI (i / 10)) (nI (i % 10)) n) ht 100).1), sAI h b g) := by
    intro f ht hht
    obtain ⟨g, k⟩ := c_alike (d := d) (h := sAI h b f) ha hr hb hbn (HeSh.to rfl rfl rfl hs) hn hl hht e3 e4
    rw [sAI_ne _ _ e3, sAI_ne _ _ e4, sAI_sAI] at k
    exact ⟨g, k⟩
  generalize hA : (fun ht => (xalk (fun i => xfit (hAI h (e + 3)) (hAI h (e + 4)) (nI (i / 10)) (nI (i % 10)) n) ht 100).1) = A
  have k1 : ∀ f ht, ht ≤ 9 → ∃ g, am_C PG (d + 2) 24 [.ref a, .ref e, .int (nI ht)] (sAI h b f) = some (some (.int (A ht)), sAI h b g) := by
    intro f ht hht
    obtain ⟨g, k⟩ := k0 f ht hht
    exact ⟨g, by rw [k, ← hA]⟩
  have lp : ∀ i, i ≤ 10 → ∃ f, am_C PG (d + 3) 23 [.ref a, .ref e, .int m] h = am_R PG (d + 3) 23 8 [some (.ref a), some (.ref e), none, some (.int (xtel A m i).1), some (.int (xtel A m i).2), some (.int (nI i)), none] [] (sAI h b f) := by
    intro i
    induction i with
    | zero => intro _; exact ⟨hAI h b, by rw [q_X1_tellingHeat, sAI_self]; rfl⟩
    | succ i ih =>
      intro hi
      obtain ⟨f, g2⟩ := ih (by omega)
      obtain ⟨g, k⟩ := k1 f i (by omega)
      have e5 : ((9 : Int32) < nI i) = False := eq_false (nI_nlt (a := 9) (by omega) (by decide))
      refine ⟨g, ?_⟩
      rw [g2, q_X1_tellingHeat_8]
      simp only [am_kd, rd_hK_sAI, ha, if_true, e5, if_false, k, bI_s, nI_1, xtel]
      by_cases c : A i < (xtel A m i).1
      · simp only [if_pos c]
      · simp only [if_neg c]
  obtain ⟨f, g2⟩ := lp 10 (Nat.le_refl _)
  refine ⟨f, ?_⟩
  rw [g2, q_X1_tellingHeat_8, if_pos (show (9 : Int32) < nI 10 from nI_lt (a := 9) (by decide) (by decide))]
/-- what laws answers -/
def xlaw (B : Nat → Bool) (n : Nat) (w f : Int32) : Int32 := if w = 0 then nI (cntB B 100) else if w = 1 then f else (xtel (fun ht => (xalk B ht 100).1) (nI (cntB B 100)) 10).2
theorem c_lawsOf {d a b e n : Nat} {h : AH} (ha : hK h a = 2) (hr : hFR h 110 a = some b) (hb : hK h b = 50) (hbn : hLN h b = 91) (hs : HeSh h e) (hn : hFI h 303 e = nI n) (hl : n ≤ 12) (e3 : e + 3 ≠ b) (e4 : e + 4 ≠ b) (w : Int32) :
    ∃ g f, LeastB (fun i => xfit (hAI h (e + 3)) (hAI h (e + 4)) (nI (i / 10)) (nI (i % 10)) n) 0 100 f ∧ am_C PG (d + 4) 22 [.ref a, .ref e, .int w] h = some (some (.int (xlaw (fun i => xfit (hAI h (e + 3)) (hAI h (e + 4)) (nI (i / 10)) (nI (i % 10)) n) n w f)), sAI h b g) := by
  have k0 := fun x y => c_fits (d := d + 2) hs hn hl x y
  have kt := fun m => c_telling (d := d) ha hr hb hbn hs hn hl e3 e4 m
  have he := hs.1
  have d10 : ∀ x, am_dz (10 : Int32) x = x := fun x => am_dz_t (by decide) x
  have k1 : ∀ i, am_C PG (d + 3) 40 [.ref e, .int (nI (i / 10)), .int (nI (i % 10))] h = some (some (.int (bi ((fun i => xfit (hAI h (e + 3)) (hAI h (e + 4)) (nI (i / 10)) (nI (i % 10)) n) i))), h) := fun i => k0 _ _
  generalize (fun i => xfit (hAI h (e + 3)) (hAI h (e + 4)) (nI (i / 10)) (nI (i % 10)) n) = B at kt k1 ⊢
  have lp : ∀ i, i ≤ 100 → ∃ f, LeastB B 0 i f ∧ am_C PG (d + 4) 22 [.ref a, .ref e, .int w] h = am_R PG (d + 4) 22 8 [some (.ref a), some (.ref e), some (.int w), some (.int (nI (cntB B i))), some (.int f), some (.int (nI i))] [] h := by
    intro i
    induction i with
    | zero => intro _; exact ⟨-1, Or.inl ⟨rfl, fun j _ hj => by omega⟩, by rw [q_X1_lawsOf]; rfl⟩
    | succ i ih =>
      intro hi
      obtain ⟨f, g1, g2⟩ := ih (by omega)
      have e5 : (nI i < (100 : Int32)) = True := eq_true (nI_lt (b := 100) (by omega) (by decide))
      have q1 : nI i / 10 = nI (i / 10) := pk_div (d := 10) (by omega) (by decide) (by decide)
      have q2 : am_rem (nI i) 10 = nI (i % 10) := rem_nI (d := 10) (by omega) (by decide) (by decide)
      have z1 : ((1 : Int32) = 0) = False := eq_false (by decide)
      have g3 := g1.up (by omega)
      refine ⟨_, g3, ?_⟩
      rw [g2, q_X1_lawsOf_8]
      simp only [am_kd, he, if_true, e5, d10, q1, q2, k1, bI_s, nI_1, cntB]
      cases c : B i with
      | false => simp only [bi_f, if_true, Bool.false_eq_true, if_false, Nat.add_zero]
      | true =>
        simp only [bi_t, z1, if_true, if_false]
        by_cases c2 : f < 0
        · simp only [if_pos c2]
        · simp only [if_neg c2]
  obtain ⟨f, g1, g2⟩ := lp 100 (Nat.le_refl _)
  obtain ⟨g, kt⟩ := kt (nI (cntB B 100))
  unfold xlaw
  by_cases c0 : w = 0
  · refine ⟨hAI h b, f, g1, ?_⟩
    rw [g2, q_X1_lawsOf_8, if_neg (show ¬ nI 100 < (100 : Int32) from nI_nlt (b := 100) (Nat.le_refl _) (by decide)), if_pos c0, if_pos c0, sAI_self]
  · by_cases c1 : w = 1
    · refine ⟨hAI h b, f, g1, ?_⟩
      rw [g2, q_X1_lawsOf_8, if_neg (show ¬ nI 100 < (100 : Int32) from nI_nlt (b := 100) (Nat.le_refl _) (by decide)), if_neg c0, if_pos c1, if_neg c0, if_pos c1, sAI_self]
    · refine ⟨g, f, g1, ?_⟩
      rw [g2, q_X1_lawsOf_8, if_neg (show ¬ nI 100 < (100 : Int32) from nI_nlt (b := 100) (Nat.le_refl _) (by decide)), if_neg c0, if_neg c1, if_neg c0, if_neg c1, am_kd_t ha, kt, bI_s]
/-- the same of the reference, from its loop's head on -/
theorem c_mlaws0 {d n : Nat} {h : AH} (hm : MSh h) (hn : hAI h 394 0 = nI n) (hl : n ≤ 12) (w : Int32) (hw0 : ¬ w < 0) :
    ∃ g f, LeastB (fun i => xfit (hAI h 395) (hAI h 396) (nI (i / 10)) (nI (i % 10)) n) 0 100 f ∧ am_R PG (d + 4) 255 24 [some (.ref 348), some (.int w), some (.int 0), some (.int (-1)), some (.int 99), none, none, none] [] h = some (some (.int (xlaw (fun i => xfit (hAI h 395) (hAI h 396) (nI (i / 10)) (nI (i % 10)) n) n w f)), sAI h 406 g) := by
  have k0 := fun x y => c_isLaw (d := d + 2) hm hn hl x y
  have ka : ∀ f ht, ht ≤ 9 → ∃ g, am_C PG (d + 3) 254 [.ref 348, .int (nI ht)] (sAI h 406 f) = some (some (.int (xalk (fun i => xfit (hAI h 395) (hAI h 396) (nI (i / 10)) (nI (i % 10)) n) ht 100).1), sAI h 406 g) := by
    intro f ht hht
    obtain ⟨g, k⟩ := c_malike (d := d + 1) (h := sAI h 406 f) (MSh.to rfl (fun _ => rfl) rfl hm) (by rw [sAI_ne _ _ (by decide)]; exact hn) hl hht
    rw [sAI_ne _ _ (by decide), sAI_ne _ _ (by decide), sAI_sAI] at k
    exact ⟨g, k⟩
  have m0 := hm.1
  have d10 : ∀ x, am_dz (10 : Int32) x = x := fun x => am_dz_t (by decide) x
  have k1 : ∀ i, am_C PG (d + 3) 253 [.ref 348, .int (nI (i / 10)), .int (nI (i % 10))] h = some (some (.int (bi ((fun i => xfit (hAI h 395) (hAI h 396) (nI (i / 10)) (nI (i % 10)) n) i))), h) := fun i => k0 _ _
  generalize (fun i => xfit (hAI h 395) (hAI h 396) (nI (i / 10)) (nI (i % 10)) n) = B at ka k1 ⊢
  have lp : ∀ i, i ≤ 100 → ∃ D f, D + cntB B (100 - i) = cntB B 100 ∧ LeastB B (100 - i) 100 f ∧ am_R PG (d + 4) 255 24 [some (.ref 348), some (.int w), some (.int 0), some (.int (-1)), some (.int 99), none, none, none] [] h = am_R PG (d + 4) 255 24 [some (.ref 348), some (.int w), some (.int (nI D)), some (.int f), some (.int (nI (100 - i) - 1)), none, none, none] [] h := by
    intro i
    induction i with
    | zero => intro _; exact ⟨0, -1, by rw [Nat.zero_add], Or.inl ⟨rfl, fun j _ hj => by omega⟩, rfl⟩
    | succ i ih =>
      intro hi
      obtain ⟨D, f, g0, g1, g2⟩ := ih (by omega)
      obtain ⟨j, hj⟩ : ∃ j, 100 - i = j + 1 := ⟨99 - i, by omega⟩
      have hj2 : 100 - (i + 1) = j := by omega
      rw [hj] at g0 g1 g2
      rw [hj2]
      rw [nI_pred] at g2
      have e5 : (nI j < 0) = False := eq_false (nI_pos (by omega))
      have q1 : nI j / 10 = nI (j / 10) := pk_div (d := 10) (by omega) (by decide) (by decide)
      have q2 : am_rem (nI j) 10 = nI (j % 10) := rem_nI (d := 10) (by omega) (by decide) (by decide)
      have q3 : nI j + (-1) = nI j - 1 := by rw [Int32.sub_eq_add_neg]
      have z1 : ((1 : Int32) = 0) = False := eq_false (by decide)
      have g3 := g1.down (by omega)
      refine ⟨D + (if B j then 1 else 0), _, ?_, g3, ?_⟩
      · rw [← g0]
        simp only [cntB]
        omega
      · rw [g2, q_X12_laws_24]
        simp only [am_kd, m0, if_true, if_false, e5, d10, q1, q2, q3, k1, bI_s, nI_1]
        cases c : B j with
        | false => simp only [bi_f, if_true, Bool.false_eq_true, if_false, Nat.add_zero]
        | true => simp only [bi_t, z1, if_true, if_false]
  obtain ⟨D, f, g0, g1, g2⟩ := lp 100 (Nat.le_refl _)
  have hD : D = cntB B 100 := g0
  subst hD
  have e7 : (nI (100 - 100) - 1 < 0) = True := eq_true (by decide)
  unfold xlaw
  by_cases c0 : w = 0
  · refine ⟨hAI h 406, f, g1, ?_⟩
    have c2 : w < 2 := by rw [c0]; decide
    rw [g2, q_X12_laws_24, if_pos (of_eq_true e7), if_pos c2, if_pos c0, if_pos c0, sAI_self]
  · by_cases c1 : w = 1
    · refine ⟨hAI h 406, f, g1, ?_⟩
      have c2 : w < 2 := by rw [c1]; decide
      rw [g2, q_X12_laws_24, if_pos (of_eq_true e7), if_pos c2, if_neg c0, if_neg c0, if_pos c1, sAI_self]
    · have c2 : ¬ w < 2 := by
        rw [i_lt] at hw0 ⊢
        rw [i_eq] at c0 c1
        have z0 : (0 : Int32).toInt = 0 := rfl
        have z1 : (1 : Int32).toInt = 1 := rfl
        have z2 : (2 : Int32).toInt = 2 := rfl
        omega
      have lp2 : ∀ i, i ≤ 10 → ∃ u, am_R PG (d + 4) 255 24 [some (.ref 348), some (.int w), some (.int 0), some (.int (-1)), some (.int 99), none, none, none] [] h = am_R PG (d + 4) 255 85 [some (.ref 348), none, none, none, some (.int (xtel (fun ht => (xalk B ht 100).1) (nI (cntB B 100)) i).2), some (.int (xtel (fun ht => (xalk B ht 100).1) (nI (cntB B 100)) i).1), some (.int (nI i)), none] [] (sAI h 406 u) := by
        intro i
        induction i with
        | zero => intro _; exact ⟨hAI h 406, by rw [g2, q_X12_laws_24, if_pos (of_eq_true e7), if_neg c2, sAI_self]; rfl⟩
        | succ i ih =>
          intro hi
          obtain ⟨u, g3⟩ := ih (by omega)
          obtain ⟨v, k⟩ := ka u i (by omega)
          have e5 : (nI i < (10 : Int32)) = True := eq_true (nI_lt (b := 10) (by omega) (by decide))
          refine ⟨v, ?_⟩
          rw [g3, q_X12_laws_85]
          simp only [am_kd, rd_hK_sAI, m0, if_true, e5, k, bI_s, nI_1, xtel]
          by_cases c : (xalk B i 100).1 < (xtel (fun ht => (xalk B ht 100).1) (nI (cntB B 100)) i).1
          · simp only [if_pos c]
          · simp only [if_neg c]
      obtain ⟨u, g3⟩ := lp2 10 (Nat.le_refl _)
      refine ⟨u, f, g1, ?_⟩
      rw [g3, q_X12_laws_85, if_neg (show ¬ nI 10 < (10 : Int32) from nI_nlt (b := 10) (Nat.le_refl _) (by decide)), if_neg c0, if_neg c1]
