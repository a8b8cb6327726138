/-! A State of the class and a row of the reference: that an hour keeps them alike. -/
theorem t0 : Int32.toInt 0 = 0 := rfl
theorem t1 : Int32.toInt 1 = 1 := rfl
theorem t2 : Int32.toInt 2 = 2 := rfl
theorem t99 : Int32.toInt 99 = 99 := rfl
theorem t999 : Int32.toInt 999 = 999 := rfl
theorem t1000 : Int32.toInt 1000 = 1000 := rfl
theorem i_eq {a b : Int32} : a = b ↔ a.toInt = b.toInt := Int32.toInt_inj.symm
theorem i_sub {a b : Int32} (h1 : -2147483648 ≤ a.toInt - b.toInt) (h2 : a.toInt - b.toInt ≤ 2147483647) : (a - b).toInt = a.toInt - b.toInt := by
  rw [Int32.toInt_sub]
  exact Int.bmod_eq_of_le (by omega) (by omega)
theorem i_add {a b : Int32} (h1 : -2147483648 ≤ a.toInt + b.toInt) (h2 : a.toInt + b.toInt ≤ 2147483647) : (a + b).toInt = a.toInt + b.toInt := by
  rw [Int32.toInt_add]
  exact Int.bmod_eq_of_le (by omega) (by omega)
theorem i_mul {a b : Int32} (h1 : -2147483648 ≤ a.toInt * b.toInt) (h2 : a.toInt * b.toInt ≤ 2147483647) : (a * b).toInt = a.toInt * b.toInt := by
  rw [Int32.toInt_mul]
  exact Int.bmod_eq_of_le (by omega) (by omega)
theorem xth_rng (W : Int32 → Int32 → Int32 → Int32 → Int32) (kd sp he : Nat → Int32) (c hr : Nat) (s : Int32) : 0 ≤ (xth W kd sp he c hr s).toInt ∧ (xth W kd sp he c hr s).toInt ≤ 99 := by
  unfold xth
  dsimp only
  generalize W (sp c) (he (hr % 24)) (kd c) s = w
  have h : ∀ m : Int32, m.toInt ≤ 99 → 0 ≤ (if 0 < m then m else 0).toInt ∧ (if 0 < m then m else 0).toInt ≤ 99 := by
    intro m hm
    split
    · rename_i e
      rw [i_lt, t0] at e
      omega
    · rw [t0]; omega
  have h2 := h (if 99 < w then 99 else w) (by
    split
    · rw [t99]; omega
    · rename_i e
      rw [i_lt, t99] at e
      omega)
  generalize (if 0 < (if 99 < w then (99 : Int32) else w) then (if 99 < w then (99 : Int32) else w) else 0) = t at h2 ⊢
  split
  · have e1 : (t + 1).toInt = t.toInt + 1 := i_add (by rw [t1]; omega) (by rw [t1]; omega)
    obtain ⟨j, hj, rfl⟩ := nI_of (x := t) (by rw [i_lt, t0]; omega)
    rw [nI_toInt hj] at h2
    rw [nI_1, show (2 : Int32) = nI 2 from rfl, pk_div (by omega) (by decide) (by decide), nI_toInt (by omega)]
    omega
  · exact h2
/-- what a clock's three numbers must be -/
def okc (ho : Int32) (x : Int32 × Int32 × Int32) : Prop := 0 ≤ x.1.toInt ∧ x.1.toInt ≤ ho.toInt ∧ (x.2.2 = 0 ∨ x.2.2 = 1)
theorem xclk_ok {W : Int32 → Int32 → Int32 → Int32 → Int32} {kd ho sp he : Nat → Int32} {hr c : Nat} {x : Int32 × Int32 × Int32} (hh : (ho c).toInt ≤ 999) (h : okc (ho c) x) : okc (ho c) (xclk W kd ho sp he hr c x) := by
  obtain ⟨h1, h2, h3⟩ := h
  unfold xclk
  obtain ⟨v1, v2⟩ := xth_rng W kd sp he c hr x.2.1
  generalize xth W kd sp he c hr x.2.1 = v at v1 v2 ⊢
  have hd : 0 ≤ (xdew (kd c) (ho c) (nI hr) x.1).toInt ∧ (xdew (kd c) (ho c) (nI hr) x.1).toInt ≤ (ho c).toInt := by
    unfold xdew
    split
    · rename_i e
      have e2 := e.2.2
      rw [i_lt] at e2
      rw [i_add (by rw [t1]; omega) (by rw [t1]; omega), t1]
      omega
    · exact ⟨h1, h2⟩
  generalize xdew (kd c) (ho c) (nI hr) x.1 = o at hd ⊢
  have lk : ∀ z : Int32, 0 ≤ z.toInt → z.toInt ≤ (ho c).toInt → 0 ≤ (if kd c = 1 ∧ 0 < z then z - 1 else z).toInt ∧ (if kd c = 1 ∧ 0 < z then z - 1 else z).toInt ≤ (ho c).toInt := by
    intro z z1 z2
    split
    · rename_i e
      have e2 := e.2
      rw [i_lt, t0] at e2
      rw [i_sub (by rw [t1]; omega) (by rw [t1]; omega), t1]
      omega
    · exact ⟨z1, z2⟩
  unfold xdrk
  dsimp only
  split
  · have := lk o hd.1 hd.2
    exact ⟨this.1, this.2, Or.inr rfl⟩
  · rename_i e
    rw [i_lt] at e
    have es : (o - v).toInt = o.toInt - v.toInt := i_sub (by omega) (by omega)
    have := lk (o - v) (by omega) (by omega)
    exact ⟨this.1, this.2, Or.inl rfl⟩
theorem xth_congr {W : Int32 → Int32 → Int32 → Int32 → Int32} {kd sp he kd' sp' he' : Nat → Int32} {c hr : Nat} {s : Int32} (e1 : kd c = kd' c) (e2 : sp c = sp' c) (e3 : ∀ j, j < 24 → he j = he' j) : xth W kd sp he c hr s = xth W kd' sp' he' c hr s := by
  unfold xth
  rw [e1, e2, e3 _ (Nat.mod_lt _ (by decide))]
theorem xclk_congr {W : Int32 → Int32 → Int32 → Int32 → Int32} {kd ho sp he kd' ho' sp' he' : Nat → Int32} {c hr : Nat} {x : Int32 × Int32 × Int32} (e1 : kd c = kd' c) (e2 : ho c = ho' c) (e3 : sp c = sp' c) (e4 : ∀ j, j < 24 → he j = he' j) : xclk W kd ho sp he hr c x = xclk W kd' ho' sp' he' hr c x := by
  unfold xclk
  rw [xth_congr e1 e3 e4, e1, e2]
theorem bitN_congr {P P' : Nat → Bool} : ∀ n, (∀ j, j < n → P j = P' j) → bitN P n = bitN P' n
  | 0, _ => rfl
  | n + 1, h => by
    unfold bitN
    rw [bitN_congr n (fun j hj => h j (by omega)), h n (by omega)]
theorem sumN_congr {f g : Nat → Int32} : ∀ n, (∀ j, j < n → f j = g j) → sumN f n = sumN g n
  | 0, _ => rfl
  | n + 1, h => by
    unfold sumN
    rw [sumN_congr n (fun j hj => h j (by omega)), h n (by omega)]
theorem sumN_add {f g : Nat → Int32} : ∀ n, sumN (fun j => f j + g j) n = sumN f n + sumN g n
  | 0 => rfl
  | n + 1 => by
    unfold sumN
    rw [sumN_add n, Int32.add_assoc, Int32.add_assoc, ← Int32.add_assoc (sumN g n), Int32.add_comm (sumN g n) (f n), Int32.add_assoc]
/-- the rows of a Post that are told, against the reference's -/
def PRow (P M : Nat → Nat → Int32) (np nc ne nw : Nat) : Prop :=
  (∀ c, c < nc → P 4 c = M 357 c ∧ P 5 c = M 358 c ∧ P 6 c = M 359 c ∧ P 7 c = M 361 c) ∧ (∀ e, e < ne → P 8 e = M 363 e) ∧ (∀ w, w < nw → P 9 w = M 365 w ∧ P 10 w = M 366 w ∧ P 11 w = M 367 w ∧ P 12 w = M 368 w) ∧ (∀ j, j < 24 → P 13 j = M 369 j) ∧
  (∀ c, c < nc → (0 ≤ (M 357 c).toInt ∧ (M 357 c).toInt ≤ 3) ∧ (∃ q, q < np ∧ M 358 c = nI q) ∧ 1 ≤ (M 359 c).toInt ∧ (M 359 c).toInt ≤ 999) ∧ (∀ e, e < ne → 0 ≤ (M 363 e).toInt ∧ (M 363 e).toInt ≤ 9) ∧
  (∀ w, w < nw → (∃ e, e < ne ∧ M 365 w = nI e) ∧ (∃ c, c < nc ∧ M 366 w = nI c) ∧ (∃ t, 1 ≤ t ∧ t ≤ 99 ∧ M 367 w = nI t) ∧ 0 ≤ (M 368 w).toInt ∧ (M 368 w).toInt ≤ 99) ∧ np ≤ 5 ∧ nc ≤ 6 ∧ ne ≤ 4 ∧ nw ≤ 6
def dn (R : SV) : Nat → Int32 := R.2.2.2.2.2.2.2.2
def pdw (M : Nat → Nat → Int32) (R : SV) : Nat → Int32 := fun w => if dn R w = 1 then M 368 w else 0
/-- a State R of the class and a row Q of the reference tell the same -/
def SR (M : Nat → Nat → Int32) (np nc ne nw hr : Nat) (R : SV) (Q : MQv) : Prop :=
  R.1 = nI hr ∧ Q.1.1 = nI hr ∧ (∀ c, c < nc → getc R c = getc Q.1 c) ∧ (∀ e, e < ne → R.2.2.2.2.1 e = Q.1.2.2.2.2.1 e ∧ R.2.2.2.2.2.1 e = Q.1.2.2.2.2.2.1 e ∧ R.2.2.2.2.2.2.1 e = Q.1.2.2.2.2.2.2.1 e) ∧ (∀ p, p < np → R.2.2.2.2.2.2.2.1 p = Q.1.2.2.2.2.2.2.2.1 p) ∧ (∀ w, w < nw → dn R w = dn Q.1 w) ∧
  Q.2 42 = sumN (pdw M Q.1) nw ∧ (∀ c, c < nc → okc (M 359 c) (getc Q.1 c)) ∧ (∀ e, e < ne → (∃ q, q < np ∧ Q.1.2.2.2.2.1 e = nI q) ∧ 0 ≤ (Q.1.2.2.2.2.2.1 e).toInt ∧ (Q.1.2.2.2.2.2.1 e).toInt ≤ 999) ∧ (∀ p, p < np → 0 ≤ (Q.1.2.2.2.2.2.2.2.1 p).toInt ∧ (Q.1.2.2.2.2.2.2.2.1 p).toInt ≤ 9999) ∧ (∀ w, w < nw → dn Q.1 w = 0 ∨ dn Q.1 w = 1 ∨ dn Q.1 w = 2 ∨ dn Q.1 w = 3) ∧
  (∀ c, nc ≤ c → c < 6 → getc Q.1 c = (0, 0, 0)) ∧ (∀ e, ne ≤ e → e < 4 → Q.1.2.2.2.2.1 e = 0 ∧ Q.1.2.2.2.2.2.1 e = 0 ∧ Q.1.2.2.2.2.2.2.1 e = 0) ∧ (∀ p, np ≤ p → p < 5 → Q.1.2.2.2.2.2.2.2.1 p = 0) ∧ (∀ w, nw ≤ w → w < 6 → dn Q.1 w = 0)
theorem mpd_eq (do_ ti du py : Nat → Int32) (b : Int32) (R : SV) (p : Int32) : ∀ n, mpd do_ ti du py b R n p = p + sumN (fun w => if dn R w = 0 ∧ xst1 do_ ti du b R.1 R.2.2.1 w 0 = 1 then py w else 0) n
  | 0 => (add0 p).symm
  | n + 1 => by
    unfold mpd sumN
    rw [mpd_eq do_ ti du py b R p n]
    by_cases e : dn R n = 0 ∧ xst1 do_ ti du b R.1 R.2.2.1 n 0 = 1
    · have e' : R.2.2.2.2.2.2.2.2 n = 0 ∧ xst1 do_ ti du b R.1 R.2.2.1 n 0 = 1 := e
      rw [if_pos e', if_pos e, Int32.add_assoc]
    · have e' : ¬ (R.2.2.2.2.2.2.2.2 n = 0 ∧ xst1 do_ ti du b R.1 R.2.2.1 n 0 = 1) := e
      rw [if_neg e', if_neg e, add0]
theorem xst1_rng {do_ ti du : Nat → Int32} {b h : Int32} {sh : Nat → Int32} {w : Nat} {o : Int32} (h0 : o = 0 ∨ o = 1 ∨ o = 2 ∨ o = 3) : xst1 do_ ti du b h sh w o = 0 ∨ xst1 do_ ti du b h sh w o = 1 ∨ xst1 do_ ti du b h sh w o = 2 ∨ xst1 do_ ti du b h sh w o = 3 := by
  unfold xst1
  split
  · split
    · exact Or.inr (Or.inr (Or.inr rfl))
    · split
      · exact Or.inr (Or.inl rfl)
      · exact Or.inr (Or.inr (Or.inl rfl))
  · exact h0
theorem getc_xcl {X : Nat → Int32 × Int32 × Int32} {n c : Nat} {R : SV} (h : c < n) : getc (xcl X n R) c = X c := by
  unfold xcl getc
  dsimp only
  rw [cp_lt _ _ h, cp_lt _ _ h, cp_lt _ _ h]
theorem getc_xcl' {X : Nat → Int32 × Int32 × Int32} {n c : Nat} {R : SV} (h : n ≤ c) : getc (xcl X n R) c = getc R c := by
  unfold xcl getc
  dsimp only
  rw [cp_ge _ _ h, cp_ge _ _ h, cp_ge _ _ h]
theorem SR_hour {W : Int32 → Int32 → Int32 → Int32 → Int32} {P M : Nat → Nat → Int32} {np nc ne nw hr : Nat} {R : SV} {Q : MQv} (hP : PRow P M np nc ne nw) (h : SR M np nc ne nw hr R Q) : SR M np nc ne nw (hr + 1) (xhour W P nc ne nw hr R) (mhour W M nc ne nw hr Q) := by
  obtain ⟨p1, p2, p3, p4, p5, p6, p7, p8, p9, p10, p11⟩ := hP
  obtain ⟨s1, s2, s3, s4, s5, s6, s7, s8, s9, s10, s11, s12, s13, s14, s15⟩ := h
  -- clocks
  have gX : ∀ c, c < nc → getc (xhour W P nc ne nw hr R) c = xclk W (M 357) (M 359) (M 361) (M 369) hr c (getc Q.1 c) := fun c hc => by
    show getc (xcl (fun j => xclk W (P 4) (P 6) (P 7) (P 13) hr j (getc R j)) nc R) c = _
    rw [getc_xcl hc, s3 c hc]
    exact xclk_congr (p1 c hc).1 (p1 c hc).2.2.1 (p1 c hc).2.2.2 p4
  have gM : ∀ c, c < nc → getc (mhour W M nc ne nw hr Q).1 c = xclk W (M 357) (M 359) (M 361) (M 369) hr c (getc Q.1 c) := fun c hc => by
    show getc (xcl (fun j => xclk W (M 357) (M 359) (M 361) (M 369) hr j (getc Q.1 j)) nc Q.1) c = _
    exact getc_xcl hc
  have gM' : ∀ c, nc ≤ c → getc (mhour W M nc ne nw hr Q).1 c = getc Q.1 c := fun c hc => by
    show getc (xcl (fun j => xclk W (M 357) (M 359) (M 361) (M 369) hr j (getc Q.1 j)) nc Q.1) c = _
    exact getc_xcl' hc
  -- people
  have wX : ∀ e, e < ne → (xhour W P nc ne nw hr R).2.2.2.2.2.1 e = (if Q.1.2.2.2.2.2.1 e < M 363 e then Q.1.2.2.2.2.2.1 e else Q.1.2.2.2.2.2.1 e - M 363 e) ∧ (xhour W P nc ne nw hr R).2.2.2.2.2.2.1 e = (if Q.1.2.2.2.2.2.1 e < M 363 e then Q.1.2.2.2.2.2.2.1 e + 1 else Q.1.2.2.2.2.2.2.1 e) := fun e he => by
    refine ⟨?_, ?_⟩
    · show cp ne (fun j => if R.2.2.2.2.2.1 j < P 8 j then R.2.2.2.2.2.1 j else R.2.2.2.2.2.1 j - P 8 j) _ e = _
      rw [cp_lt _ _ he, (s4 e he).2.1, p2 e he]
    · show cp ne (fun j => if R.2.2.2.2.2.1 j < P 8 j then R.2.2.2.2.2.2.1 j + 1 else R.2.2.2.2.2.2.1 j) _ e = _
      rw [cp_lt _ _ he, (s4 e he).2.1, (s4 e he).2.2, p2 e he]
  have wM : ∀ e, e < ne → (mhour W M nc ne nw hr Q).1.2.2.2.2.2.1 e = (if Q.1.2.2.2.2.2.1 e < M 363 e then Q.1.2.2.2.2.2.1 e else Q.1.2.2.2.2.2.1 e - M 363 e) ∧ (mhour W M nc ne nw hr Q).1.2.2.2.2.2.2.1 e = (if Q.1.2.2.2.2.2.1 e < M 363 e then Q.1.2.2.2.2.2.2.1 e + 1 else Q.1.2.2.2.2.2.2.1 e) := fun e he => by
    refine ⟨?_, ?_⟩
    · show cp ne (fun j => if Q.1.2.2.2.2.2.1 j < M 363 j then Q.1.2.2.2.2.2.1 j else Q.1.2.2.2.2.2.1 j - M 363 j) _ e = _
      rw [cp_lt _ _ he]
    · show cp ne (fun j => if Q.1.2.2.2.2.2.1 j < M 363 j then Q.1.2.2.2.2.2.2.1 j + 1 else Q.1.2.2.2.2.2.2.1 j) _ e = _
      rw [cp_lt _ _ he]
  have wM' : ∀ e, ne ≤ e → (mhour W M nc ne nw hr Q).1.2.2.2.2.2.1 e = Q.1.2.2.2.2.2.1 e ∧ (mhour W M nc ne nw hr Q).1.2.2.2.2.2.2.1 e = Q.1.2.2.2.2.2.2.1 e := fun e he => by
    refine ⟨?_, ?_⟩
    · show cp ne (fun j => if Q.1.2.2.2.2.2.1 j < M 363 j then Q.1.2.2.2.2.2.1 j else Q.1.2.2.2.2.2.1 j - M 363 j) Q.1.2.2.2.2.2.1 e = _
      exact cp_ge _ _ he
    · show cp ne (fun j => if Q.1.2.2.2.2.2.1 j < M 363 j then Q.1.2.2.2.2.2.2.1 j + 1 else Q.1.2.2.2.2.2.2.1 j) Q.1.2.2.2.2.2.2.1 e = _
      exact cp_ge _ _ he
  -- works
  have hb : xbits (P 8) ne (xcl (fun j => xclk W (P 4) (P 6) (P 7) (P 13) hr j (getc R j)) nc R) = xbits (M 363) ne (xcl (fun j => xclk W (M 357) (M 359) (M 361) (M 369) hr j (getc Q.1 j)) nc Q.1) := by
    unfold xbits
    refine bitN_congr ne (fun j hj => ?_)
    show decide (R.2.2.2.2.2.1 j < P 8 j) = decide (Q.1.2.2.2.2.2.1 j < M 363 j)
    rw [(s4 j hj).2.1, p2 j hj]
  generalize hB : xbits (M 363) ne (xcl (fun j => xclk W (M 357) (M 359) (M 361) (M 369) hr j (getc Q.1 j)) nc Q.1) = B at hb
  have hrX : R.1 + 1 = nI (hr + 1) := by rw [s1, nI_1]
  have hrM : Q.1.1 + 1 = nI (hr + 1) := by rw [s2, nI_1]
  have shM : ∀ c, (mhour W M nc ne nw hr Q).1.2.2.1 c = (getc (mhour W M nc ne nw hr Q).1 c).2.1 := fun c => rfl
  have dM : ∀ w, w < nw → dn (mhour W M nc ne nw hr Q).1 w = xst1 (M 365) (M 366) (M 367) B (nI (hr + 1)) (mhour W M nc ne nw hr Q).1.2.2.1 w (dn Q.1 w) := fun w hw => by
    show cp nw (fun w => xst1 (M 365) (M 366) (M 367) (xbits (M 363) ne (xcl (fun j => xclk W (M 357) (M 359) (M 361) (M 369) hr j (getc Q.1 j)) nc Q.1)) (Q.1.1 + 1) _ w _) _ w = _
    rw [cp_lt _ _ hw, hB, hrM]
    rfl
  have dX : ∀ w, w < nw → dn (xhour W P nc ne nw hr R) w = dn (mhour W M nc ne nw hr Q).1 w := fun w hw => by
    rw [dM w hw]
    show cp nw (fun w => xst1 (P 9) (P 10) (P 11) (xbits (P 8) ne (xcl (fun j => xclk W (P 4) (P 6) (P 7) (P 13) hr j (getc R j)) nc R)) (R.1 + 1) _ w _) _ w = _
    rw [cp_lt _ _ hw, hb, hrX]
    obtain ⟨q1, q2, q3, q4⟩ := p3 w hw
    obtain ⟨-, ⟨c, hc, hc2⟩, -⟩ := p7 w hw
    have esh : (xdr (P 8) ne (xcl (fun j => xclk W (P 4) (P 6) (P 7) (P 13) hr j (getc R j)) nc R)).2.2.1 c = (mhour W M nc ne nw hr Q).1.2.2.1 c := by
      have := congrArg (fun z : Int32 × Int32 × Int32 => z.2.1) ((gX c hc).trans (gM c hc).symm)
      exact this
    have ecl : Int32.toNatClampNeg (nI c) = c := nI_clamp (by omega)
    unfold xst1
    rw [q1, q2, q3, hc2, ecl]
    show (if dn R w = 0 ∧ (xdr (P 8) ne (xcl (fun j => xclk W (P 4) (P 6) (P 7) (P 13) hr j (getc R j)) nc R)).2.2.1 c = _ then _ else dn R w) = _
    rw [esh, s6 w hw]
  have dM' : ∀ w, nw ≤ w → dn (mhour W M nc ne nw hr Q).1 w = dn Q.1 w := fun w hw => by
    show cp nw (fun w => xst1 (M 365) (M 366) (M 367) (xbits (M 363) ne (xcl (fun j => xclk W (M 357) (M 359) (M 361) (M 369) hr j (getc Q.1 j)) nc Q.1)) (Q.1.1 + 1) _ w _) (dn Q.1) w = _
    exact cp_ge _ _ hw
  refine ⟨?_, ?_, fun c hc => (gX c hc).trans (gM c hc).symm, fun e he => ⟨(s4 e he).1, (wX e he).1.trans (wM e he).1.symm, (wX e he).2.trans (wM e he).2.symm⟩, s5, dX, ?_, fun c hc => ?_, fun e he => ⟨(s9 e he).1, ?_⟩, s10, fun w hw => ?_, fun c hc h6 => (gM' c hc).trans (s12 c hc h6), fun e he h4 => ⟨(s13 e he h4).1, (wM' e he).1.trans (s13 e he h4).2.1, (wM' e he).2.trans (s13 e he h4).2.2⟩, s14, fun w hw h6 => (dM' w hw).trans (s15 w hw h6)⟩
  · exact hrX
  · exact hrM
  · show upd Q.2 42 (mpd (M 365) (M 366) (M 367) (M 368) (xbits (M 363) ne (xcl (fun j => xclk W (M 357) (M 359) (M 361) (M 369) hr j (getc Q.1 j)) nc Q.1)) _ nw (Q.2 42)) 42 = _
    rw [pk_us, mpd_eq, s7, hB, ← sumN_add]
    refine sumN_congr nw (fun w hw => ?_)
    show pdw M Q.1 w + (if dn Q.1 w = 0 ∧ xst1 (M 365) (M 366) (M 367) B (Q.1.1 + 1) (mhour W M nc ne nw hr Q).1.2.2.1 w 0 = 1 then M 368 w else 0) = pdw M (mhour W M nc ne nw hr Q).1 w
    unfold pdw
    rw [dM w hw, hrM]
    have z : Int32.ofNat 0 = 0 := rfl
    rcases s11 w hw with e | e | e | e
    · rw [e]
      have z1 : ((0 : Int32) = 1) = False := eq_false (by decide)
      simp only [z1, if_false, true_and]
      rw [Int32.add_comm, add0]
    · rw [e]
      have z1 : ((1 : Int32) = 0) = False := eq_false (by decide)
      have : xst1 (M 365) (M 366) (M 367) B (nI (hr + 1)) (mhour W M nc ne nw hr Q).1.2.2.1 w 1 = 1 := by
        unfold xst1
        rw [if_neg (fun z => absurd z.1 (by decide))]
      simp only [z1, false_and, if_false, if_true, this, add0]
    · rw [e]
      have z1 : ((2 : Int32) = 0) = False := eq_false (by decide)
      have z2 : ((2 : Int32) = 1) = False := eq_false (by decide)
      have : xst1 (M 365) (M 366) (M 367) B (nI (hr + 1)) (mhour W M nc ne nw hr Q).1.2.2.1 w 2 = 2 := by
        unfold xst1
        rw [if_neg (fun z => absurd z.1 (by decide))]
      simp only [z1, z2, false_and, if_false, this, add0]
    · rw [e]
      have z1 : ((3 : Int32) = 0) = False := eq_false (by decide)
      have z2 : ((3 : Int32) = 1) = False := eq_false (by decide)
      have : xst1 (M 365) (M 366) (M 367) B (nI (hr + 1)) (mhour W M nc ne nw hr Q).1.2.2.1 w 3 = 3 := by
        unfold xst1
        rw [if_neg (fun z => absurd z.1 (by decide))]
      simp only [z1, z2, false_and, if_false, this, add0]
  · rw [gM c hc]
    exact xclk_ok (p5 c hc).2.2.2 (s8 c hc)
  · rw [(wM e he).1]
    obtain ⟨-, b1, b2⟩ := s9 e he
    obtain ⟨c1, c2⟩ := p6 e he
    split
    · exact ⟨b1, b2⟩
    · rename_i q
      rw [i_lt] at q
      rw [i_sub (by omega) (by omega)]
      omega
  · rw [dM w hw]
    exact xst1_rng (s11 w hw)
