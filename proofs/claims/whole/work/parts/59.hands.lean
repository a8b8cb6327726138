/-! The class's hands and counts. -/
theorem b2i_t {c : Prop} [Decidable c] (h : c) : b2i c = 1 := if_pos h
theorem b2i_f {c : Prop} [Decidable c] (h : ¬ c) : b2i c = 0 := if_neg h
theorem inN {e n : Nat} (h : e < n) (hn : n < 2 ^ 31) : ¬ nI e < 0 ∧ nI e < nI n := ⟨nI_pos (by omega), nI_lt h hn⟩
theorem c_step {d p np nc ne nw q t : Nat} {h : AH} (hp : PoC h p np nc ne nw) (hq : q < 5) (ht : t < 5) : am_C PG (d + 1) 52 [.ref p, .int (nI q), .int (nI t)] h = some (some (.int (hAI h (p + 2) (5 * q + t))), h) := by
  obtain ⟨⟨⟨p0, pf1, pf2, pf3, pf4, pf5, pf6, pf7, pf8, pf9, pf10, pf11, pf12, pf13, pf14, pf17, pk1, pk2, pk3, pk4, pk5, pk6, pk7, pk8, pk9, pk10, pk11, pk12, pk13, pn1, pn2, pn3, pn4, pn5, pn6, pn7, pn8, pn9, pn10, pn11, pn12, pn13⟩, -, -⟩, -⟩ := hp
  have a : nI q * (5 : Int32) + nI t = nI (5 * q + t) := by
    rw [show (5 : Int32) = nI 5 from rfl, pk_mul, nI_add, Nat.mul_comm]
  have e3 : ∀ x, am_in (nI (5 * q + t)) 25 x = x := am_inN (by omega) (by decide)
  have e4 : Int32.toNatClampNeg (nI (5 * q + t)) = 5 * q + t := nI_clamp (by omega)
  rw [q_X5_step]
  simp only [am_kd, p0, pf1, pf2, pf3, pf4, pf5, pf6, pf7, pf8, pf9, pf10, pf11, pf12, pf13, pf14, pf17, pk1, pk2, pk3, pk4, pk5, pk6, pk7, pk8, pk9, pk10, pk11, pk12, pk13, pn1, pn2, pn3, pn4, pn5, pn6, pn7, pn8, pn9, pn10, pn11, pn12, pn13, if_true, bR_s, a, e3, e4]
theorem c_short {d p np nc ne nw q t : Nat} {h : AH} (hp : PoC h p np nc ne nw) (hq : q < 5) (ht : t < 5) : am_C PG (d + 1) 53 [.ref p, .int (nI q), .int (nI t)] h = some (some (.int (hAI h (p + 3) (5 * q + t))), h) := by
  obtain ⟨⟨⟨p0, pf1, pf2, pf3, pf4, pf5, pf6, pf7, pf8, pf9, pf10, pf11, pf12, pf13, pf14, pf17, pk1, pk2, pk3, pk4, pk5, pk6, pk7, pk8, pk9, pk10, pk11, pk12, pk13, pn1, pn2, pn3, pn4, pn5, pn6, pn7, pn8, pn9, pn10, pn11, pn12, pn13⟩, -, -⟩, -⟩ := hp
  have a : nI q * (5 : Int32) + nI t = nI (5 * q + t) := by
    rw [show (5 : Int32) = nI 5 from rfl, pk_mul, nI_add, Nat.mul_comm]
  have e3 : ∀ x, am_in (nI (5 * q + t)) 25 x = x := am_inN (by omega) (by decide)
  have e4 : Int32.toNatClampNeg (nI (5 * q + t)) = 5 * q + t := nI_clamp (by omega)
  rw [q_X5_shortest]
  simp only [am_kd, p0, pf1, pf2, pf3, pf4, pf5, pf6, pf7, pf8, pf9, pf10, pf11, pf12, pf13, pf14, pf17, pk1, pk2, pk3, pk4, pk5, pk6, pk7, pk8, pk9, pk10, pk11, pk12, pk13, pn1, pn2, pn3, pn4, pn5, pn6, pn7, pn8, pn9, pn10, pn11, pn12, pn13, if_true, bR_s, a, e3, e4]
theorem c_draw_no {d p np nc ne nw a : Nat} {g : AH} {R : SV} (hp : PoC g p np nc ne nw) (x s : Int32) (hb : ¬ (¬ x < 0 ∧ x < nI ne) ∨ s < 1 ∨ 999 < s) : am_C PG (d + 2) 66 [.ref p, .ref a, .int x, .int s] (putS g a R) = some (some (.int 0), putS g a R) := by
  have k := c_isPerson (d := d) (hp.put (a := a) (R := R)) x
  obtain ⟨⟨⟨p0, pf1, pf2, pf3, pf4, pf5, pf6, pf7, pf8, pf9, pf10, pf11, pf12, pf13, pf14, pf17, pk1, pk2, pk3, pk4, pk5, pk6, pk7, pk8, pk9, pk10, pk11, pk12, pk13, pn1, pn2, pn3, pn4, pn5, pn6, pn7, pn8, pn9, pn10, pn11, pn12, pn13⟩, -, -⟩, -⟩ := hp
  rw [q_X5_drawWater]
  simp only [rd_hK_putS, rd_hFR_putS, rd_hLN_putS, rd_hFJ_putS, rd_hAJ_putS, rd_hAR_putS, rd_hNX_putS, pS_1, pS_2, pS_3, pS_4, pS_5, pS_6, pS_7, pS_8, pS_hr, pE_1, pE_2, pE_3, pE_4, pE_5, pE_6, pE_7, pE_8, putS_sFI, am_kd, p0, pf1, pf2, pf3, pf4, pf5, pf6, pf7, pf8, pf9, pf10, pf11, pf12, pf13, pf14, pf17, pk1, pk2, pk3, pk4, pk5, pk6, pk7, pk8, pk9, pk10, pk11, pk12, pk13, pn1, pn2, pn3, pn4, pn5, pn6, pn7, pn8, pn9, pn10, pn11, pn12, pn13, if_true, k, bI_s, am_nar4_0]
  by_cases c1 : ¬ x < 0 ∧ x < nI ne
  · rw [b2i_t c1, if_neg (by decide)]
    by_cases c2 : s < 1
    · rw [if_pos c2]
    · rw [if_neg c2, if_pos ((hb.resolve_left (fun z => z c1)).resolve_left c2)]
  · rw [b2i_f c1, if_pos rfl]
def xdraw (e q : Nat) (s : Int32) (R : SV) : SV := (R.1, R.2.1, R.2.2.1, R.2.2.2.1, R.2.2.2.2.1, upd R.2.2.2.2.2.1 e (R.2.2.2.2.2.1 e + s), R.2.2.2.2.2.2.1, upd R.2.2.2.2.2.2.2.1 q (R.2.2.2.2.2.2.2.1 q - s), R.2.2.2.2.2.2.2.2)
theorem c_draw_ok {d p np nc ne nw a e q : Nat} {g : AH} {R : SV} (hp : PoC g p np nc ne nw) (hs : StSh g a) (he : e < ne) (s : Int32) (h1 : ¬ s < 1) (h2 : ¬ 999 < s) (hq : q < 5) (hw : R.2.2.2.2.1 e = nI q) :
    am_C PG (d + 2) 66 [.ref p, .ref a, .int (nI e), .int s] (putS g a R) = if R.2.2.2.2.2.2.2.1 q < s ∨ 999 < R.2.2.2.2.2.1 e + s then some (some (.int 0), putS g a R) else some (some (.int 1), putS g a (xdraw e q s R)) := by
  have k := c_isPerson (d := d) (hp.put (a := a) (R := R)) (nI e)
  have h4 : ne ≤ 4 := hp.2.2.2.2.2.2.2.1
  rw [b2i_t (inN he (by omega))] at k
  obtain ⟨⟨⟨p0, pf1, pf2, pf3, pf4, pf5, pf6, pf7, pf8, pf9, pf10, pf11, pf12, pf13, pf14, pf17, pk1, pk2, pk3, pk4, pk5, pk6, pk7, pk8, pk9, pk10, pk11, pk12, pk13, pn1, pn2, pn3, pn4, pn5, pn6, pn7, pn8, pn9, pn10, pn11, pn12, pn13⟩, -, -⟩, -⟩ := hp
  obtain ⟨s0, sf1, sf2, sf3, sf4, sf5, sf6, sf7, sf8, sk1, sk2, sk3, sk4, sk5, sk6, sk7, sk8, sn1, sn2, sn3, sn4, sn5, sn6, sn7, sn8⟩ := hs
  have e3 : ∀ x, am_in (nI e) 4 x = x := am_inN (by omega) (by decide)
  have e4 : Int32.toNatClampNeg (nI e) = e := nI_clamp (by omega)
  have q3 : ∀ x, am_in (nI q) 5 x = x := am_inN hq (by decide)
  have q4 : Int32.toNatClampNeg (nI q) = q := nI_clamp (by omega)
  rw [q_X5_drawWater]
  simp only [rd_hK_putS, rd_hFR_putS, rd_hLN_putS, rd_hFJ_putS, rd_hAJ_putS, rd_hAR_putS, rd_hNX_putS, pS_1, pS_2, pS_3, pS_4, pS_5, pS_6, pS_7, pS_8, pS_hr, pE_1, pE_2, pE_3, pE_4, pE_5, pE_6, pE_7, pE_8, putS_sFI, am_kd, p0, pf1, pf2, pf3, pf4, pf5, pf6, pf7, pf8, pf9, pf10, pf11, pf12, pf13, pf14, pf17, pk1, pk2, pk3, pk4, pk5, pk6, pk7, pk8, pk9, pk10, pk11, pk12, pk13, pn1, pn2, pn3, pn4, pn5, pn6, pn7, pn8, pn9, pn10, pn11, pn12, pn13, s0, sf1, sf2, sf3, sf4, sf5, sf6, sf7, sf8, sk1, sk2, sk3, sk4, sk5, sk6, sk7, sk8, sn1, sn2, sn3, sn4, sn5, sn6, sn7, sn8, if_true, k, bI_s, show ((1 : Int32) = 0) = False from eq_false (by decide), if_false, h1, h2, bR_s, e3, e4, hw, q3, q4, am_nar4_0, am_nar4_1, am_let_e]
  by_cases c1 : R.2.2.2.2.2.2.2.1 q < s
  · simp only [c1, if_true, true_or]
  · by_cases c2 : 999 < R.2.2.2.2.2.1 e + s
    · simp only [c1, c2, if_true, if_false, or_true]
    · simp only [c1, c2, if_false, or_self]
      rfl
theorem c_pour_no {d p np nc ne nw a : Nat} {g : AH} {R : SV} (hp : PoC g p np nc ne nw) (x y s : Int32) (hb : ¬ (¬ x < 0 ∧ x < nI ne) ∨ ¬ (¬ y < 0 ∧ y < nI nc) ∨ s < 1 ∨ 999 < s) : am_C PG (d + 2) 67 [.ref p, .ref a, .int x, .int y, .int s] (putS g a R) = some (some (.int 0), putS g a R) := by
  have k := c_isPerson (d := d) (hp.put (a := a) (R := R)) x
  have k2 := c_isClock (d := d) (hp.put (a := a) (R := R)) y
  obtain ⟨⟨⟨p0, pf1, pf2, pf3, pf4, pf5, pf6, pf7, pf8, pf9, pf10, pf11, pf12, pf13, pf14, pf17, pk1, pk2, pk3, pk4, pk5, pk6, pk7, pk8, pk9, pk10, pk11, pk12, pk13, pn1, pn2, pn3, pn4, pn5, pn6, pn7, pn8, pn9, pn10, pn11, pn12, pn13⟩, -, -⟩, -⟩ := hp
  rw [q_X5_pourWater]
  simp only [rd_hK_putS, rd_hFR_putS, rd_hLN_putS, rd_hFJ_putS, rd_hAJ_putS, rd_hAR_putS, rd_hNX_putS, pS_1, pS_2, pS_3, pS_4, pS_5, pS_6, pS_7, pS_8, pS_hr, pE_1, pE_2, pE_3, pE_4, pE_5, pE_6, pE_7, pE_8, putS_sFI, am_kd, p0, pf1, pf2, pf3, pf4, pf5, pf6, pf7, pf8, pf9, pf10, pf11, pf12, pf13, pf14, pf17, pk1, pk2, pk3, pk4, pk5, pk6, pk7, pk8, pk9, pk10, pk11, pk12, pk13, pn1, pn2, pn3, pn4, pn5, pn6, pn7, pn8, pn9, pn10, pn11, pn12, pn13, if_true, k, k2, bI_s, am_nar4_0]
  by_cases c1 : ¬ x < 0 ∧ x < nI ne
  · rw [b2i_t c1, if_neg (by decide)]
    by_cases c2 : ¬ y < 0 ∧ y < nI nc
    · rw [b2i_t c2, if_neg (by decide)]
      by_cases c3 : s < 1
      · rw [if_pos c3]
      · rw [if_neg c3, if_pos (((hb.resolve_left (fun z => z c1)).resolve_left (fun z => z c2)).resolve_left c3)]
    · rw [b2i_f c2, if_pos rfl]
  · rw [b2i_f c1, if_pos rfl]
def xpour (e c : Nat) (s : Int32) (R : SV) : SV := (R.1, upd R.2.1 c (R.2.1 c + s), R.2.2.1, R.2.2.2.1, R.2.2.2.2.1, upd R.2.2.2.2.2.1 e (R.2.2.2.2.2.1 e - s), R.2.2.2.2.2.2)
theorem c_pour_ok {d p np nc ne nw a e c : Nat} {g : AH} {R : SV} (hp : PoC g p np nc ne nw) (hs : StSh g a) (hd : Dj p a) (he : e < ne) (hc : c < nc) (s : Int32) (h1 : ¬ s < 1) (h2 : ¬ 999 < s) :
    am_C PG (d + 2) 67 [.ref p, .ref a, .int (nI e), .int (nI c), .int s] (putS g a R) = if R.2.2.2.2.1 e = hAI g (p + 5) c ∧ ¬ R.2.2.2.2.2.1 e < s ∧ ¬ hAI g (p + 6) c < R.2.1 c + s then some (some (.int 1), putS g a (xpour e c s R)) else some (some (.int 0), putS g a R) := by
  have k := c_isPerson (d := d) (hp.put (a := a) (R := R)) (nI e)
  have k2 := c_isClock (d := d) (hp.put (a := a) (R := R)) (nI c)
  have h4 : ne ≤ 4 := hp.2.2.2.2.2.2.2.1
  have h6 : nc ≤ 6 := hp.2.2.2.2.2.2.1
  rw [b2i_t (inN he (by omega))] at k
  rw [b2i_t (inN hc (by omega))] at k2
  obtain ⟨⟨⟨p0, pf1, pf2, pf3, pf4, pf5, pf6, pf7, pf8, pf9, pf10, pf11, pf12, pf13, pf14, pf17, pk1, pk2, pk3, pk4, pk5, pk6, pk7, pk8, pk9, pk10, pk11, pk12, pk13, pn1, pn2, pn3, pn4, pn5, pn6, pn7, pn8, pn9, pn10, pn11, pn12, pn13⟩, -, -⟩, -⟩ := hp
  obtain ⟨s0, sf1, sf2, sf3, sf4, sf5, sf6, sf7, sf8, sk1, sk2, sk3, sk4, sk5, sk6, sk7, sk8, sn1, sn2, sn3, sn4, sn5, sn6, sn7, sn8⟩ := hs
  unfold Dj at hd
  have w5 : ∀ R, hAI (putS g a R) (p + 5) = hAI g (p + 5) := fun R => pS_far g R (by omega)
  have w6 : ∀ R, hAI (putS g a R) (p + 6) = hAI g (p + 6) := fun R => pS_far g R (by omega)
  have e3 : ∀ x, am_in (nI e) 4 x = x := am_inN (by omega) (by decide)
  have e4 : Int32.toNatClampNeg (nI e) = e := nI_clamp (by omega)
  have q3 : ∀ x, am_in (nI c) 6 x = x := am_inN (by omega) (by decide)
  have q4 : Int32.toNatClampNeg (nI c) = c := nI_clamp (by omega)
  rw [q_X5_pourWater]
  simp only [rd_hK_putS, rd_hFR_putS, rd_hLN_putS, rd_hFJ_putS, rd_hAJ_putS, rd_hAR_putS, rd_hNX_putS, pS_1, pS_2, pS_3, pS_4, pS_5, pS_6, pS_7, pS_8, pS_hr, pE_1, pE_2, pE_3, pE_4, pE_5, pE_6, pE_7, pE_8, putS_sFI, am_kd, p0, pf1, pf2, pf3, pf4, pf5, pf6, pf7, pf8, pf9, pf10, pf11, pf12, pf13, pf14, pf17, pk1, pk2, pk3, pk4, pk5, pk6, pk7, pk8, pk9, pk10, pk11, pk12, pk13, pn1, pn2, pn3, pn4, pn5, pn6, pn7, pn8, pn9, pn10, pn11, pn12, pn13, s0, sf1, sf2, sf3, sf4, sf5, sf6, sf7, sf8, sk1, sk2, sk3, sk4, sk5, sk6, sk7, sk8, sn1, sn2, sn3, sn4, sn5, sn6, sn7, sn8, if_true, k, k2, bI_s, show ((1 : Int32) = 0) = False from eq_false (by decide), if_false, h1, h2, bR_s, e3, e4, w5, w6, q3, q4, am_nar4_0, am_nar4_1, am_let_e]
  by_cases c1 : R.2.2.2.2.1 e = hAI g (p + 5) c
  · by_cases c2 : R.2.2.2.2.2.1 e < s
    · simp only [c1, c2, if_true, not_true, false_and, and_false, if_false]
    · by_cases c3 : hAI g (p + 6) c < R.2.1 c + s
      · simp only [c1, c2, c3, if_true, if_false, not_true, and_false]
      · simp only [c1, c2, c3, if_true, if_false, not_false_iff, and_self]
        rfl
  · simp only [c1, if_false, false_and]
theorem c_rob_no {d p np nc ne nw a : Nat} {g : AH} {R : SV} (hp : PoC g p np nc ne nw) (y s : Int32) (hb : ¬ (¬ y < 0 ∧ y < nI nc) ∨ s < 1 ∨ 999 < s) : am_C PG (d + 2) 69 [.ref p, .ref a, .int y, .int s] (putS g a R) = some (some (.int 0), putS g a R) := by
  have k2 := c_isClock (d := d) (hp.put (a := a) (R := R)) y
  obtain ⟨⟨⟨p0, pf1, pf2, pf3, pf4, pf5, pf6, pf7, pf8, pf9, pf10, pf11, pf12, pf13, pf14, pf17, pk1, pk2, pk3, pk4, pk5, pk6, pk7, pk8, pk9, pk10, pk11, pk12, pk13, pn1, pn2, pn3, pn4, pn5, pn6, pn7, pn8, pn9, pn10, pn11, pn12, pn13⟩, -, -⟩, -⟩ := hp
  rw [q_X5_robClock]
  simp only [rd_hK_putS, rd_hFR_putS, rd_hLN_putS, rd_hFJ_putS, rd_hAJ_putS, rd_hAR_putS, rd_hNX_putS, pS_1, pS_2, pS_3, pS_4, pS_5, pS_6, pS_7, pS_8, pS_hr, pE_1, pE_2, pE_3, pE_4, pE_5, pE_6, pE_7, pE_8, putS_sFI, am_kd, p0, pf1, pf2, pf3, pf4, pf5, pf6, pf7, pf8, pf9, pf10, pf11, pf12, pf13, pf14, pf17, pk1, pk2, pk3, pk4, pk5, pk6, pk7, pk8, pk9, pk10, pk11, pk12, pk13, pn1, pn2, pn3, pn4, pn5, pn6, pn7, pn8, pn9, pn10, pn11, pn12, pn13, if_true, k2, bI_s, am_nar4_0]
  by_cases c2 : ¬ y < 0 ∧ y < nI nc
  · rw [b2i_t c2, if_neg (by decide)]
    by_cases c3 : s < 1
    · rw [if_pos c3]
    · rw [if_neg c3, if_pos ((hb.resolve_left (fun z => z c2)).resolve_left c3)]
  · rw [b2i_f c2, if_pos rfl]
def xrob (c : Nat) (s : Int32) (R : SV) : SV := (R.1, upd R.2.1 c (R.2.1 c - s), R.2.2)
theorem c_rob_ok {d p np nc ne nw a c : Nat} {g : AH} {R : SV} (hp : PoC g p np nc ne nw) (hs : StSh g a) (hc : c < nc) (s : Int32) (h1 : ¬ s < 1) (h2 : ¬ 999 < s) :
    am_C PG (d + 2) 69 [.ref p, .ref a, .int (nI c), .int s] (putS g a R) = if R.2.1 c < s then some (some (.int 0), putS g a R) else some (some (.int 1), putS g a (xrob c s R)) := by
  have k2 := c_isClock (d := d) (hp.put (a := a) (R := R)) (nI c)
  have h6 : nc ≤ 6 := hp.2.2.2.2.2.2.1
  rw [b2i_t (inN hc (by omega))] at k2
  obtain ⟨⟨⟨p0, pf1, pf2, pf3, pf4, pf5, pf6, pf7, pf8, pf9, pf10, pf11, pf12, pf13, pf14, pf17, pk1, pk2, pk3, pk4, pk5, pk6, pk7, pk8, pk9, pk10, pk11, pk12, pk13, pn1, pn2, pn3, pn4, pn5, pn6, pn7, pn8, pn9, pn10, pn11, pn12, pn13⟩, -, -⟩, -⟩ := hp
  obtain ⟨s0, sf1, sf2, sf3, sf4, sf5, sf6, sf7, sf8, sk1, sk2, sk3, sk4, sk5, sk6, sk7, sk8, sn1, sn2, sn3, sn4, sn5, sn6, sn7, sn8⟩ := hs
  have q3 : ∀ x, am_in (nI c) 6 x = x := am_inN (by omega) (by decide)
  have q4 : Int32.toNatClampNeg (nI c) = c := nI_clamp (by omega)
  rw [q_X5_robClock]
  simp only [rd_hK_putS, rd_hFR_putS, rd_hLN_putS, rd_hFJ_putS, rd_hAJ_putS, rd_hAR_putS, rd_hNX_putS, pS_1, pS_2, pS_3, pS_4, pS_5, pS_6, pS_7, pS_8, pS_hr, pE_1, pE_2, pE_3, pE_4, pE_5, pE_6, pE_7, pE_8, putS_sFI, am_kd, p0, pf1, pf2, pf3, pf4, pf5, pf6, pf7, pf8, pf9, pf10, pf11, pf12, pf13, pf14, pf17, pk1, pk2, pk3, pk4, pk5, pk6, pk7, pk8, pk9, pk10, pk11, pk12, pk13, pn1, pn2, pn3, pn4, pn5, pn6, pn7, pn8, pn9, pn10, pn11, pn12, pn13, s0, sf1, sf2, sf3, sf4, sf5, sf6, sf7, sf8, sk1, sk2, sk3, sk4, sk5, sk6, sk7, sk8, sn1, sn2, sn3, sn4, sn5, sn6, sn7, sn8, if_true, k2, bI_s, show ((1 : Int32) = 0) = False from eq_false (by decide), if_false, h1, h2, bR_s, q3, q4, am_nar4_0, am_nar4_1, am_let_e]
  by_cases c2 : R.2.1 c < s
  · simp only [c2, if_true]
  · simp only [c2, if_false]
    rfl
theorem c_walk_no {d p np nc ne nw a : Nat} {g : AH} {R : SV} (hp : PoC g p np nc ne nw) (x y : Int32) (hb : ¬ (¬ x < 0 ∧ x < nI ne) ∨ ¬ (¬ y < 0 ∧ y < nI np)) : am_C PG (d + 2) 68 [.ref p, .ref a, .int x, .int y] (putS g a R) = some (some (.int 0), putS g a R) := by
  have k := c_isPerson (d := d) (hp.put (a := a) (R := R)) x
  have k2 := c_isPlace (d := d) (hp.put (a := a) (R := R)) y
  obtain ⟨⟨⟨p0, pf1, pf2, pf3, pf4, pf5, pf6, pf7, pf8, pf9, pf10, pf11, pf12, pf13, pf14, pf17, pk1, pk2, pk3, pk4, pk5, pk6, pk7, pk8, pk9, pk10, pk11, pk12, pk13, pn1, pn2, pn3, pn4, pn5, pn6, pn7, pn8, pn9, pn10, pn11, pn12, pn13⟩, -, -⟩, -⟩ := hp
  rw [q_X5_walk]
  simp only [rd_hK_putS, rd_hFR_putS, rd_hLN_putS, rd_hFJ_putS, rd_hAJ_putS, rd_hAR_putS, rd_hNX_putS, pS_1, pS_2, pS_3, pS_4, pS_5, pS_6, pS_7, pS_8, pS_hr, pE_1, pE_2, pE_3, pE_4, pE_5, pE_6, pE_7, pE_8, putS_sFI, am_kd, p0, pf1, pf2, pf3, pf4, pf5, pf6, pf7, pf8, pf9, pf10, pf11, pf12, pf13, pf14, pf17, pk1, pk2, pk3, pk4, pk5, pk6, pk7, pk8, pk9, pk10, pk11, pk12, pk13, pn1, pn2, pn3, pn4, pn5, pn6, pn7, pn8, pn9, pn10, pn11, pn12, pn13, if_true, k, k2, bI_s, am_nar4_0]
  by_cases c1 : ¬ x < 0 ∧ x < nI ne
  · rw [b2i_t c1, if_neg (by decide), b2i_f (hb.resolve_left (fun z => z c1)), if_pos rfl]
  · rw [b2i_f c1, if_pos rfl]
def xgo (e : Nat) (y : Int32) (R : SV) : SV := (R.1, R.2.1, R.2.2.1, R.2.2.2.1, upd R.2.2.2.2.1 e y, R.2.2.2.2.2)
theorem xhour_P {W : Int32 → Int32 → Int32 → Int32 → Int32} {P P' : Nat → Nat → Int32} {nc ne nw hr : Nat} {R : SV} (er : ∀ k, k ≠ 16 → P k = P' k) : xhour W P nc ne nw hr R = xhour W P' nc ne nw hr R := by
  unfold xhour
  rw [er 4 (by decide), er 6 (by decide), er 7 (by decide), er 13 (by decide), er 8 (by decide), er 9 (by decide), er 10 (by decide), er 11 (by decide)]
theorem c_walk0 {d p np nc ne nw len hr a n : Nat} {W : Int32 → Int32 → Int32 → Int32 → Int32} {g : AH} {R : SV} {x y : Int32} (hp : PoC g p np nc ne nw) (hl : PoL g p len W) (ht : PoT g p nw) (hs : StSh g a) (hd : Dj p a) (hh : hr + n < 2 ^ 31) (hR : R.1 = nI hr) : ∀ i, i ≤ n →
    ∃ f, am_R PG (d + 5) 68 48 [some (.ref p), some (.ref a), some (.int x), some (.int y), some (.int (nI n)), some (.int 0)] [] (putS g a R) = am_R PG (d + 5) 68 48 [some (.ref p), some (.ref a), some (.int x), some (.int y), some (.int (nI n)), some (.int (nI i))] [] (putS (sAI g (p + 16) f) a (xhours W (rowsP g p) nc ne nw hr i R))
  | 0, _ => ⟨hAI g (p + 16), by rw [sAI_self]; rfl⟩
  | i + 1, hi => by
    obtain ⟨f, k1⟩ := c_walk0 (d := d) (x := x) (y := y) hp hl ht hs hd hh hR i (by omega)
    have hd' := hd
    unfold Dj at hd'
    have hs' := hs.to (rd_hK_sAI g (p + 16) f) (rd_hFR_sAI g (p + 16) f) (rd_hLN_sAI g (p + 16) f)
    have ht' : PoT (sAI g (p + 16) f) p nw := fun w hw => by rw [sAI_ne _ _ (by omega)]; exact ht w hw
    obtain ⟨f2, k2⟩ := c_hour (d := d) (hp.scr (b := p + 16) (f := f)) (hl.scr (b := p + 16) (f := f) (by omega)) ht' hs' hd (show hr + i < 2 ^ 31 by omega) (xhours_1 W (rowsP g p) nc ne nw hr R hR i)
    rw [sAI_sAI, xhour_P (P := rowsP (sAI g (p + 16) f) p) (P' := rowsP g p) (fun k hk => sAI_ne _ _ (by omega))] at k2
    refine ⟨f2, ?_⟩
    rw [k1, q_X5_walk_48]
    obtain ⟨⟨⟨p0, pf1, pf2, pf3, pf4, pf5, pf6, pf7, pf8, pf9, pf10, pf11, pf12, pf13, pf14, pf17, pk1, pk2, pk3, pk4, pk5, pk6, pk7, pk8, pk9, pk10, pk11, pk12, pk13, pn1, pn2, pn3, pn4, pn5, pn6, pn7, pn8, pn9, pn10, pn11, pn12, pn13⟩, -, -⟩, h1, h2, h3, h4, h5, h6, h7, h8⟩ := hp
    have e5 : (nI i < nI n) = True := eq_true (nI_lt (by omega) (by omega))
    simp only [rd_hK_putS, rd_hFR_putS, rd_hLN_putS, rd_hFJ_putS, rd_hAJ_putS, rd_hAR_putS, rd_hNX_putS, pS_1, pS_2, pS_3, pS_4, pS_5, pS_6, pS_7, pS_8, pS_hr, pE_1, pE_2, pE_3, pE_4, pE_5, pE_6, pE_7, pE_8, putS_sFI, am_kd, p0, pf1, pf2, pf3, pf4, pf5, pf6, pf7, pf8, pf9, pf10, pf11, pf12, pf13, pf14, pf17, pk1, pk2, pk3, pk4, pk5, pk6, pk7, pk8, pk9, pk10, pk11, pk12, pk13, pn1, pn2, pn3, pn4, pn5, pn6, pn7, pn8, pn9, pn10, pn11, pn12, pn13, rd_hK_sAI, if_true, e5, k2, bV_s, nI_1]
    rfl
theorem c_walk_ok {d p np nc ne nw len hr a e t q m : Nat} {W : Int32 → Int32 → Int32 → Int32 → Int32} {g : AH} {R : SV} (hp : PoC g p np nc ne nw) (hl : PoL g p len W) (ht : PoT g p nw) (hs : StSh g a) (hd : Dj p a) (hh : hr + m < 2 ^ 31) (hR : R.1 = nI hr) (he : e < ne) (htn : t < np) (hq : q < 5) (hw : R.2.2.2.2.1 e = nI q) (hm : hAI g (p + 2) (5 * q + t) = nI m) :
    (m = 0 → am_C PG (d + 5) 68 [.ref p, .ref a, .int (nI e), .int (nI t)] (putS g a R) = some (some (.int 0), putS g a R)) ∧
    (0 < m → ∃ f, am_C PG (d + 5) 68 [.ref p, .ref a, .int (nI e), .int (nI t)] (putS g a R) = some (some (.int 1), putS (sAI g (p + 16) f) a (xgo e (nI t) (xhours W (rowsP g p) nc ne nw hr m R)))) := by
  have k := c_isPerson (d := d + 3) (hp.put (a := a) (R := R)) (nI e)
  have k2 := c_isPlace (d := d + 3) (hp.put (a := a) (R := R)) (nI t)
  have h4 : ne ≤ 4 := hp.2.2.2.2.2.2.2.1
  have h5 : np ≤ 5 := hp.2.2.2.2.2.1
  rw [b2i_t (inN he (by omega))] at k
  rw [b2i_t (inN htn (by omega))] at k2
  have k3 := c_step (d := d + 3) (hp.put (a := a) (R := R)) hq (show t < 5 by omega)
  have hd' := hd
  unfold Dj at hd'
  rw [pS_far _ _ (by omega), hm] at k3
  have hp0 := hp
  have hs0 := hs
  obtain ⟨⟨⟨p0, pf1, pf2, pf3, pf4, pf5, pf6, pf7, pf8, pf9, pf10, pf11, pf12, pf13, pf14, pf17, pk1, pk2, pk3, pk4, pk5, pk6, pk7, pk8, pk9, pk10, pk11, pk12, pk13, pn1, pn2, pn3, pn4, pn5, pn6, pn7, pn8, pn9, pn10, pn11, pn12, pn13⟩, -, -⟩, -⟩ := hp
  obtain ⟨s0, sf1, sf2, sf3, sf4, sf5, sf6, sf7, sf8, sk1, sk2, sk3, sk4, sk5, sk6, sk7, sk8, sn1, sn2, sn3, sn4, sn5, sn6, sn7, sn8⟩ := hs
  have e3 : ∀ x, am_in (nI e) 4 x = x := am_inN (by omega) (by decide)
  have e4 : Int32.toNatClampNeg (nI e) = e := nI_clamp (by omega)
  refine ⟨fun h0 => ?_, fun h0 => ?_⟩
  · subst h0
    rw [q_X5_walk]
    simp only [rd_hK_putS, rd_hFR_putS, rd_hLN_putS, rd_hFJ_putS, rd_hAJ_putS, rd_hAR_putS, rd_hNX_putS, pS_1, pS_2, pS_3, pS_4, pS_5, pS_6, pS_7, pS_8, pS_hr, pE_1, pE_2, pE_3, pE_4, pE_5, pE_6, pE_7, pE_8, putS_sFI, am_kd, p0, pf1, pf2, pf3, pf4, pf5, pf6, pf7, pf8, pf9, pf10, pf11, pf12, pf13, pf14, pf17, pk1, pk2, pk3, pk4, pk5, pk6, pk7, pk8, pk9, pk10, pk11, pk12, pk13, pn1, pn2, pn3, pn4, pn5, pn6, pn7, pn8, pn9, pn10, pn11, pn12, pn13, s0, sf1, sf2, sf3, sf4, sf5, sf6, sf7, sf8, sk1, sk2, sk3, sk4, sk5, sk6, sk7, sk8, sn1, sn2, sn3, sn4, sn5, sn6, sn7, sn8, if_true, k, k2, bI_s, show ((1 : Int32) = 0) = False from eq_false (by decide), if_false, bR_s, e3, e4, hw, k3, show (nI 0 = 0) = True from eq_true rfl, am_nar4_0]
  · obtain ⟨f, k4⟩ := c_walk0 (d := d) (x := nI e) (y := nI t) hp0 hl ht hs0 hd hh hR m (Nat.le_refl _)
    refine ⟨f, ?_⟩
    have z : (nI m = 0) = False := eq_false (nI_ne0 h0 (by omega))
    rw [q_X5_walk]
    simp only [rd_hK_putS, rd_hFR_putS, rd_hLN_putS, rd_hFJ_putS, rd_hAJ_putS, rd_hAR_putS, rd_hNX_putS, pS_1, pS_2, pS_3, pS_4, pS_5, pS_6, pS_7, pS_8, pS_hr, pE_1, pE_2, pE_3, pE_4, pE_5, pE_6, pE_7, pE_8, putS_sFI, am_kd, p0, pf1, pf2, pf3, pf4, pf5, pf6, pf7, pf8, pf9, pf10, pf11, pf12, pf13, pf14, pf17, pk1, pk2, pk3, pk4, pk5, pk6, pk7, pk8, pk9, pk10, pk11, pk12, pk13, pn1, pn2, pn3, pn4, pn5, pn6, pn7, pn8, pn9, pn10, pn11, pn12, pn13, s0, sf1, sf2, sf3, sf4, sf5, sf6, sf7, sf8, sk1, sk2, sk3, sk4, sk5, sk6, sk7, sk8, sn1, sn2, sn3, sn4, sn5, sn6, sn7, sn8, if_true, k, k2, bI_s, show ((1 : Int32) = 0) = False from eq_false (by decide), if_false, bR_s, e3, e4, hw, k3, z]
    rw [k4, q_X5_walk_48, if_neg (nI_nlt (Nat.le_refl _) (by omega))]
    simp only [rd_hK_putS, rd_hFR_putS, rd_hLN_putS, rd_hFJ_putS, rd_hAJ_putS, rd_hAR_putS, rd_hNX_putS, pS_1, pS_2, pS_3, pS_4, pS_5, pS_6, pS_7, pS_8, pS_hr, pE_1, pE_2, pE_3, pE_4, pE_5, pE_6, pE_7, pE_8, putS_sFI, am_kd, s0, sf1, sf2, sf3, sf4, sf5, sf6, sf7, sf8, sk1, sk2, sk3, sk4, sk5, sk6, sk7, sk8, sn1, sn2, sn3, sn4, sn5, sn6, sn7, sn8, rd_hK_sAI, rd_hFR_sAI, rd_hLN_sAI, if_true, bR_s, e3, e4, am_let_e, am_nar4_1]
    rfl
theorem c_inTime {d p np nc ne nw a : Nat} {h : AH} (hp : PoC h p np nc ne nw) (hs : StSh h a) : ∀ i, i ≤ nw → am_C PG (d + 1) 70 [.ref p, .ref a] h = am_R PG (d + 1) 70 4 [some (.ref p), some (.ref a), some (.int (sumN (fun w => if hAI h (a + 8) w = 1 then 1 else 0) i)), some (.int (nI i))] [] h
  | 0, _ => by rw [q_X5_worksInTime]; rfl
  | i + 1, hi => by
    rw [c_inTime hp hs i (by omega), q_X5_worksInTime_4]
    obtain ⟨⟨⟨p0, pf1, pf2, pf3, pf4, pf5, pf6, pf7, pf8, pf9, pf10, pf11, pf12, pf13, pf14, pf17, pk1, pk2, pk3, pk4, pk5, pk6, pk7, pk8, pk9, pk10, pk11, pk12, pk13, pn1, pn2, pn3, pn4, pn5, pn6, pn7, pn8, pn9, pn10, pn11, pn12, pn13⟩, -, -⟩, h1, h2, h3, h4, h5, h6, h7, h8⟩ := hp
    obtain ⟨s0, sf1, sf2, sf3, sf4, sf5, sf6, sf7, sf8, sk1, sk2, sk3, sk4, sk5, sk6, sk7, sk8, sn1, sn2, sn3, sn4, sn5, sn6, sn7, sn8⟩ := hs
    have e5 : (nI i < nI nw) = True := eq_true (nI_lt (by omega) (by omega))
    have e3 : ∀ x, am_in (nI i) 6 x = x := am_inN (by omega) (by decide)
    have e4 : Int32.toNatClampNeg (nI i) = i := nI_clamp (by omega)
    simp only [am_kd, p0, pf1, pf2, pf3, pf4, pf5, pf6, pf7, pf8, pf9, pf10, pf11, pf12, pf13, pf14, pf17, pk1, pk2, pk3, pk4, pk5, pk6, pk7, pk8, pk9, pk10, pk11, pk12, pk13, pn1, pn2, pn3, pn4, pn5, pn6, pn7, pn8, pn9, pn10, pn11, pn12, pn13, s0, sf1, sf2, sf3, sf4, sf5, sf6, sf7, sf8, sk1, sk2, sk3, sk4, sk5, sk6, sk7, sk8, sn1, sn2, sn3, sn4, sn5, sn6, sn7, sn8, if_true, h4, e5, bR_s, e3, e4, nI_1, sumN]
    by_cases c : hAI h (a + 8) i = 1
    · simp only [c, if_true]
    · simp only [c, if_false]
theorem c_wit {d p np nc ne nw a : Nat} {h : AH} (hp : PoC h p np nc ne nw) (hs : StSh h a) : am_C PG (d + 1) 70 [.ref p, .ref a] h = some (some (.int (sumN (fun w => if hAI h (a + 8) w = 1 then 1 else 0) nw)), h) := by
  rw [c_inTime hp hs nw (Nat.le_refl _), q_X5_worksInTime_4]
  obtain ⟨⟨⟨p0, pf1, pf2, pf3, pf4, pf5, pf6, pf7, pf8, pf9, pf10, pf11, pf12, pf13, pf14, pf17, pk1, pk2, pk3, pk4, pk5, pk6, pk7, pk8, pk9, pk10, pk11, pk12, pk13, pn1, pn2, pn3, pn4, pn5, pn6, pn7, pn8, pn9, pn10, pn11, pn12, pn13⟩, -, -⟩, h1, h2, h3, h4, h5, h6, h7, h8⟩ := hp
  have e5 : (nI nw < nI nw) = False := eq_false (nI_nlt (Nat.le_refl _) (by omega))
  simp only [am_kd, p0, pf1, pf2, pf3, pf4, pf5, pf6, pf7, pf8, pf9, pf10, pf11, pf12, pf13, pf14, pf17, pk1, pk2, pk3, pk4, pk5, pk6, pk7, pk8, pk9, pk10, pk11, pk12, pk13, pn1, pn2, pn3, pn4, pn5, pn6, pn7, pn8, pn9, pn10, pn11, pn12, pn13, if_true, if_false, h4, e5]
theorem c_paid0 {d p np nc ne nw a : Nat} {h : AH} (hp : PoC h p np nc ne nw) (hs : StSh h a) : ∀ i, i ≤ nw → am_C PG (d + 1) 71 [.ref p, .ref a] h = am_R PG (d + 1) 71 4 [some (.ref p), some (.ref a), some (.int (sumN (fun w => if hAI h (a + 8) w = 1 then hAI h (p + 12) w else 0) i)), some (.int (nI i))] [] h
  | 0, _ => by rw [q_X5_paid]; rfl
  | i + 1, hi => by
    rw [c_paid0 hp hs i (by omega), q_X5_paid_4]
    obtain ⟨⟨⟨p0, pf1, pf2, pf3, pf4, pf5, pf6, pf7, pf8, pf9, pf10, pf11, pf12, pf13, pf14, pf17, pk1, pk2, pk3, pk4, pk5, pk6, pk7, pk8, pk9, pk10, pk11, pk12, pk13, pn1, pn2, pn3, pn4, pn5, pn6, pn7, pn8, pn9, pn10, pn11, pn12, pn13⟩, -, -⟩, h1, h2, h3, h4, h5, h6, h7, h8⟩ := hp
    obtain ⟨s0, sf1, sf2, sf3, sf4, sf5, sf6, sf7, sf8, sk1, sk2, sk3, sk4, sk5, sk6, sk7, sk8, sn1, sn2, sn3, sn4, sn5, sn6, sn7, sn8⟩ := hs
    have e5 : (nI i < nI nw) = True := eq_true (nI_lt (by omega) (by omega))
    have e3 : ∀ x, am_in (nI i) 6 x = x := am_inN (by omega) (by decide)
    have e4 : Int32.toNatClampNeg (nI i) = i := nI_clamp (by omega)
    simp only [am_kd, p0, pf1, pf2, pf3, pf4, pf5, pf6, pf7, pf8, pf9, pf10, pf11, pf12, pf13, pf14, pf17, pk1, pk2, pk3, pk4, pk5, pk6, pk7, pk8, pk9, pk10, pk11, pk12, pk13, pn1, pn2, pn3, pn4, pn5, pn6, pn7, pn8, pn9, pn10, pn11, pn12, pn13, s0, sf1, sf2, sf3, sf4, sf5, sf6, sf7, sf8, sk1, sk2, sk3, sk4, sk5, sk6, sk7, sk8, sn1, sn2, sn3, sn4, sn5, sn6, sn7, sn8, if_true, h4, e5, bR_s, e3, e4, nI_1, sumN]
    by_cases c : hAI h (a + 8) i = 1
    · simp only [c, if_true]
    · simp only [c, if_false]
theorem c_paid {d p np nc ne nw a : Nat} {h : AH} (hp : PoC h p np nc ne nw) (hs : StSh h a) : am_C PG (d + 1) 71 [.ref p, .ref a] h = some (some (.int (sumN (fun w => if hAI h (a + 8) w = 1 then hAI h (p + 12) w else 0) nw)), h) := by
  rw [c_paid0 hp hs nw (Nat.le_refl _), q_X5_paid_4]
  obtain ⟨⟨⟨p0, pf1, pf2, pf3, pf4, pf5, pf6, pf7, pf8, pf9, pf10, pf11, pf12, pf13, pf14, pf17, pk1, pk2, pk3, pk4, pk5, pk6, pk7, pk8, pk9, pk10, pk11, pk12, pk13, pn1, pn2, pn3, pn4, pn5, pn6, pn7, pn8, pn9, pn10, pn11, pn12, pn13⟩, -, -⟩, h1, h2, h3, h4, h5, h6, h7, h8⟩ := hp
  have e5 : (nI nw < nI nw) = False := eq_false (nI_nlt (Nat.le_refl _) (by omega))
  simp only [am_kd, p0, pf1, pf2, pf3, pf4, pf5, pf6, pf7, pf8, pf9, pf10, pf11, pf12, pf13, pf14, pf17, pk1, pk2, pk3, pk4, pk5, pk6, pk7, pk8, pk9, pk10, pk11, pk12, pk13, pn1, pn2, pn3, pn4, pn5, pn6, pn7, pn8, pn9, pn10, pn11, pn12, pn13, if_true, if_false, h4, e5]
theorem c_bad0 {d p np nc ne nw a : Nat} {h : AH} (hp : PoC h p np nc ne nw) (hs : StSh h a) : ∀ i, i ≤ nw → am_C PG (d + 1) 72 [.ref p, .ref a] h = am_R PG (d + 1) 72 4 [some (.ref p), some (.ref a), some (.int (bitN (fun w => decide (hAI h (a + 8) w = 2 ∨ hAI h (a + 8) w = 3)) i)), some (.int (nI i))] [] h
  | 0, _ => by rw [q_X5_badWorks]; rfl
  | i + 1, hi => by
    rw [c_bad0 hp hs i (by omega), q_X5_badWorks_4]
    obtain ⟨⟨⟨p0, pf1, pf2, pf3, pf4, pf5, pf6, pf7, pf8, pf9, pf10, pf11, pf12, pf13, pf14, pf17, pk1, pk2, pk3, pk4, pk5, pk6, pk7, pk8, pk9, pk10, pk11, pk12, pk13, pn1, pn2, pn3, pn4, pn5, pn6, pn7, pn8, pn9, pn10, pn11, pn12, pn13⟩, -, -⟩, h1, h2, h3, h4, h5, h6, h7, h8⟩ := hp
    obtain ⟨s0, sf1, sf2, sf3, sf4, sf5, sf6, sf7, sf8, sk1, sk2, sk3, sk4, sk5, sk6, sk7, sk8, sn1, sn2, sn3, sn4, sn5, sn6, sn7, sn8⟩ := hs
    have e5 : (nI i < nI nw) = True := eq_true (nI_lt (by omega) (by omega))
    have e3 : ∀ x, am_in (nI i) 6 x = x := am_inN (by omega) (by decide)
    have e4 : Int32.toNatClampNeg (nI i) = i := nI_clamp (by omega)
    simp only [am_kd, p0, pf1, pf2, pf3, pf4, pf5, pf6, pf7, pf8, pf9, pf10, pf11, pf12, pf13, pf14, pf17, pk1, pk2, pk3, pk4, pk5, pk6, pk7, pk8, pk9, pk10, pk11, pk12, pk13, pn1, pn2, pn3, pn4, pn5, pn6, pn7, pn8, pn9, pn10, pn11, pn12, pn13, s0, sf1, sf2, sf3, sf4, sf5, sf6, sf7, sf8, sk1, sk2, sk3, sk4, sk5, sk6, sk7, sk8, sn1, sn2, sn3, sn4, sn5, sn6, sn7, sn8, if_true, h4, e5, bR_s, e3, e4, nI_1, bitN]
    by_cases c : hAI h (a + 8) i = 2
    · simp only [c, if_true, true_or, decide_true]
    · by_cases c2 : hAI h (a + 8) i = 3
      · simp only [c2, show ((3 : Int32) = 2) = False from eq_false (by decide), if_true, if_false, or_true, decide_true]
      · simp only [c, c2, if_false, or_self, decide_false, Bool.false_eq_true]
theorem c_bad {d p np nc ne nw a : Nat} {h : AH} (hp : PoC h p np nc ne nw) (hs : StSh h a) : am_C PG (d + 1) 72 [.ref p, .ref a] h = some (some (.int (bitN (fun w => decide (hAI h (a + 8) w = 2 ∨ hAI h (a + 8) w = 3)) nw)), h) := by
  rw [c_bad0 hp hs nw (Nat.le_refl _), q_X5_badWorks_4]
  obtain ⟨⟨⟨p0, pf1, pf2, pf3, pf4, pf5, pf6, pf7, pf8, pf9, pf10, pf11, pf12, pf13, pf14, pf17, pk1, pk2, pk3, pk4, pk5, pk6, pk7, pk8, pk9, pk10, pk11, pk12, pk13, pn1, pn2, pn3, pn4, pn5, pn6, pn7, pn8, pn9, pn10, pn11, pn12, pn13⟩, -, -⟩, h1, h2, h3, h4, h5, h6, h7, h8⟩ := hp
  have e5 : (nI nw < nI nw) = False := eq_false (nI_nlt (Nat.le_refl _) (by omega))
  simp only [am_kd, p0, pf1, pf2, pf3, pf4, pf5, pf6, pf7, pf8, pf9, pf10, pf11, pf12, pf13, pf14, pf17, pk1, pk2, pk3, pk4, pk5, pk6, pk7, pk8, pk9, pk10, pk11, pk12, pk13, pn1, pn2, pn3, pn4, pn5, pn6, pn7, pn8, pn9, pn10, pn11, pn12, pn13, if_true, if_false, h4, e5]
theorem c_dry0 {d p np nc ne nw a : Nat} {h : AH} (hp : PoC h p np nc ne nw) (hs : StSh h a) : ∀ i, i ≤ ne → am_C PG (d + 1) 73 [.ref p, .ref a] h = am_R PG (d + 1) 73 4 [some (.ref p), some (.ref a), some (.int (sumN (hAI h (a + 6)) i)), some (.int (nI i))] [] h
  | 0, _ => by rw [q_X5_dryHours]; rfl
  | i + 1, hi => by
    rw [c_dry0 hp hs i (by omega), q_X5_dryHours_4]
    obtain ⟨⟨⟨p0, pf1, pf2, pf3, pf4, pf5, pf6, pf7, pf8, pf9, pf10, pf11, pf12, pf13, pf14, pf17, pk1, pk2, pk3, pk4, pk5, pk6, pk7, pk8, pk9, pk10, pk11, pk12, pk13, pn1, pn2, pn3, pn4, pn5, pn6, pn7, pn8, pn9, pn10, pn11, pn12, pn13⟩, -, -⟩, h1, h2, h3, h4, h5, h6, h7, h8⟩ := hp
    obtain ⟨s0, sf1, sf2, sf3, sf4, sf5, sf6, sf7, sf8, sk1, sk2, sk3, sk4, sk5, sk6, sk7, sk8, sn1, sn2, sn3, sn4, sn5, sn6, sn7, sn8⟩ := hs
    have e5 : (nI i < nI ne) = True := eq_true (nI_lt (by omega) (by omega))
    have e3 : ∀ x, am_in (nI i) 4 x = x := am_inN (by omega) (by decide)
    have e4 : Int32.toNatClampNeg (nI i) = i := nI_clamp (by omega)
    simp only [am_kd, p0, pf1, pf2, pf3, pf4, pf5, pf6, pf7, pf8, pf9, pf10, pf11, pf12, pf13, pf14, pf17, pk1, pk2, pk3, pk4, pk5, pk6, pk7, pk8, pk9, pk10, pk11, pk12, pk13, pn1, pn2, pn3, pn4, pn5, pn6, pn7, pn8, pn9, pn10, pn11, pn12, pn13, s0, sf1, sf2, sf3, sf4, sf5, sf6, sf7, sf8, sk1, sk2, sk3, sk4, sk5, sk6, sk7, sk8, sn1, sn2, sn3, sn4, sn5, sn6, sn7, sn8, if_true, h3, e5, bR_s, e3, e4, nI_1, sumN]
theorem c_dry {d p np nc ne nw a : Nat} {h : AH} (hp : PoC h p np nc ne nw) (hs : StSh h a) : am_C PG (d + 1) 73 [.ref p, .ref a] h = some (some (.int (sumN (hAI h (a + 6)) ne)), h) := by
  rw [c_dry0 hp hs ne (Nat.le_refl _), q_X5_dryHours_4]
  obtain ⟨⟨⟨p0, pf1, pf2, pf3, pf4, pf5, pf6, pf7, pf8, pf9, pf10, pf11, pf12, pf13, pf14, pf17, pk1, pk2, pk3, pk4, pk5, pk6, pk7, pk8, pk9, pk10, pk11, pk12, pk13, pn1, pn2, pn3, pn4, pn5, pn6, pn7, pn8, pn9, pn10, pn11, pn12, pn13⟩, -, -⟩, h1, h2, h3, h4, h5, h6, h7, h8⟩ := hp
  have e5 : (nI ne < nI ne) = False := eq_false (nI_nlt (Nat.le_refl _) (by omega))
  simp only [am_kd, p0, pf1, pf2, pf3, pf4, pf5, pf6, pf7, pf8, pf9, pf10, pf11, pf12, pf13, pf14, pf17, pk1, pk2, pk3, pk4, pk5, pk6, pk7, pk8, pk9, pk10, pk11, pk12, pk13, pn1, pn2, pn3, pn4, pn5, pn6, pn7, pn8, pn9, pn10, pn11, pn12, pn13, if_true, if_false, h3, e5]
/-- a sum that goes on -/
def sumF (f : Nat → Int32) (s : Int32) : Nat → Int32
  | 0 => s
  | n + 1 => sumF f s n + f n
theorem sumF_eq (f : Nat → Int32) (s : Int32) : ∀ n, sumF f s n = s + sumN f n
  | 0 => (add0 s).symm
  | n + 1 => by
    unfold sumF sumN
    rw [sumF_eq f s n, Int32.add_assoc]
theorem c_sips {d p np nc ne nw a : Nat} {h : AH} (hp : PoC h p np nc ne nw) (hs : StSh h a) : am_C PG (d + 1) 74 [.ref p, .ref a] h = some (some (.int (sumF (hAI h (a + 5)) (sumF (hAI h (a + 1)) (sumF (hAI h (a + 7)) 0 np) nc) ne)), h) := by
  obtain ⟨⟨⟨p0, pf1, pf2, pf3, pf4, pf5, pf6, pf7, pf8, pf9, pf10, pf11, pf12, pf13, pf14, pf17, pk1, pk2, pk3, pk4, pk5, pk6, pk7, pk8, pk9, pk10, pk11, pk12, pk13, pn1, pn2, pn3, pn4, pn5, pn6, pn7, pn8, pn9, pn10, pn11, pn12, pn13⟩, -, -⟩, h1, h2, h3, h4, h5, h6, h7, h8⟩ := hp
  obtain ⟨s0, sf1, sf2, sf3, sf4, sf5, sf6, sf7, sf8, sk1, sk2, sk3, sk4, sk5, sk6, sk7, sk8, sn1, sn2, sn3, sn4, sn5, sn6, sn7, sn8⟩ := hs
  have l1 : ∀ i, i ≤ np → am_C PG (d + 1) 74 [.ref p, .ref a] h = am_R PG (d + 1) 74 4 [some (.ref p), some (.ref a), some (.int (sumF (hAI h (a + 7)) 0 i)), some (.int (nI i))] [] h := by
    intro i
    induction i with
    | zero => intro _; rw [q_X5_sipsInAll]; rfl
    | succ i ih =>
      intro hi
      have e5 : (nI i < nI np) = True := eq_true (nI_lt (by omega) (by omega))
      have e3 : ∀ x, am_in (nI i) 5 x = x := am_inN (by omega) (by decide)
      have e4 : Int32.toNatClampNeg (nI i) = i := nI_clamp (by omega)
      rw [ih (by omega), q_X5_sipsInAll_4]
      simp only [am_kd, p0, pf1, pf2, pf3, pf4, pf5, pf6, pf7, pf8, pf9, pf10, pf11, pf12, pf13, pf14, pf17, pk1, pk2, pk3, pk4, pk5, pk6, pk7, pk8, pk9, pk10, pk11, pk12, pk13, pn1, pn2, pn3, pn4, pn5, pn6, pn7, pn8, pn9, pn10, pn11, pn12, pn13, s0, sf1, sf2, sf3, sf4, sf5, sf6, sf7, sf8, sk1, sk2, sk3, sk4, sk5, sk6, sk7, sk8, sn1, sn2, sn3, sn4, sn5, sn6, sn7, sn8, if_true, h1, e5, bR_s, e3, e4, nI_1, sumF]
  have l2 : ∀ (s : Int32) (i : Nat), i ≤ nc → am_R PG (d + 1) 74 29 [some (.ref p), some (.ref a), some (.int s), some (.int 0)] [] h = am_R PG (d + 1) 74 29 [some (.ref p), some (.ref a), some (.int (sumF (hAI h (a + 1)) s i)), some (.int (nI i))] [] h := by
    intro s i
    induction i with
    | zero => intro _; rfl
    | succ i ih =>
      intro hi
      have e5 : (nI i < nI nc) = True := eq_true (nI_lt (by omega) (by omega))
      have e3 : ∀ x, am_in (nI i) 6 x = x := am_inN (by omega) (by decide)
      have e4 : Int32.toNatClampNeg (nI i) = i := nI_clamp (by omega)
      rw [ih (by omega), q_X5_sipsInAll_29]
      simp only [am_kd, p0, pf1, pf2, pf3, pf4, pf5, pf6, pf7, pf8, pf9, pf10, pf11, pf12, pf13, pf14, pf17, pk1, pk2, pk3, pk4, pk5, pk6, pk7, pk8, pk9, pk10, pk11, pk12, pk13, pn1, pn2, pn3, pn4, pn5, pn6, pn7, pn8, pn9, pn10, pn11, pn12, pn13, s0, sf1, sf2, sf3, sf4, sf5, sf6, sf7, sf8, sk1, sk2, sk3, sk4, sk5, sk6, sk7, sk8, sn1, sn2, sn3, sn4, sn5, sn6, sn7, sn8, if_true, h2, e5, bR_s, e3, e4, nI_1, sumF]
  have l3 : ∀ (s : Int32) (i : Nat), i ≤ ne → am_R PG (d + 1) 74 54 [some (.ref p), some (.ref a), some (.int s), some (.int 0)] [] h = am_R PG (d + 1) 74 54 [some (.ref p), some (.ref a), some (.int (sumF (hAI h (a + 5)) s i)), some (.int (nI i))] [] h := by
    intro s i
    induction i with
    | zero => intro _; rfl
    | succ i ih =>
      intro hi
      have e5 : (nI i < nI ne) = True := eq_true (nI_lt (by omega) (by omega))
      have e3 : ∀ x, am_in (nI i) 4 x = x := am_inN (by omega) (by decide)
      have e4 : Int32.toNatClampNeg (nI i) = i := nI_clamp (by omega)
      rw [ih (by omega), q_X5_sipsInAll_54]
      simp only [am_kd, p0, pf1, pf2, pf3, pf4, pf5, pf6, pf7, pf8, pf9, pf10, pf11, pf12, pf13, pf14, pf17, pk1, pk2, pk3, pk4, pk5, pk6, pk7, pk8, pk9, pk10, pk11, pk12, pk13, pn1, pn2, pn3, pn4, pn5, pn6, pn7, pn8, pn9, pn10, pn11, pn12, pn13, s0, sf1, sf2, sf3, sf4, sf5, sf6, sf7, sf8, sk1, sk2, sk3, sk4, sk5, sk6, sk7, sk8, sn1, sn2, sn3, sn4, sn5, sn6, sn7, sn8, if_true, h3, e5, bR_s, e3, e4, nI_1, sumF]
  have z1 : (nI np < nI np) = False := eq_false (nI_nlt (Nat.le_refl _) (by omega))
  have z2 : (nI nc < nI nc) = False := eq_false (nI_nlt (Nat.le_refl _) (by omega))
  have z3 : (nI ne < nI ne) = False := eq_false (nI_nlt (Nat.le_refl _) (by omega))
  rw [l1 np (Nat.le_refl _), q_X5_sipsInAll_4]
  simp only [am_kd, p0, pf1, pf2, pf3, pf4, pf5, pf6, pf7, pf8, pf9, pf10, pf11, pf12, pf13, pf14, pf17, pk1, pk2, pk3, pk4, pk5, pk6, pk7, pk8, pk9, pk10, pk11, pk12, pk13, pn1, pn2, pn3, pn4, pn5, pn6, pn7, pn8, pn9, pn10, pn11, pn12, pn13, if_true, if_false, h1, z1]
  rw [l2 _ nc (Nat.le_refl _), q_X5_sipsInAll_29]
  simp only [am_kd, p0, pf1, pf2, pf3, pf4, pf5, pf6, pf7, pf8, pf9, pf10, pf11, pf12, pf13, pf14, pf17, pk1, pk2, pk3, pk4, pk5, pk6, pk7, pk8, pk9, pk10, pk11, pk12, pk13, pn1, pn2, pn3, pn4, pn5, pn6, pn7, pn8, pn9, pn10, pn11, pn12, pn13, if_true, if_false, h2, z2]
  rw [l3 _ ne (Nat.le_refl _), q_X5_sipsInAll_54]
  simp only [am_kd, p0, pf1, pf2, pf3, pf4, pf5, pf6, pf7, pf8, pf9, pf10, pf11, pf12, pf13, pf14, pf17, pk1, pk2, pk3, pk4, pk5, pk6, pk7, pk8, pk9, pk10, pk11, pk12, pk13, pn1, pn2, pn3, pn4, pn5, pn6, pn7, pn8, pn9, pn10, pn11, pn12, pn13, if_true, if_false, h3, z3]
