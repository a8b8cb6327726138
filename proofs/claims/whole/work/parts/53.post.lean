/-! A Post's methods over a State. -/
def PoC (g : AH) (p np nc ne nw : Nat) : Prop := PoSh g p ∧ hFI g 501 p = nI np ∧ hFI g 503 p = nI nc ∧ hFI g 504 p = nI ne ∧ hFI g 505 p = nI nw ∧ np ≤ 5 ∧ nc ≤ 6 ∧ ne ≤ 4 ∧ nw ≤ 6
def PoL (g : AH) (p len : Nat) (W : Int32 → Int32 → Int32 → Int32 → Int32) : Prop := hFI g 401 (p + 14) = nI len ∧ len ≤ 1000 ∧ ∀ f b o k s, lwv (hAI g (p + 15)) len f b o k s = W b o k s
/-- a State's rows lie apart from a Post's -/
def Dj (p a : Nat) : Prop := a + 8 < p ∨ p + 16 < a
theorem PoC.put {g : AH} {p np nc ne nw a : Nat} {R : SV} (h : PoC g p np nc ne nw) : PoC (putS g a R) p np nc ne nw := by
  obtain ⟨h1, h2, h3, h4, h5, h6⟩ := h
  refine ⟨h1.to (rd_hK_putS _ _ _) (rd_hFR_putS _ _ _) (rd_hLN_putS _ _ _), ?_, ?_, ?_, ?_, h6⟩
  · rw [pS_fi _ _ (Or.inl (by decide))]; exact h2
  · rw [pS_fi _ _ (Or.inl (by decide))]; exact h3
  · rw [pS_fi _ _ (Or.inl (by decide))]; exact h4
  · rw [pS_fi _ _ (Or.inl (by decide))]; exact h5
theorem PoC.scr {g : AH} {p np nc ne nw b : Nat} {f : Nat → Int32} (h : PoC g p np nc ne nw) : PoC (sAI g b f) p np nc ne nw := by
  obtain ⟨h1, h2, h3, h4, h5, h6⟩ := h
  exact ⟨h1.to (rd_hK_sAI _ _ _) (rd_hFR_sAI _ _ _) (rd_hLN_sAI _ _ _), by rw [rd_hFI_sAI]; exact h2, by rw [rd_hFI_sAI]; exact h3, by rw [rd_hFI_sAI]; exact h4, by rw [rd_hFI_sAI]; exact h5, h6⟩
theorem PoL.put {g : AH} {p len a : Nat} {W : Int32 → Int32 → Int32 → Int32 → Int32} {R : SV} (hd : Dj p a) (h : PoL g p len W) : PoL (putS g a R) p len W := by
  unfold Dj at hd
  obtain ⟨h1, h2, h3⟩ := h
  exact ⟨by rw [pS_fi _ _ (Or.inl (by decide))]; exact h1, h2, by rw [pS_far _ _ (by omega)]; exact h3⟩
theorem PoL.scr {g : AH} {p len b : Nat} {W : Int32 → Int32 → Int32 → Int32 → Int32} {f : Nat → Int32} (hb : b ≠ p + 15) (h : PoL g p len W) : PoL (sAI g b f) p len W := by
  obtain ⟨h1, h2, h3⟩ := h
  exact ⟨by rw [rd_hFI_sAI]; exact h1, h2, by rw [sAI_ne _ _ (Ne.symm hb)]; exact h3⟩
def b2i (c : Prop) [Decidable c] : Int32 := if c then 1 else 0
theorem c_isPlace {d p np nc ne nw : Nat} {h : AH} (hp : PoC h p np nc ne nw) (x : Int32) : am_C PG (d + 1) 48 [.ref p, .int x] h = some (some (.int (b2i (¬ x < 0 ∧ x < nI np))), h) := by
  obtain ⟨⟨⟨p0, pf1, pf2, pf3, pf4, pf5, pf6, pf7, pf8, pf9, pf10, pf11, pf12, pf13, pf14, pf17, pk1, pk2, pk3, pk4, pk5, pk6, pk7, pk8, pk9, pk10, pk11, pk12, pk13, pn1, pn2, pn3, pn4, pn5, pn6, pn7, pn8, pn9, pn10, pn11, pn12, pn13⟩, -, -⟩, h1, h2, h3, h4, -⟩ := hp
  rw [q_X5_isPlace]
  simp only [am_kd, p0, if_true, h1, am_nar4_0, am_nar4_1, b2i]
  by_cases c1 : x < 0
  · simp [c1]
  · by_cases c2 : x < nI np
    · simp [c1, c2]
    · simp [c1, c2]
theorem c_isClock {d p np nc ne nw : Nat} {h : AH} (hp : PoC h p np nc ne nw) (x : Int32) : am_C PG (d + 1) 49 [.ref p, .int x] h = some (some (.int (b2i (¬ x < 0 ∧ x < nI nc))), h) := by
  obtain ⟨⟨⟨p0, pf1, pf2, pf3, pf4, pf5, pf6, pf7, pf8, pf9, pf10, pf11, pf12, pf13, pf14, pf17, pk1, pk2, pk3, pk4, pk5, pk6, pk7, pk8, pk9, pk10, pk11, pk12, pk13, pn1, pn2, pn3, pn4, pn5, pn6, pn7, pn8, pn9, pn10, pn11, pn12, pn13⟩, -, -⟩, h1, h2, h3, h4, -⟩ := hp
  rw [q_X5_isClock]
  simp only [am_kd, p0, if_true, h2, am_nar4_0, am_nar4_1, b2i]
  by_cases c1 : x < 0
  · simp [c1]
  · by_cases c2 : x < nI nc
    · simp [c1, c2]
    · simp [c1, c2]
theorem c_isPerson {d p np nc ne nw : Nat} {h : AH} (hp : PoC h p np nc ne nw) (x : Int32) : am_C PG (d + 1) 50 [.ref p, .int x] h = some (some (.int (b2i (¬ x < 0 ∧ x < nI ne))), h) := by
  obtain ⟨⟨⟨p0, pf1, pf2, pf3, pf4, pf5, pf6, pf7, pf8, pf9, pf10, pf11, pf12, pf13, pf14, pf17, pk1, pk2, pk3, pk4, pk5, pk6, pk7, pk8, pk9, pk10, pk11, pk12, pk13, pn1, pn2, pn3, pn4, pn5, pn6, pn7, pn8, pn9, pn10, pn11, pn12, pn13⟩, -, -⟩, h1, h2, h3, h4, -⟩ := hp
  rw [q_X5_isPerson]
  simp only [am_kd, p0, if_true, h3, am_nar4_0, am_nar4_1, b2i]
  by_cases c1 : x < 0
  · simp [c1]
  · by_cases c2 : x < nI ne
    · simp [c1, c2]
    · simp [c1, c2]
def xnext (kd hr s : Int32) : Int32 := if kd = 2 then (if am_rem hr 2 = 0 then s else s + 1) else s + 1
theorem c_next {d p np nc ne nw c : Nat} {h : AH} (hp : PoC h p np nc ne nw) (hc : c < 6) (hr s : Int32) : am_C PG (d + 1) 57 [.ref p, .int (nI c), .int hr, .int s] h = some (some (.int (xnext (hAI h (p + 4) c) hr s)), h) := by
  obtain ⟨⟨⟨p0, pf1, pf2, pf3, pf4, pf5, pf6, pf7, pf8, pf9, pf10, pf11, pf12, pf13, pf14, pf17, pk1, pk2, pk3, pk4, pk5, pk6, pk7, pk8, pk9, pk10, pk11, pk12, pk13, pn1, pn2, pn3, pn4, pn5, pn6, pn7, pn8, pn9, pn10, pn11, pn12, pn13⟩, -, -⟩, -⟩ := hp
  have e3 : ∀ x, am_in (nI c) 6 x = x := am_inN hc (by decide)
  have e4 : Int32.toNatClampNeg (nI c) = c := nI_clamp (by omega)
  rw [q_X5_shownNext]
  simp only [am_kd, p0, pf1, pf2, pf3, pf4, pf5, pf6, pf7, pf8, pf9, pf10, pf11, pf12, pf13, pf14, pf17, pk1, pk2, pk3, pk4, pk5, pk6, pk7, pk8, pk9, pk10, pk11, pk12, pk13, pn1, pn2, pn3, pn4, pn5, pn6, pn7, pn8, pn9, pn10, pn11, pn12, pn13, if_true, bR_s, e3, e4, am_dz_t (show (2 : Int32) ≠ 0 by decide), xnext]
  repeat' split
  all_goals rfl
def xdew (kd hd hr o : Int32) : Int32 := if kd = 3 ∧ am_rem hr 24 < 6 ∧ o < hd then o + 1 else o
def xdrk (kd hr v : Int32) (x : Int32 × Int32 × Int32) : Int32 × Int32 × Int32 :=
  if x.1 < v then (if kd = 1 ∧ 0 < x.1 then x.1 - 1 else x.1, x.2.1, 1) else (if kd = 1 ∧ 0 < x.1 - v then x.1 - v - 1 else x.1 - v, xnext kd hr x.2.1, 0)
def getc (R : SV) (c : Nat) : Int32 × Int32 × Int32 := (R.2.1 c, R.2.2.1 c, R.2.2.2.1 c)
def setc (R : SV) (c : Nat) (x : Int32 × Int32 × Int32) : SV := (R.1, upd R.2.1 c x.1, upd R.2.2.1 c x.2.1, upd R.2.2.2.1 c x.2.2, R.2.2.2.2)
theorem setc_self (R : SV) (c : Nat) : setc R c (getc R c) = R := by
  unfold setc getc
  rw [upd_self, upd_self, upd_self]
theorem setc_has (R : SV) (c : Nat) (o : Int32) : setc R c (o, (getc R c).2) = (R.1, upd R.2.1 c o, R.2.2) := by
  unfold setc getc
  dsimp only
  rw [upd_self, upd_self]
theorem setc_setc (R : SV) (c : Nat) (x y : Int32 × Int32 × Int32) : setc (setc R c x) c y = setc R c y := by
  unfold setc
  dsimp only
  rw [upd_upd, upd_upd, upd_upd]
theorem getc_setc (R : SV) (c : Nat) (x : Int32 × Int32 × Int32) : getc (setc R c x) c = x := by
  unfold setc getc
  dsimp only
  rw [pk_us, pk_us, pk_us]
theorem c_dew {d p np nc ne nw a c : Nat} {g : AH} {R : SV} (hp : PoC g p np nc ne nw) (hs : StSh g a) (hd : Dj p a) (hc : c < 6) : am_C PG (d + 1) 62 [.ref p, .ref a, .int (nI c)] (putS g a R) = some (none, putS g a (setc R c (xdew (hAI g (p + 4) c) (hAI g (p + 6) c) R.1 (R.2.1 c), (getc R c).2))) := by
  obtain ⟨⟨⟨p0, pf1, pf2, pf3, pf4, pf5, pf6, pf7, pf8, pf9, pf10, pf11, pf12, pf13, pf14, pf17, pk1, pk2, pk3, pk4, pk5, pk6, pk7, pk8, pk9, pk10, pk11, pk12, pk13, pn1, pn2, pn3, pn4, pn5, pn6, pn7, pn8, pn9, pn10, pn11, pn12, pn13⟩, -, -⟩, -⟩ := hp
  obtain ⟨s0, sf1, sf2, sf3, sf4, sf5, sf6, sf7, sf8, sk1, sk2, sk3, sk4, sk5, sk6, sk7, sk8, sn1, sn2, sn3, sn4, sn5, sn6, sn7, sn8⟩ := hs
  unfold Dj at hd
  have e3 : ∀ x, am_in (nI c) 6 x = x := am_inN hc (by decide)
  have e4 : Int32.toNatClampNeg (nI c) = c := nI_clamp (by omega)
  have w4 : ∀ R, hAI (putS g a R) (p + 4) = hAI g (p + 4) := fun R => pS_far g R (by omega)
  have w6 : ∀ R, hAI (putS g a R) (p + 6) = hAI g (p + 6) := fun R => pS_far g R (by omega)
  rw [q_X5_gatherDew, setc_has]
  simp only [rd_hK_putS, rd_hFR_putS, rd_hLN_putS, rd_hFJ_putS, rd_hAJ_putS, rd_hAR_putS, rd_hNX_putS, pS_1, pS_2, pS_3, pS_4, pS_5, pS_6, pS_7, pS_8, pS_hr, pE_1, pE_2, pE_3, pE_4, pE_5, pE_6, pE_7, pE_8, putS_sFI, am_kd, p0, pf1, pf2, pf3, pf4, pf5, pf6, pf7, pf8, pf9, pf10, pf11, pf12, pf13, pf14, pf17, pk1, pk2, pk3, pk4, pk5, pk6, pk7, pk8, pk9, pk10, pk11, pk12, pk13, pn1, pn2, pn3, pn4, pn5, pn6, pn7, pn8, pn9, pn10, pn11, pn12, pn13, s0, sf1, sf2, sf3, sf4, sf5, sf6, sf7, sf8, sk1, sk2, sk3, sk4, sk5, sk6, sk7, sk8, sn1, sn2, sn3, sn4, sn5, sn6, sn7, sn8, if_true, bR_s, e3, e4, am_dz_t (show (24 : Int32) ≠ 0 by decide), w4, w6, am_let_e, xdew, show ((1 : Int32) = 0) = False from eq_false (by decide), if_false]
  by_cases c1 : hAI g (p + 4) c = 3
  · by_cases c2 : am_rem R.1 24 < 6
    · by_cases c3 : R.2.1 c < hAI g (p + 6) c
      · simp only [c1, c2, c3, if_true, and_self]
      · simp only [c1, c2, c3, if_true, if_false, and_false, upd_self]
    · simp only [c1, c2, if_true, if_false, and_false, false_and, upd_self]
  · simp only [c1, if_false, false_and, upd_self]
theorem c_drk {d p np nc ne nw a c : Nat} {g : AH} {R : SV} (hp : PoC g p np nc ne nw) (hs : StSh g a) (hd : Dj p a) (hc : c < 6) (v : Int32) : am_C PG (d + 2) 63 [.ref p, .ref a, .int (nI c), .int v] (putS g a R) = some (none, putS g a (setc R c (xdrk (hAI g (p + 4) c) R.1 v (getc R c)))) := by
  have hn := fun (T : SV) (s : Int32) => c_next (d := d) (hp.put (a := a) (R := T)) hc R.1 s
  obtain ⟨⟨⟨p0, pf1, pf2, pf3, pf4, pf5, pf6, pf7, pf8, pf9, pf10, pf11, pf12, pf13, pf14, pf17, pk1, pk2, pk3, pk4, pk5, pk6, pk7, pk8, pk9, pk10, pk11, pk12, pk13, pn1, pn2, pn3, pn4, pn5, pn6, pn7, pn8, pn9, pn10, pn11, pn12, pn13⟩, -, -⟩, -⟩ := hp
  obtain ⟨s0, sf1, sf2, sf3, sf4, sf5, sf6, sf7, sf8, sk1, sk2, sk3, sk4, sk5, sk6, sk7, sk8, sn1, sn2, sn3, sn4, sn5, sn6, sn7, sn8⟩ := hs
  unfold Dj at hd
  have e3 : ∀ x, am_in (nI c) 6 x = x := am_inN hc (by decide)
  have e4 : Int32.toNatClampNeg (nI c) = c := nI_clamp (by omega)
  have w4 : ∀ R, hAI (putS g a R) (p + 4) = hAI g (p + 4) := fun R => pS_far g R (by omega)
  simp only [w4] at hn
  rw [q_X5_drinkOrStand]
  simp only [rd_hK_putS, rd_hFR_putS, rd_hLN_putS, rd_hFJ_putS, rd_hAJ_putS, rd_hAR_putS, rd_hNX_putS, pS_1, pS_2, pS_3, pS_4, pS_5, pS_6, pS_7, pS_8, pS_hr, pE_1, pE_2, pE_3, pE_4, pE_5, pE_6, pE_7, pE_8, putS_sFI, am_kd, p0, pf1, pf2, pf3, pf4, pf5, pf6, pf7, pf8, pf9, pf10, pf11, pf12, pf13, pf14, pf17, pk1, pk2, pk3, pk4, pk5, pk6, pk7, pk8, pk9, pk10, pk11, pk12, pk13, pn1, pn2, pn3, pn4, pn5, pn6, pn7, pn8, pn9, pn10, pn11, pn12, pn13, s0, sf1, sf2, sf3, sf4, sf5, sf6, sf7, sf8, sk1, sk2, sk3, sk4, sk5, sk6, sk7, sk8, sn1, sn2, sn3, sn4, sn5, sn6, sn7, sn8, if_true, bR_s, e3, e4, w4, am_let_e, hn, bI_s, pk_us]
  unfold xdrk setc getc
  dsimp only
  by_cases c1 : R.2.1 c < v
  · by_cases c2 : hAI g (p + 4) c = 1
    · by_cases c3 : 0 < R.2.1 c
      · simp only [c1, c2, c3, if_true, and_self, upd_self]
      · simp only [c1, c2, c3, if_true, if_false, and_false, upd_self]
    · simp only [c1, c2, if_true, if_false, false_and, upd_self]
  · by_cases c2 : hAI g (p + 4) c = 1
    · by_cases c3 : 0 < R.2.1 c - v
      · simp only [c1, c2, c3, if_true, if_false, and_self, upd_upd]
      · simp only [c1, c2, c3, if_true, if_false, and_false]
    · simp only [c1, c2, if_false, false_and]
def xth (W : Int32 → Int32 → Int32 → Int32 → Int32) (kd sp he : Nat → Int32) (c hr : Nat) (s : Int32) : Int32 :=
  let w := W (sp c) (he (hr % 24)) (kd c) s
  let m := if 99 < w then 99 else w
  let t := if 0 < m then m else 0
  if kd c = 2 then (t + 1) / 2 else t
theorem c_thirst {d p np nc ne nw len c hr : Nat} {W : Int32 → Int32 → Int32 → Int32 → Int32} {h : AH} (hp : PoC h p np nc ne nw) (hl : PoL h p len W) (hc : c < 6) (hh : hr < 2 ^ 31) (s : Int32) : ∃ f, am_C PG (d + 2) 56 [.ref p, .int (nI c), .int (nI hr), .int s] h = some (some (.int (xth W (hAI h (p + 4)) (hAI h (p + 7)) (hAI h (p + 13)) c hr s)), sAI h (p + 16) f) := by
  obtain ⟨hl1, hl2, hl3⟩ := hl
  obtain ⟨⟨⟨p0, pf1, pf2, pf3, pf4, pf5, pf6, pf7, pf8, pf9, pf10, pf11, pf12, pf13, pf14, pf17, pk1, pk2, pk3, pk4, pk5, pk6, pk7, pk8, pk9, pk10, pk11, pk12, pk13, pn1, pn2, pn3, pn4, pn5, pn6, pn7, pn8, pn9, pn10, pn11, pn12, pn13⟩, lw, -⟩, -⟩ := hp
  have e3 : ∀ x, am_in (nI c) 6 x = x := am_inN hc (by decide)
  have e4 : Int32.toNatClampNeg (nI c) = c := nI_clamp (by omega)
  have hm : hr % 24 < 24 := Nat.mod_lt _ (by decide)
  have e5 : ∀ x, am_in (nI (hr % 24)) 24 x = x := am_inN hm (by decide)
  have e6 : Int32.toNatClampNeg (nI (hr % 24)) = hr % 24 := nI_clamp (by omega)
  have lk : hK h (p + 14) = 5 := lw.1
  have hw := c_worth (d := d) lw hl1 hl2 (hAI h (p + 7) c) (hAI h (p + 13) (hr % 24)) (hAI h (p + 4) c) s
  rw [show p + 14 + 1 = p + 15 from rfl, show p + 14 + 2 = p + 16 from rfl] at hw
  rw [hl3] at hw
  refine ⟨(evN (hAI h (p + 7) c) (hAI h (p + 13) (hr % 24)) (hAI h (p + 4) c) s (hAI h (p + 15)) (hAI h (p + 16)) len).2, ?_⟩
  generalize (evN (hAI h (p + 7) c) (hAI h (p + 13) (hr % 24)) (hAI h (p + 4) c) s (hAI h (p + 15)) (hAI h (p + 16)) len).2 = f at hw ⊢
  have w4 : hAI (sAI h (p + 16) f) (p + 4) = hAI h (p + 4) := sAI_ne _ _ (by omega)
  have hf := c_fmod (d := d) hh (show 0 < 24 by decide) (show 24 < 2 ^ 31 by decide) h
  have hf : am_C PG (d + 1) 269 [.int (nI hr), .int (24 : Int32)] h = some (some (.int (nI (hr % 24))), h) := hf
  rw [q_X5_thirst]
  simp only [am_kd, p0, pf1, pf2, pf3, pf4, pf5, pf6, pf7, pf8, pf9, pf10, pf11, pf12, pf13, pf14, pf17, pk1, pk2, pk3, pk4, pk5, pk6, pk7, pk8, pk9, pk10, pk11, pk12, pk13, pn1, pn2, pn3, pn4, pn5, pn6, pn7, pn8, pn9, pn10, pn11, pn12, pn13, if_true, bR_s, e3, e4, hf, bI_s, e5, e6, lk, hw, c_min, c_max, rd_hK_sAI, rd_hFR_sAI, rd_hLN_sAI, w4, am_dz_t (show (2 : Int32) ≠ 0 by decide)]
  unfold xth
  dsimp only
  by_cases c1 : hAI h (p + 4) c = 2
  · simp only [c1, if_true]
  · simp only [c1, if_false]
/-- a clock's hour -/
def xclk (W : Int32 → Int32 → Int32 → Int32 → Int32) (kd ho sp he : Nat → Int32) (hr c : Nat) (x : Int32 × Int32 × Int32) : Int32 × Int32 × Int32 :=
  xdrk (kd c) (nI hr) (xth W kd sp he c hr x.2.1) (xdew (kd c) (ho c) (nI hr) x.1, x.2)
theorem c_pclk {d p np nc ne nw len c hr a : Nat} {W : Int32 → Int32 → Int32 → Int32 → Int32} {g : AH} {R : SV} (hp : PoC g p np nc ne nw) (hl : PoL g p len W) (hs : StSh g a) (hd : Dj p a) (hc : c < 6) (hh : hr < 2 ^ 31) (hR : R.1 = nI hr) :
    ∃ f, am_C PG (d + 3) 61 [.ref p, .ref a, .int (nI c)] (putS g a R) = some (none, putS (sAI g (p + 16) f) a (setc R c (xclk W (hAI g (p + 4)) (hAI g (p + 6)) (hAI g (p + 7)) (hAI g (p + 13)) hr c (getc R c)))) := by
  have k1 := c_dew (d := d + 1) (R := R) hp hs hd hc
  generalize hT : setc R c (xdew (hAI g (p + 4) c) (hAI g (p + 6) c) R.1 (R.2.1 c), (getc R c).2) = T at k1
  have hT1 : T.1 = nI hr := by rw [← hT]; exact hR
  have hTc : getc T c = (xdew (hAI g (p + 4) c) (hAI g (p + 6) c) R.1 (R.2.1 c), (getc R c).2) := by rw [← hT, getc_setc]
  have hTs : T.2.2.1 c = R.2.2.1 c := congrArg (fun x : Int32 × Int32 × Int32 => x.2.1) hTc
  obtain ⟨f, k2⟩ := c_thirst (d := d) (hp.put (a := a) (R := T)) (hl.put (R := T) hd) hc hh (T.2.2.1 c)
  have hd' := hd
  unfold Dj at hd'
  rw [putS_sAI _ _ _ (by omega), pS_far _ _ (by omega), pS_far _ _ (by omega), pS_far _ _ (by omega)] at k2
  have k3 := c_drk (d := d) (R := T) (hp.scr (b := p + 16) (f := f)) (hs.to (rd_hK_sAI g (p + 16) f) (rd_hFR_sAI g (p + 16) f) (rd_hLN_sAI g (p + 16) f)) hd hc (xth W (hAI g (p + 4)) (hAI g (p + 7)) (hAI g (p + 13)) c hr (T.2.2.1 c))
  rw [sAI_ne _ _ (by omega)] at k3
  refine ⟨f, ?_⟩
  obtain ⟨⟨⟨p0, pf1, pf2, pf3, pf4, pf5, pf6, pf7, pf8, pf9, pf10, pf11, pf12, pf13, pf14, pf17, pk1, pk2, pk3, pk4, pk5, pk6, pk7, pk8, pk9, pk10, pk11, pk12, pk13, pn1, pn2, pn3, pn4, pn5, pn6, pn7, pn8, pn9, pn10, pn11, pn12, pn13⟩, -, -⟩, -⟩ := hp
  obtain ⟨s0, sf1, sf2, sf3, sf4, sf5, sf6, sf7, sf8, sk1, sk2, sk3, sk4, sk5, sk6, sk7, sk8, sn1, sn2, sn3, sn4, sn5, sn6, sn7, sn8⟩ := hs
  have e3 : ∀ x, am_in (nI c) 6 x = x := am_inN hc (by decide)
  have e4 : Int32.toNatClampNeg (nI c) = c := nI_clamp (by omega)
  rw [q_X5_passClock]
  simp only [rd_hK_putS, rd_hFR_putS, rd_hLN_putS, rd_hFJ_putS, rd_hAJ_putS, rd_hAR_putS, rd_hNX_putS, pS_1, pS_2, pS_3, pS_4, pS_5, pS_6, pS_7, pS_8, pS_hr, pE_1, pE_2, pE_3, pE_4, pE_5, pE_6, pE_7, pE_8, putS_sFI, am_kd, p0, pf1, pf2, pf3, pf4, pf5, pf6, pf7, pf8, pf9, pf10, pf11, pf12, pf13, pf14, pf17, pk1, pk2, pk3, pk4, pk5, pk6, pk7, pk8, pk9, pk10, pk11, pk12, pk13, pn1, pn2, pn3, pn4, pn5, pn6, pn7, pn8, pn9, pn10, pn11, pn12, pn13, s0, sf1, sf2, sf3, sf4, sf5, sf6, sf7, sf8, sk1, sk2, sk3, sk4, sk5, sk6, sk7, sk8, sn1, sn2, sn3, sn4, sn5, sn6, sn7, sn8, if_true, bR_s, e3, e4, k1, bV_s, hT1, k2, bI_s, rd_hK_sAI, k3]
  rw [hTc, hTs, ← hT, setc_setc]
  unfold xclk
  rw [hR]
  rfl
