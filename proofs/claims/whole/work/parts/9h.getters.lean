/-! Getters: what law asks of both, and that they answer alike. -/
theorem St62 {h : AH} (s : StSh h 62) : hK h 62 = 8 ∧ hFR h 701 62 = some 63 ∧ hFR h 702 62 = some 64 ∧ hFR h 703 62 = some 65 ∧ hFR h 704 62 = some 66 ∧ hFR h 705 62 = some 67 ∧ hFR h 706 62 = some 68 ∧ hFR h 707 62 = some 69 ∧ hFR h 708 62 = some 70 ∧ hK h 63 = 50 ∧ hK h 64 = 50 ∧ hK h 65 = 50 ∧ hK h 66 = 50 ∧ hK h 67 = 50 ∧ hK h 68 = 50 ∧ hK h 69 = 50 ∧ hK h 70 = 50 ∧ hLN h 63 = 6 ∧ hLN h 64 = 6 ∧ hLN h 65 = 6 ∧ hLN h 66 = 4 ∧ hLN h 67 = 4 ∧ hLN h 68 = 4 ∧ hLN h 69 = 5 ∧ hLN h 70 = 6 := s
theorem Inv.ex {B L : Nat} {xs : Nat → Int32} {h : AH} (I : Inv B L xs h) : hK h 0 = 12 ∧ hFR h 1105 0 = some 61 ∧ hFR h 1112 0 = some 93 ∧ hFR h 1113 0 = some 112 ∧ hK h 61 = 9 ∧ hFR h 800 61 = some 62 ∧ hFR h 801 61 = some 71 ∧ hFR h 802 61 = some 76 ∧ StSh h 62 ∧ DaSh h 71 ∧ HeSh h 76 ∧ AhSh h 93 94 ∧ hFR h 1 93 = some 103 ∧ StSh h 103 ∧ ChoSh h ∧ MSh h ∧ ∃ p np nc ne nw len n W hr, (p = 4 ∨ p = 30) ∧ hFR h 1102 0 = some p ∧ InvP h p np nc ne nw len n W ∧ hr ≤ B ∧ SR (hAI h) np nc ne nw hr (getS h 62) (dec (hAI h 397)) ∧ DaI h 71 0 np nc ne ∧ HeI h 76 0 := by
  obtain ⟨⟨u0, u1, u2, u3, u4, u5, u6, u7, u8, -, -, u15, u16, u17, ⟨w0, w1, w2, w3, w4, w5, w6⟩, -, -, uX, uA, uR, u28, uC, uM, -⟩, s2, s3, s4, s5, s6, p, dp, np, nc, ne, nw, len, n, W, t1, t2, t3, t4, ⟨hr, t5, t5'⟩, t6, t7, t8, t9⟩ := I
  exact ⟨u0, u4, u7, u8, w0, w1, w2, w3, w4, w5, w6, uA, uR, u28, uC, uM, p, np, nc, ne, nw, len, n, W, hr, by rcases t1 with ⟨z, _⟩ | ⟨z, _⟩; exact Or.inl z; exact Or.inr z, t2, t4, t5, t5', t6, t7⟩
/-- class and reference answer alike, and only what is used within a call is changed -/
def Ans (h : AH) (C M : AH → Option Res) : Prop := ∃ r g1 g2, C h = some (some (.int r), g1) ∧ M g1 = some (some (.int r), g2) ∧ Qt h g1 ∧ Qt g1 g2
theorem th_qt (h : AH) : Qt h (sFI h 1200 348 0) := Qt.fi _ _ _ _ (by unfold cFld; omega)
theorem i_rng (x : Int32) (n : Nat) (hn : n < 2 ^ 30) : (x < 0 ∨ nI n < x) ∨ ∃ k, k ≤ n ∧ x = nI k := by
  rcases pk_ix x (n := n + 1) (by omega) with h | h | ⟨j, h1, h2⟩
  · exact Or.inl (Or.inl h)
  · refine Or.inl (Or.inr ?_)
    rw [i_lt]
    have : (nI (n + 1)).toInt ≤ x.toInt := Int32.le_iff_toInt_le.mp h
    rw [nI_toInt (by omega)] at this
    rw [nI_toInt (by omega)]
    omega
  · exact Or.inr ⟨j, by omega, h2⟩
theorem i_rngF {x : Int32} {n : Nat} (hn : n < 2 ^ 30) (h : x < 0 ∨ nI n < x) : ∀ k : Nat, k ≤ n → ¬ x.toInt = (k : Int) := by
  intro k hk z
  rcases h with h | h
  · rw [i_lt, t0] at h
    omega
  · rw [i_lt, nI_toInt (by omega)] at h
    omega
theorem ix_of {x : Int32} {n : Nat} (hn : n < 2 ^ 31) (h : ¬ x < 0 ∧ x < nI n) : ∃ c, c < n ∧ x = nI c := by
  obtain ⟨j, hj, rfl⟩ := nI_of h.1
  exact ⟨j, (nI_ltI hj hn).1 h.2, rfl⟩
theorem wt0 {x : Int32} {n : Nat} {N : Int32} (hN : N = nI n) (hn : n < 2 ^ 30) (h : x < 0 ∨ nI n < x) : b2i (¬ x < 0 ∧ ¬ N < x) = 0 := by
  subst hN
  exact b2i_f (fun z => by rcases h with h | h; exact z.1 h; exact z.2 h)
theorem wt1 {k n : Nat} {N : Int32} (hN : N = nI n) (hn : n < 2 ^ 30) (h : k ≤ n) : b2i (¬ nI k < 0 ∧ ¬ N < nI k) = 1 := by
  subst hN
  exact b2i_t ⟨nI_pos (by omega), nI_nlt h (by omega)⟩
theorem st_timer {B L d : Nat} {xs : Nat → Int32} {h : AH} (I : Inv B L xs h) (hB0 : B < 2 ^ 30) (a b : Int32) : Ans h (fun h => am_C PG (d + 20) 130 [.ref 0, .int a, .int b] h) (fun h => am_C PG (d + 20) 216 [.ref 348, .int a, .int b] h) := by
  obtain ⟨k0, f61, f93, f112, k61, f62, f71, f76, S62, D71, H76, A93, a2, S103, Ch, hm, p, np, nc, ne, nw, len, n, W, hr, hp4, f1102, IP, hB, S, D, H⟩ := I.ex
  have hmm := hm
  have m0 := hmm.1
  have f1210 : hFR _ 1210 348 = some 350 := (hmm.2 1 (by decide)).1
  have k350 : hK _ 350 = 50 := (hmm.2 1 (by decide)).2.1
  have n350 : hLN _ 350 = 10 := (hmm.2 1 (by decide)).2.2
  have f1217 : hFR _ 1217 348 = some 357 := (hmm.2 8 (by decide)).1
  have k357 : hK _ 357 = 50 := (hmm.2 8 (by decide)).2.1
  have n357 : hLN _ 357 = 12 := (hmm.2 8 (by decide)).2.2
  have f1218 : hFR _ 1218 348 = some 358 := (hmm.2 9 (by decide)).1
  have k358 : hK _ 358 = 50 := (hmm.2 9 (by decide)).2.1
  have n358 : hLN _ 358 = 12 := (hmm.2 9 (by decide)).2.2
  have f1219 : hFR _ 1219 348 = some 359 := (hmm.2 10 (by decide)).1
  have k359 : hK _ 359 = 50 := (hmm.2 10 (by decide)).2.1
  have n359 : hLN _ 359 = 12 := (hmm.2 10 (by decide)).2.2
  have f1221 : hFR _ 1221 348 = some 361 := (hmm.2 12 (by decide)).1
  have k361 : hK _ 361 = 50 := (hmm.2 12 (by decide)).2.1
  have n361 : hLN _ 361 = 12 := (hmm.2 12 (by decide)).2.2
  have f1223 : hFR _ 1223 348 = some 363 := (hmm.2 14 (by decide)).1
  have k363 : hK _ 363 = 50 := (hmm.2 14 (by decide)).2.1
  have n363 : hLN _ 363 = 8 := (hmm.2 14 (by decide)).2.2
  have f1225 : hFR _ 1225 348 = some 365 := (hmm.2 16 (by decide)).1
  have k365 : hK _ 365 = 50 := (hmm.2 16 (by decide)).2.1
  have n365 : hLN _ 365 = 12 := (hmm.2 16 (by decide)).2.2
  have f1226 : hFR _ 1226 348 = some 366 := (hmm.2 17 (by decide)).1
  have k366 : hK _ 366 = 50 := (hmm.2 17 (by decide)).2.1
  have n366 : hLN _ 366 = 12 := (hmm.2 17 (by decide)).2.2
  have f1227 : hFR _ 1227 348 = some 367 := (hmm.2 18 (by decide)).1
  have k367 : hK _ 367 = 50 := (hmm.2 18 (by decide)).2.1
  have n367 : hLN _ 367 = 12 := (hmm.2 18 (by decide)).2.2
  have f1228 : hFR _ 1228 348 = some 368 := (hmm.2 19 (by decide)).1
  have k368 : hK _ 368 = 50 := (hmm.2 19 (by decide)).2.1
  have n368 : hLN _ 368 = 12 := (hmm.2 19 (by decide)).2.2
  have f1259 : hFR _ 1259 348 = some 397 := (hmm.2 48 (by decide)).1
  have k397 : hK _ 397 = 50 := (hmm.2 48 (by decide)).2.1
  have n397 : hLN _ 397 = 43 := (hmm.2 48 (by decide)).2.2
  obtain ⟨Lk0, NE, NM, FS, WY⟩ := IP
  have hmC := Lk0.2.2.2.2.2.1
  have h350 := Lk0.2.2.2.2.2.2.1
  have PR := Lk0.2.2.2.2.2.2.2.1
  have hn : np ≤ 5 ∧ nc ≤ 6 ∧ ne ≤ 4 ∧ nw ≤ 6 := ⟨Lk0.1.2.2.2.2.2.1, Lk0.1.2.2.2.2.2.2⟩
  have f50x := Lk0.1.2
  obtain ⟨⟨⟨p0, pf1, pf2, pf3, pf4, pf5, pf6, pf7, pf8, pf9, pf10, pf11, pf12, pf13, pf14, pf17, pk1, pk2, pk3, pk4, pk5, pk6, pk7, pk8, pk9, pk10, pk11, pk12, pk13, pn1, pn2, pn3, pn4, pn5, pn6, pn7, pn8, pn9, pn10, pn11, pn12, pn13⟩, -, -⟩, -⟩ := Lk0.1
  obtain ⟨z0, zf1, zf2, zf3, zf4, zf5, zf6, zf7, zf8, zk1, zk2, zk3, zk4, zk5, zk6, zk7, zk8, zn1, zn2, zn3, zn4, zn5, zn6, zn7, zn8⟩ := St62 S62
  have hm0 : MSh (sFI h 1200 348 0) := hm.to rfl (fun _ => rfl) rfl
  have z1 : ((1 : Int32) = 0) = False := eq_false (by decide)
  have zz : ((0 : Int32) = 0) = True := eq_true rfl

  have hhr : hr < 2 ^ 31 := by omega
  have kc := c_isClock (d := d + 18) Lk0.1 a
  have km := c_misTimer (d := d + 18) (n := nc) (h := sFI h 1200 348 0) hm0 hmC.1 a
  have kw := c_within (d + 18) b 0 7 (sFI h 1200 348 0)
  by_cases ha : ¬ a < 0 ∧ a < nI nc
  · rw [b2i_t ha] at kc km
    obtain ⟨c, hc, rfl⟩ := ix_of (by omega) ha
    have tc : Int32.toNatClampNeg (nI c) = c := nI_clamp (by omega)
    rcases i_rng b 7 (by decide) with hb | ⟨k, hk, rfl⟩
    · rw [wt0 (N := 7) (n := 7) rfl (by decide) hb] at kw
      have hf := i_rngF (by decide) hb
      have g0 : (Int32.toInt b = (0 : Int)) = False := eq_false (hf 0 (by decide))
      have g1 : (Int32.toInt b = (1 : Int)) = False := eq_false (hf 1 (by decide))
      have g2 : (Int32.toInt b = (2 : Int)) = False := eq_false (hf 2 (by decide))
      have g3 : (Int32.toInt b = (3 : Int)) = False := eq_false (hf 3 (by decide))
      have g4 : (Int32.toInt b = (4 : Int)) = False := eq_false (hf 4 (by decide))
      have g5 : (Int32.toInt b = (5 : Int)) = False := eq_false (hf 5 (by decide))
      have g6 : (Int32.toInt b = (6 : Int)) = False := eq_false (hf 6 (by decide))
      have g7 : (Int32.toInt b = (7 : Int)) = False := eq_false (hf 7 (by decide))
      refine ⟨-1, h, sFI h 1200 348 0, ?_, ?_, Qt.rfl' h, th_qt h⟩
      · dsimp only
        rw [q_X11_timer]
        simp only [am_kd, k0, f1102, f61, k61, f62, if_true, if_false, bR_s, bI_s, p0, kc, z1, g0, g1, g2, g3, g4, g5, g6, g7]
      · dsimp only
        rw [q_X12_timer]
        simp only [am_kd, m0, if_true, if_false, am_let_e, rd_hK_sFI, km, kw, bI_s, z1]
    · rw [wt1 (N := 7) (n := 7) rfl (by decide) hk] at kw
      rcases (show k = 0 ∨ k = 1 ∨ k = 2 ∨ k = 3 ∨ k = 4 ∨ k = 5 ∨ k = 6 ∨ k = 7 by omega) with rfl | rfl | rfl | rfl | rfl | rfl | rfl | rfl
      · have ic : ∀ x, am_in (nI c) 6 x = x := am_inN (by omega) (by decide)
        have im : ∀ x, am_in (nI c) 12 x = x := am_inN (by omega) (by decide)
        have e : hAI h (p + 4) c = hAI h 357 c := (PR.1 c hc).1
        refine ⟨hAI h (p + 4) c, h, sFI h 1200 348 0, ?_, ?_, Qt.rfl' h, th_qt h⟩
        · dsimp only
          rw [q_X11_timer]
          simp (decide := true) only [am_kd, k0, f1102, f61, k61, f62, if_true, if_false, bR_s, bI_s, p0, pf1, pf2, pf3, pf4, pf5, pf6, pf7, pf8, pf9, pf10, pf11, pf12, pf13, pf14, pf17, pk1, pk2, pk3, pk4, pk5, pk6, pk7, pk8, pk9, pk10, pk11, pk12, pk13, pn1, pn2, pn3, pn4, pn5, pn6, pn7, pn8, pn9, pn10, pn11, pn12, pn13, z0, zf1, zf2, zf3, zf4, zf5, zf6, zf7, zf8, zk1, zk2, zk3, zk4, zk5, zk6, zk7, zk8, zn1, zn2, zn3, zn4, zn5, zn6, zn7, zn8, kc, z1, ic, tc]
        · dsimp only
          rw [q_X12_timer, e]
          simp (decide := true) only [am_kd, m0, f1210, k350, n350, f1217, k357, n357, f1218, k358, n358, f1219, k359, n359, f1221, k361, n361, f1223, k363, n363, f1225, k365, n365, f1226, k366, n366, f1227, k367, n367, f1228, k368, n368, f1259, k397, n397, if_true, if_false, am_let_e, rd_hK_sFI, rd_hFR_sFI, rd_hLN_sFI, rd_hAI_sFI, km, kw, bI_s, bR_s, z1, im, tc]
      · have ic : ∀ x, am_in (nI c) 6 x = x := am_inN (by omega) (by decide)
        have im : ∀ x, am_in (nI c) 12 x = x := am_inN (by omega) (by decide)
        have e : hAI h (p + 5) c = hAI h 358 c := (PR.1 c hc).2.1
        refine ⟨hAI h (p + 5) c, h, sFI h 1200 348 0, ?_, ?_, Qt.rfl' h, th_qt h⟩
        · dsimp only
          rw [q_X11_timer]
          simp (decide := true) only [am_kd, k0, f1102, f61, k61, f62, if_true, if_false, bR_s, bI_s, p0, pf1, pf2, pf3, pf4, pf5, pf6, pf7, pf8, pf9, pf10, pf11, pf12, pf13, pf14, pf17, pk1, pk2, pk3, pk4, pk5, pk6, pk7, pk8, pk9, pk10, pk11, pk12, pk13, pn1, pn2, pn3, pn4, pn5, pn6, pn7, pn8, pn9, pn10, pn11, pn12, pn13, z0, zf1, zf2, zf3, zf4, zf5, zf6, zf7, zf8, zk1, zk2, zk3, zk4, zk5, zk6, zk7, zk8, zn1, zn2, zn3, zn4, zn5, zn6, zn7, zn8, kc, z1, ic, tc]
        · dsimp only
          rw [q_X12_timer, e]
          simp (decide := true) only [am_kd, m0, f1210, k350, n350, f1217, k357, n357, f1218, k358, n358, f1219, k359, n359, f1221, k361, n361, f1223, k363, n363, f1225, k365, n365, f1226, k366, n366, f1227, k367, n367, f1228, k368, n368, f1259, k397, n397, if_true, if_false, am_let_e, rd_hK_sFI, rd_hFR_sFI, rd_hLN_sFI, rd_hAI_sFI, km, kw, bI_s, bR_s, z1, im, tc]
      · have ic : ∀ x, am_in (nI c) 6 x = x := am_inN (by omega) (by decide)
        have im : ∀ x, am_in (nI c) 12 x = x := am_inN (by omega) (by decide)
        have e : hAI h (p + 6) c = hAI h 359 c := (PR.1 c hc).2.2.1
        refine ⟨hAI h (p + 6) c, h, sFI h 1200 348 0, ?_, ?_, Qt.rfl' h, th_qt h⟩
        · dsimp only
          rw [q_X11_timer]
          simp (decide := true) only [am_kd, k0, f1102, f61, k61, f62, if_true, if_false, bR_s, bI_s, p0, pf1, pf2, pf3, pf4, pf5, pf6, pf7, pf8, pf9, pf10, pf11, pf12, pf13, pf14, pf17, pk1, pk2, pk3, pk4, pk5, pk6, pk7, pk8, pk9, pk10, pk11, pk12, pk13, pn1, pn2, pn3, pn4, pn5, pn6, pn7, pn8, pn9, pn10, pn11, pn12, pn13, z0, zf1, zf2, zf3, zf4, zf5, zf6, zf7, zf8, zk1, zk2, zk3, zk4, zk5, zk6, zk7, zk8, zn1, zn2, zn3, zn4, zn5, zn6, zn7, zn8, kc, z1, ic, tc]
        · dsimp only
          rw [q_X12_timer, e]
          simp (decide := true) only [am_kd, m0, f1210, k350, n350, f1217, k357, n357, f1218, k358, n358, f1219, k359, n359, f1221, k361, n361, f1223, k363, n363, f1225, k365, n365, f1226, k366, n366, f1227, k367, n367, f1228, k368, n368, f1259, k397, n397, if_true, if_false, am_let_e, rd_hK_sFI, rd_hFR_sFI, rd_hLN_sFI, rd_hAI_sFI, km, kw, bI_s, bR_s, z1, im, tc]
      · have ic : ∀ x, am_in (nI c) 6 x = x := am_inN (by omega) (by decide)
        have im : ∀ x, am_in (nI c) 12 x = x := am_inN (by omega) (by decide)
        have am : (6 : Int32) + nI c = nI (6 + c) := nI_add 6 c
        have ie : ∀ x, am_in (nI (6 + c)) 43 x = x := am_inN (by omega) (by decide)
        have te : Int32.toNatClampNeg (nI (6 + c)) = 6 + c := nI_clamp (by omega)
        have e : hAI h 63 c = hAI h 397 (6 + c) := congrArg (fun z : Int32 × Int32 × Int32 => z.1) (S.2.2.1 c hc)
        refine ⟨hAI h 63 c, h, sFI h 1200 348 0, ?_, ?_, Qt.rfl' h, th_qt h⟩
        · dsimp only
          rw [q_X11_timer]
          simp (decide := true) only [am_kd, k0, f1102, f61, k61, f62, if_true, if_false, bR_s, bI_s, p0, pf1, pf2, pf3, pf4, pf5, pf6, pf7, pf8, pf9, pf10, pf11, pf12, pf13, pf14, pf17, pk1, pk2, pk3, pk4, pk5, pk6, pk7, pk8, pk9, pk10, pk11, pk12, pk13, pn1, pn2, pn3, pn4, pn5, pn6, pn7, pn8, pn9, pn10, pn11, pn12, pn13, z0, zf1, zf2, zf3, zf4, zf5, zf6, zf7, zf8, zk1, zk2, zk3, zk4, zk5, zk6, zk7, zk8, zn1, zn2, zn3, zn4, zn5, zn6, zn7, zn8, kc, z1, ic, tc]
        · dsimp only
          rw [q_X12_timer, e]
          simp (decide := true) only [am_kd, m0, f1210, k350, n350, f1217, k357, n357, f1218, k358, n358, f1219, k359, n359, f1221, k361, n361, f1223, k363, n363, f1225, k365, n365, f1226, k366, n366, f1227, k367, n367, f1228, k368, n368, f1259, k397, n397, if_true, if_false, am_let_e, rd_hK_sFI, rd_hFR_sFI, rd_hLN_sFI, rd_hAI_sFI, km, kw, bI_s, bR_s, z1, im, tc, am, ie, te]
      · have ic : ∀ x, am_in (nI c) 6 x = x := am_inN (by omega) (by decide)
        have im : ∀ x, am_in (nI c) 12 x = x := am_inN (by omega) (by decide)
        have e : hAI h (p + 7) c = hAI h 361 c := (PR.1 c hc).2.2.2
        refine ⟨hAI h (p + 7) c, h, sFI h 1200 348 0, ?_, ?_, Qt.rfl' h, th_qt h⟩
        · dsimp only
          rw [q_X11_timer]
          simp (decide := true) only [am_kd, k0, f1102, f61, k61, f62, if_true, if_false, bR_s, bI_s, p0, pf1, pf2, pf3, pf4, pf5, pf6, pf7, pf8, pf9, pf10, pf11, pf12, pf13, pf14, pf17, pk1, pk2, pk3, pk4, pk5, pk6, pk7, pk8, pk9, pk10, pk11, pk12, pk13, pn1, pn2, pn3, pn4, pn5, pn6, pn7, pn8, pn9, pn10, pn11, pn12, pn13, z0, zf1, zf2, zf3, zf4, zf5, zf6, zf7, zf8, zk1, zk2, zk3, zk4, zk5, zk6, zk7, zk8, zn1, zn2, zn3, zn4, zn5, zn6, zn7, zn8, kc, z1, ic, tc]
        · dsimp only
          rw [q_X12_timer, e]
          simp (decide := true) only [am_kd, m0, f1210, k350, n350, f1217, k357, n357, f1218, k358, n358, f1219, k359, n359, f1221, k361, n361, f1223, k363, n363, f1225, k365, n365, f1226, k366, n366, f1227, k367, n367, f1228, k368, n368, f1259, k397, n397, if_true, if_false, am_let_e, rd_hK_sFI, rd_hFR_sFI, rd_hLN_sFI, rd_hAI_sFI, km, kw, bI_s, bR_s, z1, im, tc]
      · have ic : ∀ x, am_in (nI c) 6 x = x := am_inN (by omega) (by decide)
        have im : ∀ x, am_in (nI c) 12 x = x := am_inN (by omega) (by decide)
        have am : (12 : Int32) + nI c = nI (12 + c) := nI_add 12 c
        have ie : ∀ x, am_in (nI (12 + c)) 43 x = x := am_inN (by omega) (by decide)
        have te : Int32.toNatClampNeg (nI (12 + c)) = 12 + c := nI_clamp (by omega)
        have e : hAI h 64 c = hAI h 397 (12 + c) := congrArg (fun z : Int32 × Int32 × Int32 => z.2.1) (S.2.2.1 c hc)
        refine ⟨hAI h 64 c, h, sFI h 1200 348 0, ?_, ?_, Qt.rfl' h, th_qt h⟩
        · dsimp only
          rw [q_X11_timer]
          simp (decide := true) only [am_kd, k0, f1102, f61, k61, f62, if_true, if_false, bR_s, bI_s, p0, pf1, pf2, pf3, pf4, pf5, pf6, pf7, pf8, pf9, pf10, pf11, pf12, pf13, pf14, pf17, pk1, pk2, pk3, pk4, pk5, pk6, pk7, pk8, pk9, pk10, pk11, pk12, pk13, pn1, pn2, pn3, pn4, pn5, pn6, pn7, pn8, pn9, pn10, pn11, pn12, pn13, z0, zf1, zf2, zf3, zf4, zf5, zf6, zf7, zf8, zk1, zk2, zk3, zk4, zk5, zk6, zk7, zk8, zn1, zn2, zn3, zn4, zn5, zn6, zn7, zn8, kc, z1, ic, tc]
        · dsimp only
          rw [q_X12_timer, e]
          simp (decide := true) only [am_kd, m0, f1210, k350, n350, f1217, k357, n357, f1218, k358, n358, f1219, k359, n359, f1221, k361, n361, f1223, k363, n363, f1225, k365, n365, f1226, k366, n366, f1227, k367, n367, f1228, k368, n368, f1259, k397, n397, if_true, if_false, am_let_e, rd_hK_sFI, rd_hFR_sFI, rd_hLN_sFI, rd_hAI_sFI, km, kw, bI_s, bR_s, z1, im, tc, am, ie, te]
      · have ic : ∀ x, am_in (nI c) 6 x = x := am_inN (by omega) (by decide)
        have im : ∀ x, am_in (nI c) 12 x = x := am_inN (by omega) (by decide)
        have am : (18 : Int32) + nI c = nI (18 + c) := nI_add 18 c
        have ie : ∀ x, am_in (nI (18 + c)) 43 x = x := am_inN (by omega) (by decide)
        have te : Int32.toNatClampNeg (nI (18 + c)) = 18 + c := nI_clamp (by omega)
        have e : hAI h 65 c = hAI h 397 (18 + c) := congrArg (fun z : Int32 × Int32 × Int32 => z.2.2) (S.2.2.1 c hc)
        refine ⟨hAI h 65 c, h, sFI h 1200 348 0, ?_, ?_, Qt.rfl' h, th_qt h⟩
        · dsimp only
          rw [q_X11_timer]
          simp (decide := true) only [am_kd, k0, f1102, f61, k61, f62, if_true, if_false, bR_s, bI_s, p0, pf1, pf2, pf3, pf4, pf5, pf6, pf7, pf8, pf9, pf10, pf11, pf12, pf13, pf14, pf17, pk1, pk2, pk3, pk4, pk5, pk6, pk7, pk8, pk9, pk10, pk11, pk12, pk13, pn1, pn2, pn3, pn4, pn5, pn6, pn7, pn8, pn9, pn10, pn11, pn12, pn13, z0, zf1, zf2, zf3, zf4, zf5, zf6, zf7, zf8, zk1, zk2, zk3, zk4, zk5, zk6, zk7, zk8, zn1, zn2, zn3, zn4, zn5, zn6, zn7, zn8, kc, z1, ic, tc]
        · dsimp only
          rw [q_X12_timer, e]
          simp (decide := true) only [am_kd, m0, f1210, k350, n350, f1217, k357, n357, f1218, k358, n358, f1219, k359, n359, f1221, k361, n361, f1223, k363, n363, f1225, k365, n365, f1226, k366, n366, f1227, k367, n367, f1228, k368, n368, f1259, k397, n397, if_true, if_false, am_let_e, rd_hK_sFI, rd_hFR_sFI, rd_hLN_sFI, rd_hAI_sFI, km, kw, bI_s, bR_s, z1, im, tc, am, ie, te]
      · have ic : ∀ x, am_in (nI c) 6 x = x := am_inN (by omega) (by decide)
        have am : (12 : Int32) + nI c = nI (12 + c) := nI_add 12 c
        have ie : ∀ x, am_in (nI (12 + c)) 43 x = x := am_inN (by omega) (by decide)
        have te : Int32.toNatClampNeg (nI (12 + c)) = 12 + c := nI_clamp (by omega)
        have e0 : ∀ x, am_in (0 : Int32) 43 x = x := am_inN (i := 0) (by decide) (by decide)
        have e : hAI h 64 c = hAI h 397 (12 + c) := congrArg (fun z : Int32 × Int32 × Int32 => z.2.1) (S.2.2.1 c hc)
        have eh : hFI h 700 62 = nI hr := S.1
        have eh2 : hAI h 397 0 = nI hr := S.2.1
        obtain ⟨f, k1⟩ := c_thirst (d := d + 17) (c := c) (hr := hr) Lk0.1 Lk0.2.1 (by omega) hhr (hAI h 64 c)
        have q1 : Qt h (sAI h (p + 16) f) := Qt.ai _ _ _ (by omega)
        have q2 : Qt h (sFI (sAI h (p + 16) f) 1200 348 0) := q1.tr (th_qt _)
        have L2 := Lk0.qt q2 hp4
        obtain ⟨ρ, k2⟩ := c_mthirst (dp := d + 15) (n := n) (W := W) (c := c) (hr := hr) (h := sFI (sAI h (p + 16) f) 1200 348 0) L2.2.2.2.1 L2.2.2.2.2.1 (by omega) hhr (hAI h 64 c)
        have r : ∀ a, 349 ≤ a → hAI (sFI (sAI h (p + 16) f) 1200 348 0) a = hAI h a := fun a ha => by rw [rd_hAI_sFI, sAI_ne _ _ (by omega)]
        rw [r 357 (by decide), r 361 (by decide), r 369 (by decide), ← xth_congr (W := W) (kd := hAI h (p + 4)) (sp := hAI h (p + 7)) (he := hAI h (p + 13)) (PR.1 c hc).1 (PR.1 c hc).2.2.2 PR.2.2.2.1] at k2
        have km2 := c_misTimer (d := d + 18) (n := nc) (h := sFI (sAI h (p + 16) f) 1200 348 0) L2.2.2.2.1 L2.2.2.2.2.2.1.1 (nI c)
        rw [b2i_t ha] at km2
        have kw2 := c_within (d + 18) (nI 7) 0 7 (sFI (sAI h (p + 16) f) 1200 348 0)
        rw [wt1 (N := 7) (n := 7) rfl (by decide) (by decide)] at kw2
        have w0 : hAI (sAI h (p + 16) f) 397 0 = nI hr := by rw [sAI_ne _ _ (by omega)]; exact eh2
        have w1 : hAI (sAI h (p + 16) f) 397 (12 + c) = hAI h 64 c := by rw [sAI_ne _ _ (by omega)]; exact e.symm
        refine ⟨xth W (hAI h (p + 4)) (hAI h (p + 7)) (hAI h (p + 13)) c hr (hAI h 64 c), sAI h (p + 16) f, mV (sFI (sAI h (p + 16) f) 1200 348 0) ρ, ?_, ?_, q1, (th_qt _).tr (Qt.mv _ _)⟩
        · dsimp only
          rw [q_X11_timer]
          simp (decide := true) only [am_kd, k0, f1102, f61, k61, f62, if_true, if_false, bR_s, bI_s, p0, pf1, pf2, pf3, pf4, pf5, pf6, pf7, pf8, pf9, pf10, pf11, pf12, pf13, pf14, pf17, pk1, pk2, pk3, pk4, pk5, pk6, pk7, pk8, pk9, pk10, pk11, pk12, pk13, pn1, pn2, pn3, pn4, pn5, pn6, pn7, pn8, pn9, pn10, pn11, pn12, pn13, z0, zf1, zf2, zf3, zf4, zf5, zf6, zf7, zf8, zk1, zk2, zk3, zk4, zk5, zk6, zk7, zk8, zn1, zn2, zn3, zn4, zn5, zn6, zn7, zn8, kc, z1, ic, tc, eh, k1]
        · dsimp only
          rw [q_X12_timer]
          simp (decide := true) only [am_kd, m0, f1210, k350, n350, f1217, k357, n357, f1218, k358, n358, f1219, k359, n359, f1221, k361, n361, f1223, k363, n363, f1225, k365, n365, f1226, k366, n366, f1227, k367, n367, f1228, k368, n368, f1259, k397, n397, if_true, if_false, am_let_e, rd_hK_sFI, rd_hFR_sFI, rd_hLN_sFI, rd_hAI_sFI, rd_hK_sAI, rd_hFR_sAI, rd_hLN_sAI, km2, kw2, bI_s, bR_s, z1, am, ie, te, e0, nI_cl0, w0, w1, k2]
  · rw [b2i_f ha] at kc km
    refine ⟨-1, h, sFI h 1200 348 0, ?_, ?_, Qt.rfl' h, th_qt h⟩
    · dsimp only
      rw [q_X11_timer]
      simp only [am_kd, k0, f1102, f61, k61, f62, if_true, if_false, bR_s, bI_s, p0, kc]
    · dsimp only
      rw [q_X12_timer]
      simp only [am_kd, m0, if_true, am_let_e, rd_hK_sFI, km, bI_s]
theorem st_person {B L d : Nat} {xs : Nat → Int32} {h : AH} (I : Inv B L xs h) (a b : Int32) : Ans h (fun h => am_C PG (d + 20) 131 [.ref 0, .int a, .int b] h) (fun h => am_C PG (d + 20) 217 [.ref 348, .int a, .int b] h) := by
  obtain ⟨k0, f61, f93, f112, k61, f62, f71, f76, S62, D71, H76, A93, a2, S103, Ch, hm, p, np, nc, ne, nw, len, n, W, hr, hp4, f1102, IP, hB, S, D, H⟩ := I.ex
  have hmm := hm
  have m0 := hmm.1
  have f1210 : hFR _ 1210 348 = some 350 := (hmm.2 1 (by decide)).1
  have k350 : hK _ 350 = 50 := (hmm.2 1 (by decide)).2.1
  have n350 : hLN _ 350 = 10 := (hmm.2 1 (by decide)).2.2
  have f1217 : hFR _ 1217 348 = some 357 := (hmm.2 8 (by decide)).1
  have k357 : hK _ 357 = 50 := (hmm.2 8 (by decide)).2.1
  have n357 : hLN _ 357 = 12 := (hmm.2 8 (by decide)).2.2
  have f1218 : hFR _ 1218 348 = some 358 := (hmm.2 9 (by decide)).1
  have k358 : hK _ 358 = 50 := (hmm.2 9 (by decide)).2.1
  have n358 : hLN _ 358 = 12 := (hmm.2 9 (by decide)).2.2
  have f1219 : hFR _ 1219 348 = some 359 := (hmm.2 10 (by decide)).1
  have k359 : hK _ 359 = 50 := (hmm.2 10 (by decide)).2.1
  have n359 : hLN _ 359 = 12 := (hmm.2 10 (by decide)).2.2
  have f1221 : hFR _ 1221 348 = some 361 := (hmm.2 12 (by decide)).1
  have k361 : hK _ 361 = 50 := (hmm.2 12 (by decide)).2.1
  have n361 : hLN _ 361 = 12 := (hmm.2 12 (by decide)).2.2
  have f1223 : hFR _ 1223 348 = some 363 := (hmm.2 14 (by decide)).1
  have k363 : hK _ 363 = 50 := (hmm.2 14 (by decide)).2.1
  have n363 : hLN _ 363 = 8 := (hmm.2 14 (by decide)).2.2
  have f1225 : hFR _ 1225 348 = some 365 := (hmm.2 16 (by decide)).1
  have k365 : hK _ 365 = 50 := (hmm.2 16 (by decide)).2.1
  have n365 : hLN _ 365 = 12 := (hmm.2 16 (by decide)).2.2
  have f1226 : hFR _ 1226 348 = some 366 := (hmm.2 17 (by decide)).1
  have k366 : hK _ 366 = 50 := (hmm.2 17 (by decide)).2.1
  have n366 : hLN _ 366 = 12 := (hmm.2 17 (by decide)).2.2
  have f1227 : hFR _ 1227 348 = some 367 := (hmm.2 18 (by decide)).1
  have k367 : hK _ 367 = 50 := (hmm.2 18 (by decide)).2.1
  have n367 : hLN _ 367 = 12 := (hmm.2 18 (by decide)).2.2
  have f1228 : hFR _ 1228 348 = some 368 := (hmm.2 19 (by decide)).1
  have k368 : hK _ 368 = 50 := (hmm.2 19 (by decide)).2.1
  have n368 : hLN _ 368 = 12 := (hmm.2 19 (by decide)).2.2
  have f1259 : hFR _ 1259 348 = some 397 := (hmm.2 48 (by decide)).1
  have k397 : hK _ 397 = 50 := (hmm.2 48 (by decide)).2.1
  have n397 : hLN _ 397 = 43 := (hmm.2 48 (by decide)).2.2
  obtain ⟨Lk0, NE, NM, FS, WY⟩ := IP
  have hmC := Lk0.2.2.2.2.2.1
  have h350 := Lk0.2.2.2.2.2.2.1
  have PR := Lk0.2.2.2.2.2.2.2.1
  have hn : np ≤ 5 ∧ nc ≤ 6 ∧ ne ≤ 4 ∧ nw ≤ 6 := ⟨Lk0.1.2.2.2.2.2.1, Lk0.1.2.2.2.2.2.2⟩
  have f50x := Lk0.1.2
  obtain ⟨⟨⟨p0, pf1, pf2, pf3, pf4, pf5, pf6, pf7, pf8, pf9, pf10, pf11, pf12, pf13, pf14, pf17, pk1, pk2, pk3, pk4, pk5, pk6, pk7, pk8, pk9, pk10, pk11, pk12, pk13, pn1, pn2, pn3, pn4, pn5, pn6, pn7, pn8, pn9, pn10, pn11, pn12, pn13⟩, -, -⟩, -⟩ := Lk0.1
  obtain ⟨z0, zf1, zf2, zf3, zf4, zf5, zf6, zf7, zf8, zk1, zk2, zk3, zk4, zk5, zk6, zk7, zk8, zn1, zn2, zn3, zn4, zn5, zn6, zn7, zn8⟩ := St62 S62
  have hm0 : MSh (sFI h 1200 348 0) := hm.to rfl (fun _ => rfl) rfl
  have z1 : ((1 : Int32) = 0) = False := eq_false (by decide)
  have zz : ((0 : Int32) = 0) = True := eq_true rfl

  have kc := c_isPerson (d := d + 18) Lk0.1 a
  have km := c_misPerson (d := d + 18) (n := ne) (h := sFI h 1200 348 0) hm0 hmC.2.1 a
  have kw := c_within (d + 18) b 0 3 (sFI h 1200 348 0)
  by_cases ha : ¬ a < 0 ∧ a < nI ne
  · rw [b2i_t ha] at kc km
    obtain ⟨c, hc, rfl⟩ := ix_of (by omega) ha
    have tc : Int32.toNatClampNeg (nI c) = c := nI_clamp (by omega)
    rcases i_rng b 3 (by decide) with hb | ⟨k, hk, rfl⟩
    · rw [wt0 (N := 3) (n := 3) rfl (by decide) hb] at kw
      have hf := i_rngF (by decide) hb
      have g0 : (Int32.toInt b = (0 : Int)) = False := eq_false (hf 0 (by decide))
      have g1 : (Int32.toInt b = (1 : Int)) = False := eq_false (hf 1 (by decide))
      have g2 : (Int32.toInt b = (2 : Int)) = False := eq_false (hf 2 (by decide))
      have g3 : (Int32.toInt b = (3 : Int)) = False := eq_false (hf 3 (by decide))
      refine ⟨-1, h, sFI h 1200 348 0, ?_, ?_, Qt.rfl' h, th_qt h⟩
      · dsimp only
        rw [q_X11_person]
        simp only [am_kd, k0, f1102, f61, k61, f62, if_true, if_false, bR_s, bI_s, p0, kc, z1, g0, g1, g2, g3]
      · dsimp only
        rw [q_X12_person]
        simp only [am_kd, m0, if_true, if_false, am_let_e, rd_hK_sFI, km, kw, bI_s, z1]
    · rw [wt1 (N := 3) (n := 3) rfl (by decide) hk] at kw
      rcases (show k = 0 ∨ k = 1 ∨ k = 2 ∨ k = 3 by omega) with rfl | rfl | rfl | rfl
      · have ic : ∀ x, am_in (nI c) 4 x = x := am_inN (by omega) (by decide)
        have im : ∀ x, am_in (nI c) 8 x = x := am_inN (by omega) (by decide)
        have am : (24 : Int32) + nI c = nI (24 + c) := nI_add 24 c
        have ie : ∀ x, am_in (nI (24 + c)) 43 x = x := am_inN (by omega) (by decide)
        have te : Int32.toNatClampNeg (nI (24 + c)) = 24 + c := nI_clamp (by omega)
        have e : hAI h 66 c = hAI h 397 (24 + c) := (S.2.2.2.1 c hc).1
        refine ⟨hAI h 66 c, h, sFI h 1200 348 0, ?_, ?_, Qt.rfl' h, th_qt h⟩
        · dsimp only
          rw [q_X11_person]
          simp (decide := true) only [am_kd, k0, f1102, f61, k61, f62, if_true, if_false, bR_s, bI_s, p0, pf1, pf2, pf3, pf4, pf5, pf6, pf7, pf8, pf9, pf10, pf11, pf12, pf13, pf14, pf17, pk1, pk2, pk3, pk4, pk5, pk6, pk7, pk8, pk9, pk10, pk11, pk12, pk13, pn1, pn2, pn3, pn4, pn5, pn6, pn7, pn8, pn9, pn10, pn11, pn12, pn13, z0, zf1, zf2, zf3, zf4, zf5, zf6, zf7, zf8, zk1, zk2, zk3, zk4, zk5, zk6, zk7, zk8, zn1, zn2, zn3, zn4, zn5, zn6, zn7, zn8, kc, z1, ic, tc]
        · dsimp only
          rw [q_X12_person, e]
          simp (decide := true) only [am_kd, m0, f1210, k350, n350, f1217, k357, n357, f1218, k358, n358, f1219, k359, n359, f1221, k361, n361, f1223, k363, n363, f1225, k365, n365, f1226, k366, n366, f1227, k367, n367, f1228, k368, n368, f1259, k397, n397, if_true, if_false, am_let_e, rd_hK_sFI, rd_hFR_sFI, rd_hLN_sFI, rd_hAI_sFI, km, kw, bI_s, bR_s, z1, im, tc, am, ie, te]
      · have ic : ∀ x, am_in (nI c) 4 x = x := am_inN (by omega) (by decide)
        have im : ∀ x, am_in (nI c) 8 x = x := am_inN (by omega) (by decide)
        have e : hAI h (p + 8) c = hAI h 363 c := PR.2.1 c hc
        refine ⟨hAI h (p + 8) c, h, sFI h 1200 348 0, ?_, ?_, Qt.rfl' h, th_qt h⟩
        · dsimp only
          rw [q_X11_person]
          simp (decide := true) only [am_kd, k0, f1102, f61, k61, f62, if_true, if_false, bR_s, bI_s, p0, pf1, pf2, pf3, pf4, pf5, pf6, pf7, pf8, pf9, pf10, pf11, pf12, pf13, pf14, pf17, pk1, pk2, pk3, pk4, pk5, pk6, pk7, pk8, pk9, pk10, pk11, pk12, pk13, pn1, pn2, pn3, pn4, pn5, pn6, pn7, pn8, pn9, pn10, pn11, pn12, pn13, z0, zf1, zf2, zf3, zf4, zf5, zf6, zf7, zf8, zk1, zk2, zk3, zk4, zk5, zk6, zk7, zk8, zn1, zn2, zn3, zn4, zn5, zn6, zn7, zn8, kc, z1, ic, tc]
        · dsimp only
          rw [q_X12_person, e]
          simp (decide := true) only [am_kd, m0, f1210, k350, n350, f1217, k357, n357, f1218, k358, n358, f1219, k359, n359, f1221, k361, n361, f1223, k363, n363, f1225, k365, n365, f1226, k366, n366, f1227, k367, n367, f1228, k368, n368, f1259, k397, n397, if_true, if_false, am_let_e, rd_hK_sFI, rd_hFR_sFI, rd_hLN_sFI, rd_hAI_sFI, km, kw, bI_s, bR_s, z1, im, tc]
      · have ic : ∀ x, am_in (nI c) 4 x = x := am_inN (by omega) (by decide)
        have im : ∀ x, am_in (nI c) 8 x = x := am_inN (by omega) (by decide)
        have am : (28 : Int32) + nI c = nI (28 + c) := nI_add 28 c
        have ie : ∀ x, am_in (nI (28 + c)) 43 x = x := am_inN (by omega) (by decide)
        have te : Int32.toNatClampNeg (nI (28 + c)) = 28 + c := nI_clamp (by omega)
        have e : hAI h 67 c = hAI h 397 (28 + c) := (S.2.2.2.1 c hc).2.1
        refine ⟨hAI h 67 c, h, sFI h 1200 348 0, ?_, ?_, Qt.rfl' h, th_qt h⟩
        · dsimp only
          rw [q_X11_person]
          simp (decide := true) only [am_kd, k0, f1102, f61, k61, f62, if_true, if_false, bR_s, bI_s, p0, pf1, pf2, pf3, pf4, pf5, pf6, pf7, pf8, pf9, pf10, pf11, pf12, pf13, pf14, pf17, pk1, pk2, pk3, pk4, pk5, pk6, pk7, pk8, pk9, pk10, pk11, pk12, pk13, pn1, pn2, pn3, pn4, pn5, pn6, pn7, pn8, pn9, pn10, pn11, pn12, pn13, z0, zf1, zf2, zf3, zf4, zf5, zf6, zf7, zf8, zk1, zk2, zk3, zk4, zk5, zk6, zk7, zk8, zn1, zn2, zn3, zn4, zn5, zn6, zn7, zn8, kc, z1, ic, tc]
        · dsimp only
          rw [q_X12_person, e]
          simp (decide := true) only [am_kd, m0, f1210, k350, n350, f1217, k357, n357, f1218, k358, n358, f1219, k359, n359, f1221, k361, n361, f1223, k363, n363, f1225, k365, n365, f1226, k366, n366, f1227, k367, n367, f1228, k368, n368, f1259, k397, n397, if_true, if_false, am_let_e, rd_hK_sFI, rd_hFR_sFI, rd_hLN_sFI, rd_hAI_sFI, km, kw, bI_s, bR_s, z1, im, tc, am, ie, te]
      · have ic : ∀ x, am_in (nI c) 4 x = x := am_inN (by omega) (by decide)
        have im : ∀ x, am_in (nI c) 8 x = x := am_inN (by omega) (by decide)
        have am : (32 : Int32) + nI c = nI (32 + c) := nI_add 32 c
        have ie : ∀ x, am_in (nI (32 + c)) 43 x = x := am_inN (by omega) (by decide)
        have te : Int32.toNatClampNeg (nI (32 + c)) = 32 + c := nI_clamp (by omega)
        have e : hAI h 68 c = hAI h 397 (32 + c) := (S.2.2.2.1 c hc).2.2
        refine ⟨hAI h 68 c, h, sFI h 1200 348 0, ?_, ?_, Qt.rfl' h, th_qt h⟩
        · dsimp only
          rw [q_X11_person]
          simp (decide := true) only [am_kd, k0, f1102, f61, k61, f62, if_true, if_false, bR_s, bI_s, p0, pf1, pf2, pf3, pf4, pf5, pf6, pf7, pf8, pf9, pf10, pf11, pf12, pf13, pf14, pf17, pk1, pk2, pk3, pk4, pk5, pk6, pk7, pk8, pk9, pk10, pk11, pk12, pk13, pn1, pn2, pn3, pn4, pn5, pn6, pn7, pn8, pn9, pn10, pn11, pn12, pn13, z0, zf1, zf2, zf3, zf4, zf5, zf6, zf7, zf8, zk1, zk2, zk3, zk4, zk5, zk6, zk7, zk8, zn1, zn2, zn3, zn4, zn5, zn6, zn7, zn8, kc, z1, ic, tc]
        · dsimp only
          rw [q_X12_person, e]
          simp (decide := true) only [am_kd, m0, f1210, k350, n350, f1217, k357, n357, f1218, k358, n358, f1219, k359, n359, f1221, k361, n361, f1223, k363, n363, f1225, k365, n365, f1226, k366, n366, f1227, k367, n367, f1228, k368, n368, f1259, k397, n397, if_true, if_false, am_let_e, rd_hK_sFI, rd_hFR_sFI, rd_hLN_sFI, rd_hAI_sFI, km, kw, bI_s, bR_s, z1, im, tc, am, ie, te]
  · rw [b2i_f ha] at kc km
    refine ⟨-1, h, sFI h 1200 348 0, ?_, ?_, Qt.rfl' h, th_qt h⟩
    · dsimp only
      rw [q_X11_person]
      simp only [am_kd, k0, f1102, f61, k61, f62, if_true, if_false, bR_s, bI_s, p0, kc]
    · dsimp only
      rw [q_X12_person]
      simp only [am_kd, m0, if_true, am_let_e, rd_hK_sFI, km, bI_s]
theorem st_work {B L d : Nat} {xs : Nat → Int32} {h : AH} (I : Inv B L xs h) (a b : Int32) : Ans h (fun h => am_C PG (d + 20) 132 [.ref 0, .int a, .int b] h) (fun h => am_C PG (d + 20) 218 [.ref 348, .int a, .int b] h) := by
  obtain ⟨k0, f61, f93, f112, k61, f62, f71, f76, S62, D71, H76, A93, a2, S103, Ch, hm, p, np, nc, ne, nw, len, n, W, hr, hp4, f1102, IP, hB, S, D, H⟩ := I.ex
  have hmm := hm
  have m0 := hmm.1
  have f1210 : hFR _ 1210 348 = some 350 := (hmm.2 1 (by decide)).1
  have k350 : hK _ 350 = 50 := (hmm.2 1 (by decide)).2.1
  have n350 : hLN _ 350 = 10 := (hmm.2 1 (by decide)).2.2
  have f1217 : hFR _ 1217 348 = some 357 := (hmm.2 8 (by decide)).1
  have k357 : hK _ 357 = 50 := (hmm.2 8 (by decide)).2.1
  have n357 : hLN _ 357 = 12 := (hmm.2 8 (by decide)).2.2
  have f1218 : hFR _ 1218 348 = some 358 := (hmm.2 9 (by decide)).1
  have k358 : hK _ 358 = 50 := (hmm.2 9 (by decide)).2.1
  have n358 : hLN _ 358 = 12 := (hmm.2 9 (by decide)).2.2
  have f1219 : hFR _ 1219 348 = some 359 := (hmm.2 10 (by decide)).1
  have k359 : hK _ 359 = 50 := (hmm.2 10 (by decide)).2.1
  have n359 : hLN _ 359 = 12 := (hmm.2 10 (by decide)).2.2
  have f1221 : hFR _ 1221 348 = some 361 := (hmm.2 12 (by decide)).1
  have k361 : hK _ 361 = 50 := (hmm.2 12 (by decide)).2.1
  have n361 : hLN _ 361 = 12 := (hmm.2 12 (by decide)).2.2
  have f1223 : hFR _ 1223 348 = some 363 := (hmm.2 14 (by decide)).1
  have k363 : hK _ 363 = 50 := (hmm.2 14 (by decide)).2.1
  have n363 : hLN _ 363 = 8 := (hmm.2 14 (by decide)).2.2
  have f1225 : hFR _ 1225 348 = some 365 := (hmm.2 16 (by decide)).1
  have k365 : hK _ 365 = 50 := (hmm.2 16 (by decide)).2.1
  have n365 : hLN _ 365 = 12 := (hmm.2 16 (by decide)).2.2
  have f1226 : hFR _ 1226 348 = some 366 := (hmm.2 17 (by decide)).1
  have k366 : hK _ 366 = 50 := (hmm.2 17 (by decide)).2.1
  have n366 : hLN _ 366 = 12 := (hmm.2 17 (by decide)).2.2
  have f1227 : hFR _ 1227 348 = some 367 := (hmm.2 18 (by decide)).1
  have k367 : hK _ 367 = 50 := (hmm.2 18 (by decide)).2.1
  have n367 : hLN _ 367 = 12 := (hmm.2 18 (by decide)).2.2
  have f1228 : hFR _ 1228 348 = some 368 := (hmm.2 19 (by decide)).1
  have k368 : hK _ 368 = 50 := (hmm.2 19 (by decide)).2.1
  have n368 : hLN _ 368 = 12 := (hmm.2 19 (by decide)).2.2
  have f1259 : hFR _ 1259 348 = some 397 := (hmm.2 48 (by decide)).1
  have k397 : hK _ 397 = 50 := (hmm.2 48 (by decide)).2.1
  have n397 : hLN _ 397 = 43 := (hmm.2 48 (by decide)).2.2
  obtain ⟨Lk0, NE, NM, FS, WY⟩ := IP
  have hmC := Lk0.2.2.2.2.2.1
  have h350 := Lk0.2.2.2.2.2.2.1
  have PR := Lk0.2.2.2.2.2.2.2.1
  have hn : np ≤ 5 ∧ nc ≤ 6 ∧ ne ≤ 4 ∧ nw ≤ 6 := ⟨Lk0.1.2.2.2.2.2.1, Lk0.1.2.2.2.2.2.2⟩
  have f50x := Lk0.1.2
  obtain ⟨⟨⟨p0, pf1, pf2, pf3, pf4, pf5, pf6, pf7, pf8, pf9, pf10, pf11, pf12, pf13, pf14, pf17, pk1, pk2, pk3, pk4, pk5, pk6, pk7, pk8, pk9, pk10, pk11, pk12, pk13, pn1, pn2, pn3, pn4, pn5, pn6, pn7, pn8, pn9, pn10, pn11, pn12, pn13⟩, -, -⟩, -⟩ := Lk0.1
  obtain ⟨z0, zf1, zf2, zf3, zf4, zf5, zf6, zf7, zf8, zk1, zk2, zk3, zk4, zk5, zk6, zk7, zk8, zn1, zn2, zn3, zn4, zn5, zn6, zn7, zn8⟩ := St62 S62
  have hm0 : MSh (sFI h 1200 348 0) := hm.to rfl (fun _ => rfl) rfl
  have z1 : ((1 : Int32) = 0) = False := eq_false (by decide)
  have zz : ((0 : Int32) = 0) = True := eq_true rfl

  have kw := c_within (d + 18) b 0 4 (sFI h 1200 348 0)
  have f505 := f50x.2.2.2.1
  have w350 : hAI h 350 4 = nI nw := hmC.2.2.1
  have e4 : ∀ x, am_in (4 : Int32) 10 x = x := am_inN (i := 4) (by decide) (by decide)
  have t4 : Int32.toNatClampNeg 4 = 4 := by decide
  by_cases ha : ¬ a < 0 ∧ a < nI nw
  · have c0 : (a < 0) = False := eq_false ha.1
    have c1 : (a < nI nw) = True := eq_true ha.2
    obtain ⟨c, hc, rfl⟩ := ix_of (by omega) ha
    have tc : Int32.toNatClampNeg (nI c) = c := nI_clamp (by omega)
    rcases i_rng b 4 (by decide) with hb | ⟨k, hk, rfl⟩
    · rw [wt0 (N := 4) (n := 4) rfl (by decide) hb] at kw
      have hf := i_rngF (by decide) hb
      have g0 : (Int32.toInt b = (0 : Int)) = False := eq_false (hf 0 (by decide))
      have g1 : (Int32.toInt b = (1 : Int)) = False := eq_false (hf 1 (by decide))
      have g2 : (Int32.toInt b = (2 : Int)) = False := eq_false (hf 2 (by decide))
      have g3 : (Int32.toInt b = (3 : Int)) = False := eq_false (hf 3 (by decide))
      have g4 : (Int32.toInt b = (4 : Int)) = False := eq_false (hf 4 (by decide))
      refine ⟨-1, h, sFI h 1200 348 0, ?_, ?_, Qt.rfl' h, th_qt h⟩
      · dsimp only
        rw [q_X11_work]
        simp only [am_kd, k0, f1102, f61, k61, f62, if_true, if_false, bR_s, bI_s, p0, f505, c0, c1, g0, g1, g2, g3, g4]
      · dsimp only
        rw [q_X12_work]
        simp only [am_kd, m0, f1210, k350, n350, f1217, k357, n357, f1218, k358, n358, f1219, k359, n359, f1221, k361, n361, f1223, k363, n363, f1225, k365, n365, f1226, k366, n366, f1227, k367, n367, f1228, k368, n368, f1259, k397, n397, if_true, if_false, am_let_e, rd_hK_sFI, rd_hFR_sFI, rd_hLN_sFI, rd_hAI_sFI, bR_s, e4, t4, w350, c0, c1, kw, bI_s]
    · rw [wt1 (N := 4) (n := 4) rfl (by decide) hk] at kw
      rcases (show k = 0 ∨ k = 1 ∨ k = 2 ∨ k = 3 ∨ k = 4 by omega) with rfl | rfl | rfl | rfl | rfl
      · have ic : ∀ x, am_in (nI c) 6 x = x := am_inN (by omega) (by decide)
        have im : ∀ x, am_in (nI c) 12 x = x := am_inN (by omega) (by decide)
        have e : hAI h (p + 9) c = hAI h 365 c := (PR.2.2.1 c hc).1
        refine ⟨hAI h (p + 9) c, h, sFI h 1200 348 0, ?_, ?_, Qt.rfl' h, th_qt h⟩
        · dsimp only
          rw [q_X11_work]
          simp (decide := true) only [am_kd, k0, f1102, f61, k61, f62, if_true, if_false, bR_s, bI_s, p0, pf1, pf2, pf3, pf4, pf5, pf6, pf7, pf8, pf9, pf10, pf11, pf12, pf13, pf14, pf17, pk1, pk2, pk3, pk4, pk5, pk6, pk7, pk8, pk9, pk10, pk11, pk12, pk13, pn1, pn2, pn3, pn4, pn5, pn6, pn7, pn8, pn9, pn10, pn11, pn12, pn13, z0, zf1, zf2, zf3, zf4, zf5, zf6, zf7, zf8, zk1, zk2, zk3, zk4, zk5, zk6, zk7, zk8, zn1, zn2, zn3, zn4, zn5, zn6, zn7, zn8, c0, c1, f505, z1, ic, tc]
        · dsimp only
          rw [q_X12_work, e]
          simp (decide := true) only [am_kd, m0, f1210, k350, n350, f1217, k357, n357, f1218, k358, n358, f1219, k359, n359, f1221, k361, n361, f1223, k363, n363, f1225, k365, n365, f1226, k366, n366, f1227, k367, n367, f1228, k368, n368, f1259, k397, n397, if_true, if_false, am_let_e, rd_hK_sFI, rd_hFR_sFI, rd_hLN_sFI, rd_hAI_sFI, e4, t4, w350, c0, c1, kw, bI_s, bR_s, z1, im, tc]
      · have ic : ∀ x, am_in (nI c) 6 x = x := am_inN (by omega) (by decide)
        have im : ∀ x, am_in (nI c) 12 x = x := am_inN (by omega) (by decide)
        have e : hAI h (p + 10) c = hAI h 366 c := (PR.2.2.1 c hc).2.1
        refine ⟨hAI h (p + 10) c, h, sFI h 1200 348 0, ?_, ?_, Qt.rfl' h, th_qt h⟩
        · dsimp only
          rw [q_X11_work]
          simp (decide := true) only [am_kd, k0, f1102, f61, k61, f62, if_true, if_false, bR_s, bI_s, p0, pf1, pf2, pf3, pf4, pf5, pf6, pf7, pf8, pf9, pf10, pf11, pf12, pf13, pf14, pf17, pk1, pk2, pk3, pk4, pk5, pk6, pk7, pk8, pk9, pk10, pk11, pk12, pk13, pn1, pn2, pn3, pn4, pn5, pn6, pn7, pn8, pn9, pn10, pn11, pn12, pn13, z0, zf1, zf2, zf3, zf4, zf5, zf6, zf7, zf8, zk1, zk2, zk3, zk4, zk5, zk6, zk7, zk8, zn1, zn2, zn3, zn4, zn5, zn6, zn7, zn8, c0, c1, f505, z1, ic, tc]
        · dsimp only
          rw [q_X12_work, e]
          simp (decide := true) only [am_kd, m0, f1210, k350, n350, f1217, k357, n357, f1218, k358, n358, f1219, k359, n359, f1221, k361, n361, f1223, k363, n363, f1225, k365, n365, f1226, k366, n366, f1227, k367, n367, f1228, k368, n368, f1259, k397, n397, if_true, if_false, am_let_e, rd_hK_sFI, rd_hFR_sFI, rd_hLN_sFI, rd_hAI_sFI, e4, t4, w350, c0, c1, kw, bI_s, bR_s, z1, im, tc]
      · have ic : ∀ x, am_in (nI c) 6 x = x := am_inN (by omega) (by decide)
        have im : ∀ x, am_in (nI c) 12 x = x := am_inN (by omega) (by decide)
        have e : hAI h (p + 11) c = hAI h 367 c := (PR.2.2.1 c hc).2.2.1
        refine ⟨hAI h (p + 11) c, h, sFI h 1200 348 0, ?_, ?_, Qt.rfl' h, th_qt h⟩
        · dsimp only
          rw [q_X11_work]
          simp (decide := true) only [am_kd, k0, f1102, f61, k61, f62, if_true, if_false, bR_s, bI_s, p0, pf1, pf2, pf3, pf4, pf5, pf6, pf7, pf8, pf9, pf10, pf11, pf12, pf13, pf14, pf17, pk1, pk2, pk3, pk4, pk5, pk6, pk7, pk8, pk9, pk10, pk11, pk12, pk13, pn1, pn2, pn3, pn4, pn5, pn6, pn7, pn8, pn9, pn10, pn11, pn12, pn13, z0, zf1, zf2, zf3, zf4, zf5, zf6, zf7, zf8, zk1, zk2, zk3, zk4, zk5, zk6, zk7, zk8, zn1, zn2, zn3, zn4, zn5, zn6, zn7, zn8, c0, c1, f505, z1, ic, tc]
        · dsimp only
          rw [q_X12_work, e]
          simp (decide := true) only [am_kd, m0, f1210, k350, n350, f1217, k357, n357, f1218, k358, n358, f1219, k359, n359, f1221, k361, n361, f1223, k363, n363, f1225, k365, n365, f1226, k366, n366, f1227, k367, n367, f1228, k368, n368, f1259, k397, n397, if_true, if_false, am_let_e, rd_hK_sFI, rd_hFR_sFI, rd_hLN_sFI, rd_hAI_sFI, e4, t4, w350, c0, c1, kw, bI_s, bR_s, z1, im, tc]
      · have ic : ∀ x, am_in (nI c) 6 x = x := am_inN (by omega) (by decide)
        have im : ∀ x, am_in (nI c) 12 x = x := am_inN (by omega) (by decide)
        have e : hAI h (p + 12) c = hAI h 368 c := (PR.2.2.1 c hc).2.2.2
        refine ⟨hAI h (p + 12) c, h, sFI h 1200 348 0, ?_, ?_, Qt.rfl' h, th_qt h⟩
        · dsimp only
          rw [q_X11_work]
          simp (decide := true) only [am_kd, k0, f1102, f61, k61, f62, if_true, if_false, bR_s, bI_s, p0, pf1, pf2, pf3, pf4, pf5, pf6, pf7, pf8, pf9, pf10, pf11, pf12, pf13, pf14, pf17, pk1, pk2, pk3, pk4, pk5, pk6, pk7, pk8, pk9, pk10, pk11, pk12, pk13, pn1, pn2, pn3, pn4, pn5, pn6, pn7, pn8, pn9, pn10, pn11, pn12, pn13, z0, zf1, zf2, zf3, zf4, zf5, zf6, zf7, zf8, zk1, zk2, zk3, zk4, zk5, zk6, zk7, zk8, zn1, zn2, zn3, zn4, zn5, zn6, zn7, zn8, c0, c1, f505, z1, ic, tc]
        · dsimp only
          rw [q_X12_work, e]
          simp (decide := true) only [am_kd, m0, f1210, k350, n350, f1217, k357, n357, f1218, k358, n358, f1219, k359, n359, f1221, k361, n361, f1223, k363, n363, f1225, k365, n365, f1226, k366, n366, f1227, k367, n367, f1228, k368, n368, f1259, k397, n397, if_true, if_false, am_let_e, rd_hK_sFI, rd_hFR_sFI, rd_hLN_sFI, rd_hAI_sFI, e4, t4, w350, c0, c1, kw, bI_s, bR_s, z1, im, tc]
      · have ic : ∀ x, am_in (nI c) 6 x = x := am_inN (by omega) (by decide)
        have im : ∀ x, am_in (nI c) 12 x = x := am_inN (by omega) (by decide)
        have am : (36 : Int32) + nI c = nI (36 + c) := nI_add 36 c
        have ie : ∀ x, am_in (nI (36 + c)) 43 x = x := am_inN (by omega) (by decide)
        have te : Int32.toNatClampNeg (nI (36 + c)) = 36 + c := nI_clamp (by omega)
        have e : hAI h 70 c = hAI h 397 (36 + c) := S.2.2.2.2.2.1 c hc
        refine ⟨hAI h 70 c, h, sFI h 1200 348 0, ?_, ?_, Qt.rfl' h, th_qt h⟩
        · dsimp only
          rw [q_X11_work]
          simp (decide := true) only [am_kd, k0, f1102, f61, k61, f62, if_true, if_false, bR_s, bI_s, p0, pf1, pf2, pf3, pf4, pf5, pf6, pf7, pf8, pf9, pf10, pf11, pf12, pf13, pf14, pf17, pk1, pk2, pk3, pk4, pk5, pk6, pk7, pk8, pk9, pk10, pk11, pk12, pk13, pn1, pn2, pn3, pn4, pn5, pn6, pn7, pn8, pn9, pn10, pn11, pn12, pn13, z0, zf1, zf2, zf3, zf4, zf5, zf6, zf7, zf8, zk1, zk2, zk3, zk4, zk5, zk6, zk7, zk8, zn1, zn2, zn3, zn4, zn5, zn6, zn7, zn8, c0, c1, f505, z1, ic, tc]
        · dsimp only
          rw [q_X12_work, e]
          simp (decide := true) only [am_kd, m0, f1210, k350, n350, f1217, k357, n357, f1218, k358, n358, f1219, k359, n359, f1221, k361, n361, f1223, k363, n363, f1225, k365, n365, f1226, k366, n366, f1227, k367, n367, f1228, k368, n368, f1259, k397, n397, if_true, if_false, am_let_e, rd_hK_sFI, rd_hFR_sFI, rd_hLN_sFI, rd_hAI_sFI, e4, t4, w350, c0, c1, kw, bI_s, bR_s, z1, im, tc, am, ie, te]
  · by_cases c0 : a < 0
    · refine ⟨-1, h, sFI h 1200 348 0, ?_, ?_, Qt.rfl' h, th_qt h⟩
      · dsimp only
        rw [q_X11_work, if_pos c0]
      · dsimp only
        rw [q_X12_work]
        simp only [am_kd, m0, if_true, am_let_e, if_pos c0]
    · have c1 : (a < nI nw) = False := eq_false (fun z => ha ⟨c0, z⟩)
      refine ⟨-1, h, sFI h 1200 348 0, ?_, ?_, Qt.rfl' h, th_qt h⟩
      · dsimp only
        rw [q_X11_work, if_neg c0]
        simp only [am_kd, k0, f1102, f61, k61, f62, if_true, if_false, bR_s, bI_s, p0, f505, c1]
      · dsimp only
        rw [q_X12_work]
        simp only [am_kd, m0, f1210, k350, n350, f1217, k357, n357, f1218, k358, n358, f1219, k359, n359, f1221, k361, n361, f1223, k363, n363, f1225, k365, n365, f1226, k366, n366, f1227, k367, n367, f1228, k368, n368, f1259, k397, n397, if_true, if_false, am_let_e, rd_hK_sFI, rd_hFR_sFI, rd_hLN_sFI, rd_hAI_sFI, bR_s, e4, t4, w350, if_neg c0, c1]
