/-! The deeds: mark. -/
theorem Sm.ai (h : AH) (a : Nat) (f : Nat → Int32) : Sm h (sAI h a f) := ⟨rfl, rfl, rfl, rfl, rfl, rfl, rfl⟩
theorem L4_S (H : AH) (f1 f2 f3 f4 : Nat → Int32) : Sm H (L4 H f1 f2 f3 f4) := by
  unfold L4
  exact (((Sm.ai H _ _).tr (Sm.ai _ _ _)).tr (Sm.ai _ _ _)).tr (Sm.ai _ _ _)
theorem L2_S (H : AH) (a : Nat) (f1 f2 : Nat → Int32) : Sm H (L2 H a f1 f2) := by
  unfold L2
  exact (Sm.ai H _ _).tr (Sm.ai _ _ _)
theorem LT_S (f t : Nat) (H : AH) : Sm H (LT f t H) := by
  unfold LT
  exact (Sm.ai H _ _).tr (Sm.ai _ _ _)
theorem LT_F (f t : Nat) (H : AH) : hFI (LT f t H) = hFI H := by
  unfold LT
  rw [rd_hFI_sAI, rd_hFI_sAI]
theorem LT_o (f t : Nat) (H : AH) {a : Nat} (e : a ≠ 391 ∧ a ≠ 394) : hAI (LT f t H) a = hAI H a := by
  unfold LT
  rw [sAI_ne _ _ e.2, sAI_ne _ _ e.1]
theorem LT_1 (f t : Nat) (H : AH) : hAI (LT f t H) 391 = upd (hAI H 391) t (hAI H 391 f) := by
  unfold LT
  rw [sAI_ne _ _ (by decide), sAI_at]
theorem LT_2 (f t : Nat) (H : AH) : hAI (LT f t H) 394 = upd (hAI H 394) t (hAI H 394 f) := by
  unfold LT
  rw [sAI_at]
theorem c_laysA {d f t : Nat} {h : AH} (hm : MSh h) (hf : f ≤ 4) (ht : t ≤ 4) (hne : f ≠ t) :
    ∃ X1, am_C PG (d + 1) 204 [.ref 348, .int (nI f), .int (nI t)] h = some (none, X1) ∧ Sm h X1 ∧ hFI X1 = hFI h ∧ (∀ a, (a < 386 ∨ 390 < a) → hAI X1 a = hAI h a) ∧ hAI X1 386 = upd (hAI h 386) t (hAI h 386 f) ∧ ∀ r, 387 ≤ r → r ≤ 390 → hAI X1 r = bcp (40 * f) (40 * t) 40 (hAI h r) := by
  have k1 := c_lays (d := d) hm hf ht hne
  refine ⟨_, k1, (Sm.ai h _ _).tr (L4_S _ _ _ _ _), (L4_F _ _ _ _ _).trans (rd_hFI_sAI _ _ _), fun a ha => (L4_o _ _ _ _ _ (by omega)).trans (sAI_ne _ _ (by omega)), (L4_o _ _ _ _ _ (by omega)).trans (sAI_at _ _ _), ?_⟩
  generalize bcp (40 * f) (40 * t) 40 = bb
  intro r r1 r2
  have : r = 387 ∨ r = 388 ∨ r = 389 ∨ r = 390 := by omega
  rcases this with z | z | z | z
  · rw [z]; exact L4_1 _ _ _ _ _
  · rw [z]; exact L4_2 _ _ _ _ _
  · rw [z]; exact L4_3 _ _ _ _ _
  · rw [z]; exact L4_4 _ _ _ _ _
theorem c_laysB {d f t : Nat} {h : AH} (hm : MSh h) (hf : f ≤ 4) (ht : t ≤ 4) (hne : f ≠ t) :
    ∃ X2, am_C PG (d + 1) 205 [.ref 348, .int (nI f), .int (nI t)] h = some (none, X2) ∧ Sm h X2 ∧ hFI X2 = hFI h ∧ (∀ a, (a < 391 ∨ 396 < a) → hAI X2 a = hAI h a) ∧ hAI X2 391 = upd (hAI h 391) t (hAI h 391 f) ∧ hAI X2 394 = upd (hAI h 394) t (hAI h 394 f) ∧ hAI X2 392 = bcp (10 * f) (10 * t) 10 (hAI h 392) ∧ hAI X2 393 = bcp (10 * f) (10 * t) 10 (hAI h 393) ∧ hAI X2 395 = bcp (12 * f) (12 * t) 12 (hAI h 395) ∧ hAI X2 396 = bcp (12 * f) (12 * t) 12 (hAI h 396) := by
  have k1 := c_layt (d := d) hm hf ht hne
  refine ⟨_, k1, ((LT_S f t h).tr (L2_S _ _ _ _)).tr (L2_S _ _ _ _), ((L2_F _ _ _ _).trans (L2_F _ _ _ _)).trans (LT_F f t h), fun a ha => ((L2_o _ _ _ _ (by omega)).trans (L2_o _ _ _ _ (by omega))).trans (LT_o f t h (by omega)), ((L2_o _ _ _ _ (by omega)).trans (L2_o _ _ _ _ (by omega))).trans (LT_1 f t h), ((L2_o _ _ _ _ (by omega)).trans (L2_o _ _ _ _ (by omega))).trans (LT_2 f t h), ?_, ?_, ?_, ?_⟩
  · exact (L2_o _ _ _ _ (by omega)).trans (L2_1 _ _ _ _)
  · exact (L2_o _ _ _ _ (by omega)).trans (L2_2 _ 392 _ _)
  · exact L2_1 _ _ _ _
  · exact L2_2 _ 395 _ _
theorem c_laysall {d f t : Nat} {h : AH} (hm : MSh h) (hf : f ≤ 4) (ht : t ≤ 4) (hne : f ≠ t) :
    ∃ X1 X2, am_C PG (d + 1) 204 [.ref 348, .int (nI f), .int (nI t)] h = some (none, X1) ∧ am_C PG (d + 1) 205 [.ref 348, .int (nI f), .int (nI t)] X1 = some (none, X2) ∧ hK X1 = hK h ∧ Sm h X2 ∧ hFI X2 = hFI h ∧ (∀ a, (a < 386 ∨ 396 < a) → hAI X2 a = hAI h a) ∧ (∀ r, r = 386 ∨ r = 391 ∨ r = 394 → hAI X2 r = upd (hAI h r) t (hAI h r f)) ∧ (∀ r, 387 ≤ r → r ≤ 390 → hAI X2 r = bcp (40 * f) (40 * t) 40 (hAI h r)) ∧ (∀ r, r = 392 ∨ r = 393 → hAI X2 r = bcp (10 * f) (10 * t) 10 (hAI h r)) ∧ ∀ r, r = 395 ∨ r = 396 → hAI X2 r = bcp (12 * f) (12 * t) 12 (hAI h r) := by
  obtain ⟨X1, k1, sm, sf, x1, x0, x2⟩ := c_laysA (d := d) hm hf ht hne
  obtain ⟨X2, k2, sm2, sf2, y1, y391, y394, y392, y393, y395, y396⟩ := c_laysB (d := d) (h := X1) (hm.to sm.1 (fun k => by rw [sm.2.1]) sm.2.2.1) hf ht hne
  refine ⟨X1, X2, k1, k2, sm.1, sm.tr sm2, sf2.trans sf, fun a ha => by rw [y1 _ (by omega), x1 _ (by omega)], fun r hr => ?_, fun r r1 r2 => by rw [y1 _ (by omega), x2 r r1 r2], fun r hr => ?_, fun r hr => ?_⟩
  · rcases hr with z | z | z
    · rw [z, y1 _ (by omega), x0]
    · rw [z, y391, x1 _ (by omega)]
    · rw [z, y394, x1 _ (by omega)]
  · rcases hr with z | z
    · rw [z, y392, x1 _ (by omega)]
    · rw [z, y393, x1 _ (by omega)]
  · rcases hr with z | z
    · rw [z, y395, x1 _ (by omega)]
    · rw [z, y396, x1 _ (by omega)]
theorem DaI.cp {h g : AH} {a k a' k' np nc ne : Nat} (e1 : hFI g 200 a' = hFI h 200 a) (e2 : ∀ j, 1 ≤ j → j ≤ 4 → ∀ i, i < 40 → hAI g (a' + j) i = hAI h (a + j) i) (e3 : hAI g 386 k' = hAI h 386 k) (e4 : ∀ r, 387 ≤ r → r ≤ 390 → ∀ i, i < 40 → hAI g r (40 * k' + i) = hAI h r (40 * k + i)) (s : DaI h a k np nc ne) : DaI g a' k' np nc ne := by
  obtain ⟨m, m1, m2, m3, m4⟩ := s
  refine ⟨m, m1, by rw [e1]; exact m2, by rw [e3]; exact m3, fun i hi => ?_⟩
  rw [e2 1 (by decide) (by decide) i (by omega), e2 2 (by decide) (by decide) i (by omega), e2 3 (by decide) (by decide) i (by omega), e2 4 (by decide) (by decide) i (by omega), e4 387 (by decide) (by decide) i (by omega), e4 388 (by decide) (by decide) i (by omega), e4 389 (by decide) (by decide) i (by omega), e4 390 (by decide) (by decide) i (by omega)]
  exact m4 i hi
theorem HeI.cp {h g : AH} {a k a' k' : Nat} (e1 : hFI g 300 a' = hFI h 300 a) (e1' : hFI g 303 a' = hFI h 303 a) (e2 : ∀ i, i < 10 → hAI g (a' + 1) i = hAI h (a + 1) i ∧ hAI g (a' + 2) i = hAI h (a + 2) i) (e2' : ∀ i, i < 12 → hAI g (a' + 3) i = hAI h (a + 3) i ∧ hAI g (a' + 4) i = hAI h (a + 4) i) (e3 : hAI g 391 k' = hAI h 391 k) (e3' : hAI g 394 k' = hAI h 394 k) (e4 : ∀ i, i < 10 → hAI g 392 (10 * k' + i) = hAI h 392 (10 * k + i) ∧ hAI g 393 (10 * k' + i) = hAI h 393 (10 * k + i)) (e5 : ∀ i, i < 12 → hAI g 395 (12 * k' + i) = hAI h 395 (12 * k + i) ∧ hAI g 396 (12 * k' + i) = hAI h 396 (12 * k + i)) (s : HeI h a k) : HeI g a' k' := by
  obtain ⟨⟨n, n1, n2, n3, n4⟩, ⟨m, m1, m2, m3, m4⟩⟩ := s
  refine ⟨⟨n, n1, by rw [e1]; exact n2, by rw [e3]; exact n3, fun i hi => ?_⟩, ⟨m, m1, by rw [e1']; exact m2, by rw [e3']; exact m3, fun i hi => ?_⟩⟩
  · rw [(e2 i (by omega)).1, (e2 i (by omega)).2, (e4 i (by omega)).1, (e4 i (by omega)).2]
    exact n4 i hi
  · rw [(e2' i (by omega)).1, (e2' i (by omega)).2, (e5 i (by omega)).1, (e5 i (by omega)).2]
    exact m4 i hi
theorem st_lay {B L d k : Nat} {xs : Nat → Int32} {h : AH} (I : Inv B L xs h) (hk : k < 4) : Stq B L xs h (fun h => am_C PG (d + 20) 157 [.ref 0, .int (nI k), .int 0] h) (fun h => am_C PG (d + 20) 267 [.ref 348, .int (nI k), .int 0] h) := by
  obtain ⟨p, dp, np, nc, ne, nw, len, n, W, IQ, NW, U⟩ := I.q
  obtain ⟨k0, -, -, -, f1105, f1106, f1107, -, -, -, -, -, -, -, S61, ⟨k81, n81, r81⟩, ⟨k82, n82⟩, -, -, -, -, -, hm, -, -⟩ := IQ.1
  have k61 := S61.1
  obtain ⟨a81, S81⟩ := r81 k hk
  have k9 := S81.1
  have m0 := hm.1
  have hn : np ≤ 5 ∧ nc ≤ 6 ∧ ne ≤ 4 ∧ nw ≤ 6 := ⟨IQ.2.2.2.2.2.2.2.2.2.1.1.1.2.2.2.2.2.1, IQ.2.2.2.2.2.2.2.2.2.1.1.1.2.2.2.2.2.2⟩
  have D := IQ.2.2.2.2.2.2.2.2.2.2.1
  have H := IQ.2.2.2.2.2.2.2.2.2.2.2.1
  have M := IQ.2.2.2.2.2.2.2.2.2.2.2.2
  obtain ⟨G, cc, sG, cS, cD, cH1, cH2, cF, cA, cD4, cH3, cH4⟩ := c_scopy (d := d + 17) S81 S61 (by omega)
  have c0 : (nI k < (0 : Int32)) = False := eq_false (nI_nlt (b := 0) (by omega) (by omega))
  have c4 : (nI k < (4 : Int32)) = True := eq_true (nI_lt (b := 4) hk (by decide))
  have e4 : ∀ x, am_in (nI k) 4 x = x := am_inN hk (by decide)
  have tk : Int32.toNatClampNeg (nI k) = k := nI_clamp (by omega)
  have g0 : hK G 0 = 12 := by rw [sG.1]; exact k0
  have g1107 : hFR G 1107 0 = some 82 := by rw [sG.2.1]; exact f1107
  have g82 : hK G 82 = 52 := by rw [sG.1]; exact k82
  have gn82 : hLN G 82 = 4 := by rw [sG.2.2.1]; exact n82
  have kc : am_C PG (d + 20) 157 [.ref 0, .int (nI k), .int 0] h = some (some (.int 1), sAI G 82 (upd (hAI G 82) k 1)) := by
    rw [q_X11_mark]
    simp only [am_kd, k0, f1105, f1106, f1107, k61, k81, n81, k82, n82, if_true, if_false, bR_s, bI_s, bV_s, am_nar4_0, am_nar4_1, c0, c4, e4, tk, a81, k9, cc, g0, g1107, g82, gn82, sEI_e, am_let_e]
  have eG82 : hAI G 82 = hAI h 82 := cA _ (by omega)
  rw [eG82] at kc
  -- the class's heap
  generalize hg : sAI G 82 (upd (hAI h 82) k 1) = g1 at kc
  have s1 : Sm h g1 := by rw [← hg]; exact sG.tr ⟨rfl, rfl, rfl, rfl, rfl, rfl, rfl⟩
  have f1 : hFI g1 = hFI G := by rw [← hg]; rfl
  have a1 : ∀ a, a ≠ 82 → hAI g1 a = hAI G a := fun a ha => by rw [← hg, sAI_ne _ _ ha]
  have a82 : hAI g1 82 = upd (hAI h 82) k 1 := by rw [← hg, sAI_at]
  -- the reference
  have hm0 : MSh (sAI (sFI g1 1200 348 0) 401 (upd (hAI h 401) k 1)) := hm.to s1.1 (fun k => by show hFR g1 k 348 = _; rw [s1.2.1]) s1.2.2.1
  obtain ⟨X1, X2, l1, l2, xk, xs', xf, xa, xu, xd, xh, xt⟩ := c_laysall (d := d + 18) (f := 0) (t := 1 + k) hm0 (by decide) (by omega) (by omega)
  have hm1 : MSh g1 := hm.to s1.1 (fun k => by rw [s1.2.1]) s1.2.2.1
  have hm2 : MSh X2 := hm0.to xs'.1 (fun k => by rw [xs'.2.1]) xs'.2.2.1
  have hm2' := hm2
  have kX1 : hK X1 348 = 13 := by rw [xk]; exact hm0.1
  have r1 : hFR g1 1263 348 = some 401 := (hm1.2 52 (by decide)).1
  have r2 : hK g1 401 = 52 := (hm1.2 52 (by decide)).2.1
  have r3 : hLN g1 401 = 4 := (hm1.2 52 (by decide)).2.2
  have kg1 : hK g1 348 = 13 := hm1.1
  have kX2 : hK X2 348 = 13 := hm2.1
  have u59 : hFR X2 1259 348 = some 397 := (hm2.2 48 (by decide)).1
  have u59k : hK X2 397 = 50 := (hm2.2 48 (by decide)).2.1
  have u59n : hLN X2 397 = 43 := (hm2.2 48 (by decide)).2.2
  have u61 : hFR X2 1261 348 = some 399 := (hm2.2 50 (by decide)).1
  have u61k : hK X2 399 = 50 := (hm2.2 50 (by decide)).2.1
  have u61n : hLN X2 399 = 172 := (hm2.2 50 (by decide)).2.2
  have kp := c_copies (d := d + 18) (r1 := 397) (r2 := 399) (n1 := 43) (n2 := 172) (a := 0) (b := 43 * k) (h := X2) (by decide) u59k u61k u59n u61n (by decide) (by omega) (by decide) (by decide)
  have kp' : am_C PG (d + 19) 201 [.ref 397, .int 0, .ref 399, .int (nI (43 * k))] X2 = some (none, sAI X2 399 (am_cpy (hAI X2 397) (hAI X2 399) 0 (43 * k) 43)) := kp
  have l1' : am_C PG (d + 19) 204 [.ref 348, .int 0, .int (nI (1 + k))] (sAI (sFI g1 1200 348 0) 401 (upd (hAI h 401) k 1)) = some (none, X1) := l1
  have l2' : am_C PG (d + 19) 205 [.ref 348, .int 0, .int (nI (1 + k))] X1 = some (none, X2) := l2
  have kw := c_within (d + 18) (nI k) 0 3 (sFI g1 1200 348 0)
  rw [b2i_t ⟨nI_nlt (b := 0) (by omega) (by omega), show ¬ nI 3 < nI k from nI_nlt (by omega) (by omega)⟩] at kw
  have z1 : ((1 : Int32) = 0) = False := eq_false (by decide)
  have z2 : ((0 : Int32) = 0) = True := eq_true rfl
  have e1 : (1 : Int32) + nI k = nI (1 + k) := nI_add 1 k
  have e43 : (43 : Int32) * nI k = nI (43 * k) := pk_mul 43 k
  have w401 : hAI (sFI g1 1200 348 0) 401 = hAI h 401 := by rw [rd_hAI_sFI, a1 401 (by decide), cA 401 (by omega)]
  have km : am_C PG (d + 20) 267 [.ref 348, .int (nI k), .int 0] g1 = some (some (.int 1), sAI X2 399 (am_cpy (hAI X2 397) (hAI X2 399) 0 (43 * k) 43)) := by
    rw [q_X12_mark]
    simp only [am_kd, kg1, if_true, if_false, am_let_e, rd_hK_sFI, rd_hFR_sFI, rd_hLN_sFI, kw, bI_s, z1, z2, r1, r2, r3, bR_s, e4, tk, am_nar4_1, sEI_e, w401]
    rw [q_X12_mark_47]
    have kX0 : hK (sAI (sFI g1 1200 348 0) 401 (upd (hAI h 401) k 1)) 348 = 13 := hm0.1
    simp only [am_kd, kX0, z2, if_true, e1, l1', bV_s, kX1, l2', kX2, u59, u61, bR_s, e43, kp', am_nar4_1]
  -- what became of it
  have xa' : ∀ a, a ≠ 399 → hAI (sAI X2 399 (am_cpy (hAI X2 397) (hAI X2 399) 0 (43 * k) 43)) a = hAI X2 a := fun a ha => sAI_ne _ _ ha
  have x399 : hAI (sAI X2 399 (am_cpy (hAI X2 397) (hAI X2 399) 0 (43 * k) 43)) 399 = am_cpy (hAI X2 397) (hAI X2 399) 0 (43 * k) 43 := sAI_at _ _ _
  have xs2 : Sm g1 (sAI X2 399 (am_cpy (hAI X2 397) (hAI X2 399) 0 (43 * k) 43)) := (show Sm g1 (sAI (sFI g1 1200 348 0) 401 (upd (hAI h 401) k 1)) from ⟨rfl, rfl, rfl, rfl, rfl, rfl, rfl⟩).tr (xs'.tr ⟨rfl, rfl, rfl, rfl, rfl, rfl, rfl⟩)
  have xf2 : ∀ j a, (j ≠ 1200 ∨ a ≠ 348) → hFI (sAI X2 399 (am_cpy (hAI X2 397) (hAI X2 399) 0 (43 * k) 43)) j a = hFI G j a := fun j a ha => by
    rw [rd_hFI_sAI, xf, rd_hFI_sAI, sFI_o _ _ ha, f1]
  have xb : ∀ a, a ≠ 401 → hAI (sAI (sFI g1 1200 348 0) 401 (upd (hAI h 401) k 1)) a = hAI g1 a := fun a ha => by rw [sAI_ne _ _ ha, rd_hAI_sFI]
  have xb1 : hAI (sAI (sFI g1 1200 348 0) 401 (upd (hAI h 401) k 1)) 401 = upd (hAI h 401) k 1 := sAI_at _ _ _
  -- rows of the reference
  have q0 : ∀ a, (a < 386 ∨ 396 < a) → a ≠ 399 → a ≠ 401 → a ≠ 82 → (a < 124 + 20 * k ∨ 124 + 20 * k + 19 < a) → hAI (sAI X2 399 (am_cpy (hAI X2 397) (hAI X2 399) 0 (43 * k) 43)) a = hAI h a := fun a y1 y2 y3 y4 y5 => by
    rw [xa' a y2, xa a y1, xb a y3, a1 a y4, cA a y5]
  have q1 : ∀ a, a < 348 → a ≠ 82 → hAI (sAI X2 399 (am_cpy (hAI X2 397) (hAI X2 399) 0 (43 * k) 43)) a = hAI G a := fun a y1 y2 => by
    rw [xa' a (by omega), xa a (by omega), xb a (by omega), a1 a y2]
  have q82 : hAI (sAI X2 399 (am_cpy (hAI X2 397) (hAI X2 399) 0 (43 * k) 43)) 82 = upd (hAI h 82) k 1 := by rw [xa' 82 (by omega), xa 82 (by omega), xb 82 (by omega), a82]
  have q401 : hAI (sAI X2 399 (am_cpy (hAI X2 397) (hAI X2 399) 0 (43 * k) 43)) 401 = upd (hAI h 401) k 1 := by rw [xa' 401 (by omega), xa 401 (by omega), xb1]
  have gR : ∀ a, 347 < a → hAI g1 a = hAI h a := fun a ha => by rw [a1 a (by omega), cA a (by omega)]
  have q386 : ∀ r, r = 386 ∨ r = 391 ∨ r = 394 → hAI (sAI X2 399 (am_cpy (hAI X2 397) (hAI X2 399) 0 (43 * k) 43)) r = upd (hAI h r) (1 + k) (hAI h r 0) := fun r hr => by
    rw [xa' r (by omega), xu r hr, xb r (by omega), gR r (by omega)]
  have q387 : ∀ r, 387 ≤ r → r ≤ 390 → hAI (sAI X2 399 (am_cpy (hAI X2 397) (hAI X2 399) 0 (43 * k) 43)) r = bcp 0 (40 * (1 + k)) 40 (hAI h r) := fun r h1 h2 => by
    rw [xa' r (by omega), xd r h1 h2, xb r (by omega), gR r (by omega)]
  have q392 : ∀ r, r = 392 ∨ r = 393 → hAI (sAI X2 399 (am_cpy (hAI X2 397) (hAI X2 399) 0 (43 * k) 43)) r = bcp 0 (10 * (1 + k)) 10 (hAI h r) := fun r hr => by
    rw [xa' r (by omega), xh r hr, xb r (by omega), gR r (by omega)]
  have q395 : ∀ r, r = 395 ∨ r = 396 → hAI (sAI X2 399 (am_cpy (hAI X2 397) (hAI X2 399) 0 (43 * k) 43)) r = bcp 0 (12 * (1 + k)) 12 (hAI h r) := fun r hr => by
    rw [xa' r (by omega), xt r hr, xb r (by omega), gR r (by omega)]
  have q399 : ∀ i, (i < 43 * k ∨ 43 * k + 43 ≤ i) → hAI (sAI X2 399 (am_cpy (hAI X2 397) (hAI X2 399) 0 (43 * k) 43)) 399 i = hAI h 399 i := fun i hi => by
    rw [x399]
    unfold am_cpy
    rw [if_neg (by omega), xa 399 (by omega), xb 399 (by omega), gR 399 (by omega)]
  have q399k : ∀ j, j < 43 → hAI (sAI X2 399 (am_cpy (hAI X2 397) (hAI X2 399) 0 (43 * k) 43)) 399 (43 * k + j) = hAI h 397 j := fun j hj => by
    rw [x399]
    unfold am_cpy
    rw [if_pos (by omega), xa 397 (by omega), xb 397 (by omega), gR 397 (by omega), show 0 + (43 * k + j - 43 * k) = j by omega]
  have lg : hAI (sAI X2 399 (am_cpy (hAI X2 397) (hAI X2 399) 0 (43 * k) 43)) 1000101 = hAI g1 1000101 := by rw [xa' _ (by omega), xa _ (by omega), xb _ (by omega)]
  generalize sAI X2 399 (am_cpy (hAI X2 397) (hAI X2 399) 0 (43 * k) 43) = g2 at km xs2 xf2 q0 q1 q82 q401 q386 q387 q392 q395 q399 q399k lg
  clear xa' x399
  refine ⟨1, g1, g2, kc, km, ⟨s1.1, s1.2.2.1, gR _ (by omega)⟩, ⟨xs2.1, xs2.2.2.1, lg⟩, xs2.2.2.2.2.2.2.trans s1.2.2.2.2.2.2, ?_⟩
  have s2 : Sm h g2 := s1.tr xs2
  have ff : ∀ j a, (a < 124 + 20 * k ∨ 124 + 20 * k + 19 < a) → (j ≠ 1200 ∨ a ≠ 348) → hFI g2 j a = hFI h j a := fun j a y1 y2 => by rw [xf2 j a y2, cF j a y1]
  have qw : Qw h g2 := ⟨s2.1, s2.2.1, s2.2.2.1, s2.2.2.2.1, s2.2.2.2.2.1, fun k a _ => by rw [s2.2.2.2.2.2.1], fun a _ w => by
    unfold cW at w
    exact q0 a (by omega) (by omega) (by omega) (by omega) (by omega), fun j a c w => by
    unfold cFld at c
    unfold cWf at w
    exact ff j a (by omega) (by
      by_cases e : a = 348
      · have := c.2.2.2 e
        left; omega
      · exact Or.inr e)⟩
  have b2 : B ≤ B + 24 := by omega
  refine qw.inv IQ ((NW.mono b2).fr hn (q0 _ (by omega) (by omega) (by omega) (by omega) (by omega)) (q0 _ (by omega) (by omega) (by omega) (by omega) (by omega)) (getS_fr (ff _ _ (by omega) (by omega)) (fun k h1 h2 => q0 _ (by omega) (by omega) (by omega) (by omega) (by omega))) (fun j _ => by rw [q0 397 (by omega) (by omega) (by omega) (by omega) (by omega)])) (D.fr (ff _ _ (by omega) (by omega)) (fun j h1 h2 => q0 _ (by omega) (by omega) (by omega) (by omega) (by omega)) (by rw [q386 386 (by omega), pk_un (by omega)]) (fun x h1 h2 i hi => by rw [q387 x h1 h2, bcp_far _ (by omega)])) (H.fr (ff _ _ (by omega) (by omega)) (ff _ _ (by omega) (by omega)) (fun j h1 h2 => q0 _ (by omega) (by omega) (by omega) (by omega) (by omega)) (by rw [q386 391 (by omega), pk_un (by omega)]) (by rw [q386 394 (by omega), pk_un (by omega)]) (fun i hi => ⟨by rw [q392 392 (by omega), bcp_far _ (by omega)], by rw [q392 393 (by omega), bcp_far _ (by omega)]⟩) (fun i hi => ⟨by rw [q395 395 (by omega), bcp_far _ (by omega)], by rw [q395 396 (by omega), bcp_far _ (by omega)]⟩)) ?_ ((U.mono b2).fr (q0 _ (by omega) (by omega) (by omega) (by omega) (by omega)) (q0 _ (by omega) (by omega) (by omega) (by omega) (by omega)) (fun a h1 h2 => q0 _ (by omega) (by omega) (by omega) (by omega) (by omega)) (fun a h1 h2 => ff _ _ (by omega) (by omega)) (ff _ _ (by omega) (by omega)) (ff _ _ (by omega) (by omega)) (ff _ _ (by omega) (by omega)) (q0 _ (by omega) (by omega) (by omega) (by omega) (by omega)))
  intro j hj
  obtain ⟨m1, m2, m3⟩ := M j hj
  rw [q82, q401]
  by_cases e : j = k
  · subst e
    rw [pk_us, pk_us]
    refine ⟨rfl, Or.inr rfl, fun _ => ⟨?_, ?_, ?_⟩⟩
    · obtain ⟨hr, t1, t2⟩ := NW
      refine ⟨hr, by omega, ?_⟩
      rw [getS_fr (h := G) (xf2 _ _ (by omega)) (fun k h1 h2 => q1 _ (by omega) (by omega)), show (125 + 20 * j) = 124 + 20 * j + 1 by omega, cS]
      exact SR_M (q0 _ (by omega) (by omega) (by omega) (by omega) (by omega)) (q0 _ (by omega) (by omega) (by omega) (by omega) (by omega)) (SR_cpS hn (SR_dec hn (fun i hi => q399k i hi) t2))
    · refine D.cp (by rw [xf2 _ _ (by omega), show 134 + 20 * j = 124 + 20 * j + 10 by omega, cD]) (fun x h1 h2 i hi => ?_) (by rw [q386 386 (by omega), show j + 1 = 1 + j by omega, pk_us]) (fun x h1 h2 i hi => ?_)
      · rw [q1 _ (by omega) (by omega), show 134 + 20 * j = 124 + 20 * j + 10 by omega, cD4 x h1 h2 i hi]
      · rw [q387 x h1 h2, show j + 1 = 1 + j by omega, bcp_at _ hi, Nat.mul_zero]
    · refine H.cp (by rw [xf2 _ _ (by omega), show 139 + 20 * j = 124 + 20 * j + 15 by omega, cH1]) (by rw [xf2 _ _ (by omega), show 139 + 20 * j = 124 + 20 * j + 15 by omega, cH2]) (fun i hi => ?_) (fun i hi => ?_) (by rw [q386 391 (by omega), show j + 1 = 1 + j by omega, pk_us]) (by rw [q386 394 (by omega), show j + 1 = 1 + j by omega, pk_us]) (fun i hi => ?_) (fun i hi => ?_)
      · rw [q1 _ (by omega) (by omega), q1 _ (by omega) (by omega), show 139 + 20 * j = 124 + 20 * j + 15 by omega]
        exact cH3 i hi
      · rw [q1 _ (by omega) (by omega), q1 _ (by omega) (by omega), show 139 + 20 * j = 124 + 20 * j + 15 by omega]
        exact cH4 i hi
      · rw [q392 392 (by omega), q392 393 (by omega), show j + 1 = 1 + j by omega, bcp_at _ hi, bcp_at _ hi, Nat.mul_zero]
        exact ⟨rfl, rfl⟩
      · rw [q395 395 (by omega), q395 396 (by omega), show j + 1 = 1 + j by omega, bcp_at _ hi, bcp_at _ hi, Nat.mul_zero]
        exact ⟨rfl, rfl⟩
  · rw [pk_un e, pk_un e]
    refine ⟨m1, m2, fun z => ?_⟩
    obtain ⟨⟨hr, t1, t2⟩, t3, t4⟩ := m3 z
    refine ⟨⟨hr, by omega, ?_⟩, ?_, ?_⟩
    · rw [getS_fr (h := h) (ff _ _ (by omega) (by omega)) (fun i h1 h2 => q0 _ (by omega) (by omega) (by omega) (by omega) (by omega))]
      refine SR_M (q0 _ (by omega) (by omega) (by omega) (by omega) (by omega)) (q0 _ (by omega) (by omega) (by omega) (by omega) (by omega)) (SR_dec hn (fun i hi => ?_) t2)
      exact q399 _ (by omega)
    · exact t3.fr (ff _ _ (by omega) (by omega)) (fun x h1 h2 => q0 _ (by omega) (by omega) (by omega) (by omega) (by omega)) (by rw [q386 386 (by omega), pk_un (by omega)]) (fun x h1 h2 i hi => by rw [q387 x h1 h2, bcp_far _ (by omega)])
    · exact t4.fr (ff _ _ (by omega) (by omega)) (ff _ _ (by omega) (by omega)) (fun x h1 h2 => q0 _ (by omega) (by omega) (by omega) (by omega) (by omega)) (by rw [q386 391 (by omega), pk_un (by omega)]) (by rw [q386 394 (by omega), pk_un (by omega)]) (fun i hi => ⟨by rw [q392 392 (by omega), bcp_far _ (by omega)], by rw [q392 393 (by omega), bcp_far _ (by omega)]⟩) (fun i hi => ⟨by rw [q395 395 (by omega), bcp_far _ (by omega)], by rw [q395 396 (by omega), bcp_far _ (by omega)]⟩)
