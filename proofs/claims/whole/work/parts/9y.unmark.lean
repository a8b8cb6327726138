/-! The deeds: mark, taken back. -/
theorem st_unlay {B L d k : Nat} {xs : Nat → Int32} {h : AH} (I : Inv B L xs h) (hk : k < 4) (b : Int32) (hb : b ≠ 0) : Stq B L xs h (fun h => am_C PG (d + 20) 157 [.ref 0, .int (nI k), .int b] h) (fun h => am_C PG (d + 20) 267 [.ref 348, .int (nI k), .int b] h) := by
  obtain ⟨p, dp, np, nc, ne, nw, len, n, W, IQ, NW, U⟩ := I.q
  obtain ⟨k0, -, -, -, f1105, f1106, f1107, -, -, -, -, -, -, -, S61, ⟨k81, n81, r81⟩, ⟨k82, n82⟩, -, -, -, -, -, hm, -, -⟩ := IQ.1
  have k61 := S61.1
  obtain ⟨a81, S81⟩ := r81 k hk
  have k9 := S81.1
  have m0 := hm.1
  have hn : np ≤ 5 ∧ nc ≤ 6 ∧ ne ≤ 4 ∧ nw ≤ 6 := ⟨IQ.2.2.2.2.2.2.2.2.2.1.1.1.2.2.2.2.2.1, IQ.2.2.2.2.2.2.2.2.2.1.1.1.2.2.2.2.2.2⟩
  have M := IQ.2.2.2.2.2.2.2.2.2.2.2.2
  have c0 : (nI k < (0 : Int32)) = False := eq_false (nI_nlt (b := 0) (by omega) (by omega))
  have c4 : (nI k < (4 : Int32)) = True := eq_true (nI_lt (b := 4) hk (by decide))
  have e4 : ∀ x, am_in (nI k) 4 x = x := am_inN hk (by decide)
  have tk : Int32.toNatClampNeg (nI k) = k := nI_clamp (by omega)
  have zb : (b = 0) = False := eq_false hb
  have z1 : ((1 : Int32) = 0) = False := eq_false (by decide)
  have hm1 : MSh (sFI h 1200 348 0) := hm.to rfl (fun _ => rfl) rfl
  have r1 : ∀ g : AH, hK g = hK h → hFR g = hFR h → hLN g = hLN h → hK g 348 = 13 ∧ hFR g 1263 348 = some 401 ∧ hK g 401 = 52 ∧ hLN g 401 = 4 := fun g y1 y2 y3 => by
    rw [y1, y2, y3]
    exact ⟨hm.1, (hm.2 52 (by decide)).1, (hm.2 52 (by decide)).2.1, (hm.2 52 (by decide)).2.2⟩
  have kw : ∀ g, am_C PG (d + 19) 161 [.int (nI k), .int 0, .int 3] (sFI g 1200 348 0) = some (some (.int 1), sFI g 1200 348 0) := fun g => by
    have := c_within (d + 18) (nI k) 0 3 (sFI g 1200 348 0)
    rw [b2i_t ⟨nI_nlt (b := 0) (by omega) (by omega), show ¬ nI 3 < nI k from nI_nlt (by omega) (by omega)⟩] at this
    exact this
  obtain ⟨m1, m2, m3⟩ := M k hk
  by_cases ez : hAI h 401 k = 0
  · obtain ⟨t1, t2, t3, t4⟩ := r1 h rfl rfl rfl
    have ez' : hAI h 82 k = 0 := m1.trans ez
    have kw := kw h
    refine Ans.stp I (Ans.no (r := 0) ?_ ?_)
    · rw [q_X11_mark]
      simp only [am_kd, k0, f1105, f1106, f1107, k61, k81, n81, k82, n82, if_true, if_false, bR_s, bI_s, bV_s, am_nar4_0, am_nar4_1, c0, c4, zb, e4, tk, ez']
    · rw [q_X12_mark]
      simp only [am_kd, t1, if_true, if_false, am_let_e, rd_hK_sFI, rd_hFR_sFI, rd_hLN_sFI, rd_hAI_sFI, kw, bI_s, z1, zb, t2, t3, t4, bR_s, e4, tk, am_nar4_0, ez]
  have ez1 : hAI h 401 k = 1 := m2.resolve_left ez
  have ez' : (hAI h 82 k = 0) = False := eq_false (by rw [m1]; exact ez)
  obtain ⟨⟨hr, hr1, hr2⟩, D, H⟩ := m3 ez1
  obtain ⟨G, cc, sG, cS, cD, cH1, cH2, cF, cA, cD4, cH3, cH4⟩ := c_scopy (d := d + 17) S61 S81 (by omega)
  have g0 : hK G 0 = 12 := by rw [sG.1]; exact k0
  have kc : am_C PG (d + 20) 157 [.ref 0, .int (nI k), .int b] h = some (some (.int 1), sFI G 1110 0 0) := by
    rw [q_X11_mark]
    simp only [am_kd, k0, f1105, f1106, f1107, k61, k81, n81, k82, n82, if_true, if_false, bR_s, bI_s, bV_s, am_nar4_0, am_nar4_1, c0, c4, zb, e4, tk, ez', a81, cc, g0, am_let_e]
  -- the class's heap
  generalize hg : sFI G 1110 0 0 = g1 at kc
  have s1 : Sm h g1 := by rw [← hg]; exact sG.tr ⟨rfl, rfl, rfl, rfl, rfl, rfl, rfl⟩
  have f1 : ∀ j a, (j ≠ 1110 ∨ a ≠ 0) → hFI g1 j a = hFI G j a := fun j a hj => by rw [← hg, sFI_o _ _ hj]
  have f1110 : hFI g1 1110 0 = 0 := by rw [← hg, sFI_at]
  have a1 : hAI g1 = hAI G := by rw [← hg]; rfl
  have gR : ∀ a, 347 < a → hAI g1 a = hAI h a := fun a ha => by rw [a1, cA a (by omega)]
  -- the reference
  have up1 : upd (hAI h 401) k 1 = hAI h 401 := by
    funext j
    by_cases e : j = k
    · subst e; rw [pk_us, ez1]
    · rw [pk_un e]
  have hm0 : MSh (sAI (sFI g1 1200 348 0) 401 (hAI h 401)) := hm.to s1.1 (fun k => by show hFR g1 k 348 = _; rw [s1.2.1]) s1.2.2.1
  obtain ⟨X1, X2, l1, l2, xk, xs', xf, xa, xu, xd, xh, xt⟩ := c_laysall (d := d + 18) (f := 1 + k) (t := 0) hm0 (by omega) (by decide) (by omega)
  have hm2 : MSh X2 := hm0.to xs'.1 (fun k => by rw [xs'.2.1]) xs'.2.2.1
  have kX1 : hK X1 348 = 13 := by rw [xk]; exact hm0.1
  obtain ⟨t1, t2, t3, t4⟩ := r1 g1 s1.1 s1.2.1 s1.2.2.1
  have kX2 : hK X2 348 = 13 := hm2.1
  have u59 : hFR X2 1259 348 = some 397 := (hm2.2 48 (by decide)).1
  have u59k : hK X2 397 = 50 := (hm2.2 48 (by decide)).2.1
  have u59n : hLN X2 397 = 43 := (hm2.2 48 (by decide)).2.2
  have u61 : hFR X2 1261 348 = some 399 := (hm2.2 50 (by decide)).1
  have u61k : hK X2 399 = 50 := (hm2.2 50 (by decide)).2.1
  have u61n : hLN X2 399 = 172 := (hm2.2 50 (by decide)).2.2
  have kp := c_copies (d := d + 18) (r1 := 399) (r2 := 397) (n1 := 172) (n2 := 43) (a := 43 * k) (b := 0) (h := X2) (by decide) u61k u59k u61n u59n (by omega) (by decide) (by decide) (by decide)
  have kp' : am_C PG (d + 19) 201 [.ref 399, .int (nI (43 * k)), .ref 397, .int 0] X2 = some (none, sAI X2 397 (am_cpy (hAI X2 399) (hAI X2 397) (43 * k) 0 43)) := kp
  have l1' : am_C PG (d + 19) 204 [.ref 348, .int (nI (1 + k)), .int 0] (sAI (sFI g1 1200 348 0) 401 (hAI h 401)) = some (none, X1) := l1
  have l2' : am_C PG (d + 19) 205 [.ref 348, .int (nI (1 + k)), .int 0] X1 = some (none, X2) := l2
  have kw := kw g1
  have e1 : (1 : Int32) + nI k = nI (1 + k) := nI_add 1 k
  have e43 : (43 : Int32) * nI k = nI (43 * k) := pk_mul 43 k
  have w401 : hAI (sFI g1 1200 348 0) 401 = hAI h 401 := by rw [rd_hAI_sFI, gR 401 (by decide)]
  have ez2 : (hAI h 401 k = 0) = False := eq_false ez
  have kX3 : hK (sAI X2 397 (am_cpy (hAI X2 399) (hAI X2 397) (43 * k) 0 43)) 348 = 13 := kX2
  have km : am_C PG (d + 20) 267 [.ref 348, .int (nI k), .int b] g1 = some (some (.int 1), sFI (sAI X2 397 (am_cpy (hAI X2 399) (hAI X2 397) (43 * k) 0 43)) 1264 348 0) := by
    rw [q_X12_mark]
    simp only [am_kd, t1, if_true, if_false, am_let_e, rd_hK_sFI, rd_hFR_sFI, rd_hLN_sFI, kw, bI_s, z1, zb, t2, t3, t4, bR_s, e4, tk, am_nar4_1, sEI_e, w401, ez2, up1, e1]
    rw [q_X12_mark_47]
    have kX0 : hK (sAI (sFI g1 1200 348 0) 401 (hAI h 401)) 348 = 13 := hm0.1
    simp only [am_kd, kX0, zb, if_true, if_false, l1', bV_s, kX1, l2', kX2, u59, u61, bR_s, e43, kp', am_nar4_1, kX3, am_let_e]
  -- what became of it
  have xa' : ∀ a, a ≠ 397 → hAI (sFI (sAI X2 397 (am_cpy (hAI X2 399) (hAI X2 397) (43 * k) 0 43)) 1264 348 0) a = hAI X2 a := fun a ha => by rw [rd_hAI_sFI, sAI_ne _ _ ha]
  have x397 : hAI (sFI (sAI X2 397 (am_cpy (hAI X2 399) (hAI X2 397) (43 * k) 0 43)) 1264 348 0) 397 = am_cpy (hAI X2 399) (hAI X2 397) (43 * k) 0 43 := by rw [rd_hAI_sFI, sAI_at]
  have xs2 : Sm g1 (sFI (sAI X2 397 (am_cpy (hAI X2 399) (hAI X2 397) (43 * k) 0 43)) 1264 348 0) := (show Sm g1 (sAI (sFI g1 1200 348 0) 401 (hAI h 401)) from ⟨rfl, rfl, rfl, rfl, rfl, rfl, rfl⟩).tr (xs'.tr ⟨rfl, rfl, rfl, rfl, rfl, rfl, rfl⟩)
  have xf2 : ∀ j a, (j ≠ 1200 ∨ a ≠ 348) → (j ≠ 1264 ∨ a ≠ 348) → hFI (sFI (sAI X2 397 (am_cpy (hAI X2 399) (hAI X2 397) (43 * k) 0 43)) 1264 348 0) j a = hFI g1 j a := fun j a ha hb => by
    rw [sFI_o _ _ hb, rd_hFI_sAI, xf, rd_hFI_sAI, sFI_o _ _ ha]
  have x1264 : hFI (sFI (sAI X2 397 (am_cpy (hAI X2 399) (hAI X2 397) (43 * k) 0 43)) 1264 348 0) 1264 348 = 0 := sFI_at _ _ _ _
  have xb : ∀ a, a ≠ 401 → hAI (sAI (sFI g1 1200 348 0) 401 (hAI h 401)) a = hAI g1 a := fun a ha => by rw [sAI_ne _ _ ha, rd_hAI_sFI]
  have xb1 : hAI (sAI (sFI g1 1200 348 0) 401 (hAI h 401)) 401 = hAI h 401 := sAI_at _ _ _
  have q0 : ∀ a, (a < 386 ∨ 396 < a) → a ≠ 397 → (a < 61 ∨ 80 < a) → hAI (sFI (sAI X2 397 (am_cpy (hAI X2 399) (hAI X2 397) (43 * k) 0 43)) 1264 348 0) a = hAI h a := fun a y1 y2 y3 => by
    by_cases e : a = 401
    · rw [e, xa' 401 (by omega), xa 401 (by omega), xb1]
    · rw [xa' a y2, xa a y1, xb a e, a1, cA a (by omega)]
  have q1 : ∀ a, a < 348 → hAI (sFI (sAI X2 397 (am_cpy (hAI X2 399) (hAI X2 397) (43 * k) 0 43)) 1264 348 0) a = hAI G a := fun a y1 => by
    rw [xa' a (by omega), xa a (by omega), xb a (by omega), a1]
  have q386 : ∀ r, r = 386 ∨ r = 391 ∨ r = 394 → hAI (sFI (sAI X2 397 (am_cpy (hAI X2 399) (hAI X2 397) (43 * k) 0 43)) 1264 348 0) r = upd (hAI h r) 0 (hAI h r (1 + k)) := fun r hr => by
    rw [xa' r (by omega), xu r hr, xb r (by omega), gR r (by omega)]
  have q387 : ∀ r, 387 ≤ r → r ≤ 390 → hAI (sFI (sAI X2 397 (am_cpy (hAI X2 399) (hAI X2 397) (43 * k) 0 43)) 1264 348 0) r = bcp (40 * (1 + k)) 0 40 (hAI h r) := fun r h1 h2 => by
    rw [xa' r (by omega), xd r h1 h2, xb r (by omega), gR r (by omega)]
  have q392 : ∀ r, r = 392 ∨ r = 393 → hAI (sFI (sAI X2 397 (am_cpy (hAI X2 399) (hAI X2 397) (43 * k) 0 43)) 1264 348 0) r = bcp (10 * (1 + k)) 0 10 (hAI h r) := fun r hr => by
    rw [xa' r (by omega), xh r hr, xb r (by omega), gR r (by omega)]
  have q395 : ∀ r, r = 395 ∨ r = 396 → hAI (sFI (sAI X2 397 (am_cpy (hAI X2 399) (hAI X2 397) (43 * k) 0 43)) 1264 348 0) r = bcp (12 * (1 + k)) 0 12 (hAI h r) := fun r hr => by
    rw [xa' r (by omega), xt r hr, xb r (by omega), gR r (by omega)]
  have q397 : ∀ j, j < 43 → hAI (sFI (sAI X2 397 (am_cpy (hAI X2 399) (hAI X2 397) (43 * k) 0 43)) 1264 348 0) 397 j = hAI h 399 (43 * k + j) := fun j hj => by
    rw [x397]
    unfold am_cpy
    rw [if_pos (by omega), xa 399 (by omega), xb 399 (by omega), gR 399 (by omega), Nat.sub_zero]
  have lg : hAI (sFI (sAI X2 397 (am_cpy (hAI X2 399) (hAI X2 397) (43 * k) 0 43)) 1264 348 0) 1000101 = hAI g1 1000101 := by rw [xa' _ (by omega), xa _ (by omega), xb _ (by omega)]
  generalize sFI (sAI X2 397 (am_cpy (hAI X2 399) (hAI X2 397) (43 * k) 0 43)) 1264 348 0 = g2 at km xs2 xf2 x1264 q0 q1 q386 q387 q392 q395 q397 lg
  clear xa' x397
  refine ⟨1, g1, g2, kc, km, ⟨s1.1, s1.2.2.1, gR _ (by omega)⟩, ⟨xs2.1, xs2.2.2.1, lg⟩, xs2.2.2.2.2.2.2.trans s1.2.2.2.2.2.2, ?_⟩
  have s2 : Sm h g2 := s1.tr xs2
  have ff : ∀ j a, (a < 61 ∨ 80 < a) → (j ≠ 1200 ∨ a ≠ 348) → (j ≠ 1264 ∨ a ≠ 348) → (j ≠ 1110 ∨ a ≠ 0) → hFI g2 j a = hFI h j a := fun j a y1 y2 y3 y4 => by rw [xf2 j a y2 y3, f1 j a y4, cF j a (by omega)]
  have fG : ∀ j a, 61 ≤ a → a ≤ 80 → hFI g2 j a = hFI G j a := fun j a y1 y2 => by rw [xf2 j a (by omega) (by omega), f1 j a (by omega)]
  have qw : Qw h g2 := ⟨s2.1, s2.2.1, s2.2.2.1, s2.2.2.2.1, s2.2.2.2.2.1, fun k a _ => by rw [s2.2.2.2.2.2.1], fun a c w => by
    unfold cRow at c
    unfold cW at w
    exact q0 a (by omega) (by omega) (by omega), fun j a c w => by
    unfold cFld at c
    unfold cWf at w
    exact ff j a (by omega) (by
      by_cases e : a = 348
      · have := c.2.2.2 e
        left; omega
      · exact Or.inr e) (by
      by_cases e : a = 348
      · exact Or.inl (w.2.1 e)
      · exact Or.inr e) (by
      by_cases e : a = 0
      · exact Or.inl (w.1 e).2
      · exact Or.inr e)⟩
  have r359 : hAI g2 359 = hAI h 359 := q0 _ (by omega) (by omega) (by omega)
  have r368 : hAI g2 368 = hAI h 368 := q0 _ (by omega) (by omega) (by omega)
  obtain ⟨fr, mn, u1, u2, u3, u4, u5, u6⟩ := U
  refine qw.inv IQ ⟨hr, by omega, ?_⟩ ?_ ?_ ((M.mono (by omega)).fr r359 r368 (fun a h1 h2 => q0 _ (by omega) (by omega) (by omega)) (fun j a h1 h2 => ff _ _ (by omega) (by omega) (by omega) (by omega)) (q0 _ (by omega) (by omega) (by omega)) (q0 _ (by omega) (by omega) (by omega)) (q0 _ (by omega) (by omega) (by omega)) (fun j h1 h2 => ⟨by rw [q386 386 (by omega), pk_un (by omega)], by rw [q386 391 (by omega), pk_un (by omega)], by rw [q386 394 (by omega), pk_un (by omega)]⟩) (fun x h1 h2 i hi => by rw [q387 x h1 h2, bcp_far _ (by omega)]) (fun i hi => ⟨by rw [q392 392 (by omega), bcp_far _ (by omega)], by rw [q392 393 (by omega), bcp_far _ (by omega)]⟩) (fun i hi => ⟨by rw [q395 395 (by omega), bcp_far _ (by omega)], by rw [q395 396 (by omega), bcp_far _ (by omega)]⟩)) ⟨fr, 0, u1, by omega, by rw [ff _ _ (by omega) (by omega) (by omega) (by omega)]; exact u3, by rw [xf2 _ _ (by omega) (by omega)]; exact f1110, x1264, fun j hj => absurd hj (by omega)⟩
  · rw [getS_fr (h := G) (fG _ _ (by omega) (by omega)) (fun i h1 h2 => q1 _ (by omega)), cS, show 124 + 20 * k + 1 = 125 + 20 * k by omega]
    exact SR_M r359 r368 (SR_cpS hn (SR_dec hn (fun j hj => q397 j hj) hr2))
  · refine D.cp (by rw [fG _ _ (by omega) (by omega), show 134 + 20 * k = 124 + 20 * k + 10 by omega]; exact cD) (fun x h1 h2 i hi => ?_) (by rw [q386 386 (by omega), show k + 1 = 1 + k by omega, pk_us]) (fun x h1 h2 i hi => ?_)
    · rw [q1 _ (by omega), show 134 + 20 * k = 124 + 20 * k + 10 by omega]
      exact cD4 x h1 h2 i hi
    · rw [q387 x h1 h2, show k + 1 = 1 + k by omega, show 40 * 0 + i = 0 + i by omega, bcp_at _ hi]
  · refine H.cp (by rw [fG _ _ (by omega) (by omega), show 139 + 20 * k = 124 + 20 * k + 15 by omega]; exact cH1) (by rw [fG _ _ (by omega) (by omega), show 139 + 20 * k = 124 + 20 * k + 15 by omega]; exact cH2) (fun i hi => ?_) (fun i hi => ?_) (by rw [q386 391 (by omega), show k + 1 = 1 + k by omega, pk_us]) (by rw [q386 394 (by omega), show k + 1 = 1 + k by omega, pk_us]) (fun i hi => ?_) (fun i hi => ?_)
    · rw [q1 _ (by omega), q1 _ (by omega), show 139 + 20 * k = 124 + 20 * k + 15 by omega]
      exact cH3 i hi
    · rw [q1 _ (by omega), q1 _ (by omega), show 139 + 20 * k = 124 + 20 * k + 15 by omega]
      exact cH4 i hi
    · rw [q392 392 (by omega), q392 393 (by omega), show k + 1 = 1 + k by omega, show 10 * 0 + i = 0 + i by omega, bcp_at _ hi, bcp_at _ hi]
      exact ⟨rfl, rfl⟩
    · rw [q395 395 (by omega), q395 396 (by omega), show k + 1 = 1 + k by omega, show 12 * 0 + i = 0 + i by omega, bcp_at _ hi, bcp_at _ hi]
      exact ⟨rfl, rfl⟩
theorem st_mark {B L d : Nat} {xs : Nat → Int32} {h : AH} (I : Inv B L xs h) (a b : Int32) : Stq B L xs h (fun h => am_C PG (d + 20) 157 [.ref 0, .int a, .int b] h) (fun h => am_C PG (d + 20) 267 [.ref 348, .int a, .int b] h) := by
  by_cases ha : ¬ a < 0 ∧ ¬ 3 < a
  · obtain ⟨k, g1, g2, rfl⟩ := in_rng (a := 0) (b := 3) rfl rfl (by decide) (by decide) ha
    by_cases hb : b = 0
    · subst hb
      exact st_lay I (by omega)
    · exact st_unlay I (by omega) b hb
  · have hm : MSh h := I.ex.2.2.2.2.2.2.2.2.2.2.2.2.2.2.2.1
    have m0 := hm.1
    have kw := c_within (d + 18) a 0 3 (sFI h 1200 348 0)
    rw [b2i_f ha] at kw
    refine Ans.stp I (Ans.no (r := 0) ?_ ?_)
    · rw [q_X11_mark]
      by_cases c1 : a < 0
      · simp only [eq_true c1, if_true, am_nar4_0]
      · have c2 : ¬ a < (4 : Int32) := fun z => by
          obtain ⟨j, hj, rfl⟩ := ix_of (n := 4) (by decide) ⟨c1, z⟩
          exact ha ⟨c1, show ¬ nI 3 < nI j from nI_nlt (by omega) (by omega)⟩
        simp only [eq_false c1, eq_false c2, if_false, am_nar4_0]
    · rw [q_X12_mark]
      simp only [am_kd, m0, if_true, am_let_e, rd_hK_sFI, kw, bI_s, am_nar4_0]
