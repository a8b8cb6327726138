/-! The deeds: say and tell. -/
/-- what a post and its drafts are made of stays -/
def cW (a : Nat) : Prop := (a < 61 ∨ 82 < a) ∧ (a < 124 ∨ 347 < a) ∧ (a < 386 ∨ 396 < a) ∧ (a < 399 ∨ 401 < a)
def cWf (k a : Nat) : Prop := (a = 0 → k ≠ 1109 ∧ k ≠ 1110) ∧ (a = 348 → k ≠ 1264) ∧ (a < 61 ∨ 82 < a) ∧ (a < 124 ∨ 347 < a)
def Qw (h g : AH) : Prop := hK g = hK h ∧ hFR g = hFR h ∧ hLN g = hLN h ∧ hAR g = hAR h ∧ hAJ g = hAJ h ∧ (∀ k a, 1000000 ≤ a → hFJ g k a = hFJ h k a) ∧ (∀ a, cRow a → cW a → hAI g a = hAI h a) ∧ ∀ k a, cFld k a → cWf k a → hFI g k a = hFI h k a
theorem Qw.law {h g : AH} (q : Qw h g) : LawK h g := ⟨q.1, q.2.2.1, q.2.2.2.2.2.2.1 _ (by unfold cRow; omega) (by unfold cW; omega)⟩
theorem Qw.inv {B B' L : Nat} {xs : Nat → Int32} {h g : AH} {p dp np nc ne nw len n : Nat} {W : Int32 → Int32 → Int32 → Int32 → Int32} (q : Qw h g) (Q : InvQ B L xs h p dp np nc ne nw len n W) (N : NowI B' g np nc ne nw) (D : DaI g 71 0 np nc ne) (H : HeI g 76 0) (M : MaI B' g np nc ne nw) (U : UnI B' g np nc ne nw) : Inv B' L xs g := by
  obtain ⟨q1, q2, q3, q4, q5, q7, q8, q9⟩ := q
  obtain ⟨s1, s2, s3, s4, s5, s6, t1, t2, t3, t4, -, -, -⟩ := Q
  have r : ∀ a, (a ≠ 20 ∧ a ≠ 46 ∧ (a < 61 ∨ 92 < a) ∧ (a < 95 ∨ 111 < a) ∧ (a < 113 ∨ 347 < a) ∧ (a < 375 ∨ a = 385 ∨ 401 < a) ∧ (a < 402 ∨ 409 < a)) → hAI g a = hAI h a := fun a ha => q8 a (by unfold cRow; omega) (by unfold cW; omega)
  have f : ∀ k a, ((k = 700 → a ≠ 84 ∧ a ≠ 94 ∧ a ≠ 103) ∧ a ≠ 112 ∧ a ≠ 93 ∧ (a = 348 → k = 1201) ∧ (a = 0 → k ≠ 1109 ∧ k ≠ 1110) ∧ (a < 61 ∨ 82 < a) ∧ (a < 124 ∨ 347 < a)) → hFI g k a = hFI h k a := fun k a ha => q9 k a (by unfold cFld; omega) (by unfold cWf; omega)
  have hp3 : 3 < p ∧ p ≤ 30 ∧ (p = 4 ∨ p = 30) := by rcases t1 with ⟨z, _⟩ | ⟨z, _⟩ <;> subst z <;> decide
  refine ⟨s1.to q1 (fun k a _ _ _ => by rw [q2]) q3 q4, s2.to q1 q4 q3 q7 (fun a ha => f _ _ (by omega)), by rw [r _ (by decide)]; exact s3, ?_, ?_, s6.fr (f _ _ (by decide)) (f _ _ (by decide)) (r _ (by decide)) (r _ (by decide)), p, dp, np, nc, ne, nw, len, n, W, t1, by rw [q2]; exact t2, by rw [q2]; exact t3, ?_, N, D, H, M, U⟩
  · rw [getS_fr (f _ _ (by decide)) (fun k h1 h2 => r _ (by omega))]
    exact s4
  · rw [getS_fr (f _ _ (by decide)) (fun k h1 h2 => r _ (by omega))]
    exact s5
  · exact t4.fr q1 (fun k a _ => by rw [q2]) q3 hp3.1 hp3.2.1 (fun k h1 h2 => r _ (by omega)) (fun k h1 h2 a ha => f _ _ (by omega)) (f _ _ (by omega)) (fun a h1 h2 => r _ (by omega)) q5
/-- now, days and the rest, when only what is said and told changes -/
theorem he_inv {B B' L : Nat} {xs : Nat → Int32} {h g : AH} {p dp np nc ne nw len n : Nat} {W : Int32 → Int32 → Int32 → Int32 → Int32} (hb : B ≤ B') (Q : InvQ B L xs h p dp np nc ne nw len n W) (N : NowI B h np nc ne nw) (U : UnI B h np nc ne nw) (k1 : hK g = hK h) (k2 : hFR g = hFR h) (k3 : hLN g = hLN h) (k4 : hAR g = hAR h) (k5 : hAJ g = hAJ h) (k6 : hFJ g = hFJ h)
    (r : ∀ a, (a < 77 ∨ 80 < a) → (a < 391 ∨ 396 < a) → hAI g a = hAI h a) (f : ∀ k a, (a = 76 → k ≠ 300 ∧ k ≠ 303) → (a = 348 → k ≠ 1200) → hFI g k a = hFI h k a) (u : ∀ i, 1 ≤ i → hAI g 391 i = hAI h 391 i ∧ hAI g 394 i = hAI h 394 i) (u1 : ∀ i, 10 ≤ i → hAI g 392 i = hAI h 392 i ∧ hAI g 393 i = hAI h 393 i) (u2 : ∀ i, 12 ≤ i → hAI g 395 i = hAI h 395 i ∧ hAI g 396 i = hAI h 396 i) (H : HeI g 76 0) : Inv B' L xs g ∧ Qw h g := by
  have q : Qw h g := ⟨k1, k2, k3, k4, k5, fun k a _ => by rw [k6], fun a _ w => by
    unfold cW at w
    exact r a (by omega) (by omega), fun k a c w => by
    unfold cFld at c
    unfold cWf at w
    exact f k a (fun z => by omega) (fun z => by
      have := c.2.2.2 z
      have := w.2.1 z
      omega)⟩
  have hn : np ≤ 5 ∧ nc ≤ 6 ∧ ne ≤ 4 ∧ nw ≤ 6 := ⟨Q.2.2.2.2.2.2.2.2.2.1.1.1.2.2.2.2.2.1, Q.2.2.2.2.2.2.2.2.2.1.1.1.2.2.2.2.2.2⟩
  have D := Q.2.2.2.2.2.2.2.2.2.2.1
  have M := Q.2.2.2.2.2.2.2.2.2.2.2.2
  refine ⟨q.inv (Q.mono hb) ((N.mono hb).fr hn (r _ (by decide) (by decide)) (r _ (by decide) (by decide)) (getS_fr (f _ _ (by decide) (by decide)) (fun k h1 h2 => r _ (by omega) (by omega))) (fun j _ => by rw [r 397 (by decide) (by decide)])) (D.fr (f _ _ (by decide) (by decide)) (fun j h1 h2 => r _ (by omega) (by omega)) (by rw [r _ (by decide) (by decide)]) (fun x h1 h2 i hi => by rw [r _ (by omega) (by omega)])) H ((M.mono hb).fr (r _ (by decide) (by decide)) (r _ (by decide) (by decide)) (fun a h1 h2 => r _ (by omega) (by omega)) (fun k a h1 h2 => f _ _ (fun z => by omega) (fun z => by omega)) (r _ (by decide) (by decide)) (r _ (by decide) (by decide)) (r _ (by decide) (by decide)) (fun k h1 h2 => ⟨by rw [r _ (by decide) (by decide)], (u k h1).1, (u k h1).2⟩) (fun x h1 h2 i hi => by rw [r _ (by omega) (by omega)]) u1 u2) ((U.mono hb).fr (r _ (by decide) (by decide)) (r _ (by decide) (by decide)) (fun a h1 h2 => r _ (by omega) (by omega)) (fun a h1 h2 => f _ _ (fun z => by omega) (fun z => by omega)) (f _ _ (by decide) (by decide)) (f _ _ (by decide) (by decide)) (f _ _ (by decide) (by decide)) (r _ (by decide) (by decide))), q⟩
theorem Qt.thr {h g : AH} (q : Qt h g) : Qt h (sFI g 1200 348 0) := q.tr (th_qt g)
theorem st_say {B L d : Nat} {xs : Nat → Int32} {h : AH} (I : Inv B L xs h) (t a b : Int32) : Stq B L xs h (fun h => am_C PG (d + 20) 147 [.ref 0, .int t, .int a, .int b] h) (fun h => am_C PG (d + 20) 246 [.ref 348, .int t, .int a, .int b] h) := by
  obtain ⟨k0, f61, f84, k61, f62, S62, S84, hm, p, dp, np, nc, ne, nw, len, n, W, hp4, f1102, IQ, NW, U⟩ := I.dd
  have m0 := hm.1
  have z1 : ((1 : Int32) = 0) = False := eq_false (by decide)
  have H := IQ.2.2.2.2.2.2.2.2.2.2.2.1
  have STO : StoSh h 61 := IQ.1.2.2.2.2.2.2.2.2.2.2.2.2.2.2.1
  have f76 : hFR h 802 61 = some 76 := STO.2.2.2.1
  have H76 : HeSh h 76 := STO.2.2.2.2.2.2
  have h76 := H76.1
  obtain ⟨Lk0, -⟩ := IQ.2.2.2.2.2.2.2.2.2.1
  have p0 := Lk0.1.1.1.1
  have kt := c_isClock (d := d + 18) Lk0.1 t
  have rt : ∀ G, Qt h G → am_C PG (d + 19) 210 [.ref 348, .int t] (sFI G 1200 348 0) = some (some (.int (b2i (¬ t < 0 ∧ t < nI nc))), sFI G 1200 348 0) := fun G q => c_misTimer (d := d + 18) (n := nc) (h := sFI G 1200 348 0) (Lk0.qt q.thr hp4).2.2.2.1 (Lk0.qt q.thr hp4).2.2.2.2.2.1.1 t
  have rg : ∀ G x M, am_C PG (d + 19) 161 [.int x, .int 0, .int M] (sFI G 1200 348 0) = some (some (.int (b2i (¬ x < 0 ∧ ¬ M < x))), sFI G 1200 348 0) := fun G x M => c_within (d + 18) x 0 M (sFI G 1200 348 0)
  have kG : ∀ G, Qt h G → hK G 348 = 13 := fun G q => by rw [q.1]; exact m0
  by_cases ht : ¬ t < 0 ∧ t < nI nc
  case neg =>
    rw [b2i_f ht] at kt
    refine Ans.stp I (Ans.no (r := 0) ?_ ?_)
    · rw [q_X11_say]
      simp only [am_kd, k0, f1102, f61, k61, f76, h76, if_true, if_false, bR_s, bI_s, bV_s, am_nar4_0, am_nar4_1, p0, kt]
    · have kq := rt h (Qt.rfl' h)
      rw [b2i_f ht] at kq
      rw [q_X12_say]
      simp only [am_kd, m0, if_true, am_let_e, rd_hK_sFI, kq, bI_s, am_nar4_0]
  rw [b2i_t ht] at kt
  by_cases ha : ¬ a < 0 ∧ ¬ 999 < a
  case neg =>
    have kw := rg h a 999
    rw [b2i_f ha] at kw
    have kq := rt h (Qt.rfl' h)
    rw [b2i_t ht] at kq
    refine Ans.stp I (Ans.no (r := 0) ?_ ?_)
    · rw [q_X11_say]
      by_cases c1 : a < 0
      · simp only [am_kd, k0, f1102, f61, k61, f76, h76, if_true, if_false, bR_s, bI_s, bV_s, am_nar4_0, am_nar4_1, p0, kt, z1, eq_true c1]
      · simp only [am_kd, k0, f1102, f61, k61, f76, h76, if_true, if_false, bR_s, bI_s, bV_s, am_nar4_0, am_nar4_1, p0, kt, z1, eq_false c1, eq_true (not_rng ha c1)]
    · rw [q_X12_say]
      simp only [am_kd, m0, if_true, if_false, am_let_e, rd_hK_sFI, kq, kw, z1, bI_s, am_nar4_0]
  by_cases hb : ¬ b < 0 ∧ ¬ 99 < b
  case neg =>
    have kw := rg h a 999
    have kw2 := rg h b 99
    rw [b2i_t ha] at kw
    rw [b2i_f hb] at kw2
    have kq := rt h (Qt.rfl' h)
    rw [b2i_t ht] at kq
    refine Ans.stp I (Ans.no (r := 0) ?_ ?_)
    · rw [q_X11_say]
      by_cases c1 : b < 0
      · simp only [am_kd, k0, f1102, f61, k61, f76, h76, if_true, if_false, bR_s, bI_s, bV_s, am_nar4_0, am_nar4_1, p0, kt, z1, eq_false ha.1, eq_false ha.2, eq_true c1]
      · simp only [am_kd, k0, f1102, f61, k61, f76, h76, if_true, if_false, bR_s, bI_s, bV_s, am_nar4_0, am_nar4_1, p0, kt, z1, eq_false ha.1, eq_false ha.2, eq_false c1, eq_true (not_rng hb c1)]
    · rw [q_X12_say]
      simp only [am_kd, m0, if_true, if_false, am_let_e, rd_hK_sFI, kq, kw, kw2, z1, bI_s, am_nar4_0]
  obtain ⟨⟨m, m1, m2, m3, m4⟩, H2⟩ := H
  have MR : ∀ G, Qt h G ∨ (hK G = hK h ∧ hFR G = hFR h ∧ hLN G = hLN h) → hFR G 1253 348 = some 391 ∧ hFR G 1254 348 = some 392 ∧ hFR G 1255 348 = some 393 ∧ hK G 391 = 50 ∧ hK G 392 = 50 ∧ hK G 393 = 50 ∧ hLN G 391 = 5 ∧ hLN G 392 = 50 ∧ hLN G 393 = 50 ∧ hK G 348 = 13 := fun G q => by
    have e : hK G = hK h ∧ hFR G = hFR h ∧ hLN G = hLN h := by
      rcases q with q | q
      · exact ⟨q.1, q.2.1, q.2.2.1⟩
      · exact q
    rw [e.1, e.2.1, e.2.2]
    exact ⟨(hm.2 42 (by decide)).1, (hm.2 43 (by decide)).1, (hm.2 44 (by decide)).1, (hm.2 42 (by decide)).2.1, (hm.2 43 (by decide)).2.1, (hm.2 44 (by decide)).2.1, (hm.2 42 (by decide)).2.2, (hm.2 43 (by decide)).2.2, (hm.2 44 (by decide)).2.2, hm.1⟩
  have e0 : ∀ x, am_in (0 : Int32) 5 x = x := am_inN (i := 0) (by decide) (by decide)
  by_cases hfull : m < 10
  case neg =>
    have e16 : m = 10 := by omega
    have kc := c_addSaid_no (d := d + 18) H76 (by rw [m2, e16]; decide) a b
    have kw := rg h a 999
    have kw2 := rg h b 99
    rw [b2i_t ha] at kw
    rw [b2i_t hb] at kw2
    have e3 : (hAI h 391 0 = 10) = True := eq_true (by rw [m3, e16]; rfl)
    obtain ⟨v0, v1, v2, v3, v4, v5, v6, v7, v8, v9⟩ := MR h (Or.inl (Qt.rfl' h))
    have kq := rt h (Qt.rfl' h)
    rw [b2i_t ht] at kq
    refine Ans.stp I (Ans.no (r := 0) ?_ ?_)
    · rw [q_X11_say]
      simp only [am_kd, k0, f1102, f61, k61, f76, h76, if_true, if_false, bR_s, bI_s, bV_s, am_nar4_0, am_nar4_1, p0, kt, z1, eq_false ha.1, eq_false ha.2, eq_false hb.1, eq_false hb.2, kc]
    · rw [q_X12_say]
      simp only [am_kd, m0, if_true, if_false, am_let_e, rd_hK_sFI, rd_hFR_sFI, rd_hLN_sFI, rd_hAI_sFI, kq, kw, kw2, z1, bI_s, bR_s, am_nar4_0, v0, v3, v6, e0, nI_cl0, e3]
  have kc := c_addSaid (d := d + 18) H76 m2 hfull a b
  rw [show (76 + 1 : Nat) = 77 from rfl, show (76 + 2 : Nat) = 78 from rfl] at kc
  generalize hg : sFI (sAI (sAI h 77 (upd (hAI h 77) m a)) 78 (upd (hAI h 78) m b)) 300 76 (nI (m + 1)) = g1 at kc
  have k1 : hK g1 = hK h := by rw [← hg]; rfl
  have k2 : hFR g1 = hFR h := by rw [← hg]; rfl
  have k3 : hLN g1 = hLN h := by rw [← hg]; rfl
  have k4 : hAR g1 = hAR h := by rw [← hg]; rfl
  have k5 : hAJ g1 = hAJ h := by rw [← hg]; rfl
  have k6 : hFJ g1 = hFJ h := by rw [← hg]; rfl
  have k7 : hNX g1 = hNX h := by rw [← hg]; rfl
  have r1 : ∀ x, x ≠ 77 → x ≠ 78 → hAI g1 x = hAI h x := fun x y1 y2 => by rw [← hg, rd_hAI_sFI, sAI_ne _ _ y2, sAI_ne _ _ y1]
  have r77 : hAI g1 77 = upd (hAI h 77) m a := by rw [← hg, rd_hAI_sFI, sAI_ne _ _ (by decide), sAI_at]
  have r78 : hAI g1 78 = upd (hAI h 78) m b := by rw [← hg, rd_hAI_sFI, sAI_at]
  have rf : ∀ k x, (k ≠ 300 ∨ x ≠ 76) → hFI g1 k x = hFI h k x := fun k x y => by rw [← hg, sFI_o _ _ y]; rfl
  have r300 : hFI g1 300 76 = nI (m + 1) := by rw [← hg]; exact sFI_at _ _ _ _
  clear hg
  have kw := rg g1 a 999
  have kw2 := rg g1 b 99
  rw [b2i_t ha] at kw
  rw [b2i_t hb] at kw2
  have e3 : (nI m = 10) = False := eq_false (by intro z; have := (nI_eq (b := 10) (by omega) (by decide)).1 z; omega)
  obtain ⟨v0, v1, v2, v3, v4, v5, v6, v7, v8, v9⟩ := MR g1 (Or.inr ⟨k1, k2, k3⟩)
  have im : ∀ x, am_in (nI m) 50 x = x := am_inN (by omega) (by decide)
  have tm : Int32.toNatClampNeg (nI m) = m := nI_clamp (by omega)
  have w0 : hAI g1 391 0 = nI m := by rw [r1 _ (by decide) (by decide)]; exact m3
  have w1 : hAI (sAI (sFI g1 1200 348 0) 392 (upd (hAI (sFI g1 1200 348 0) 392) m a)) 391 0 = nI m := by rw [sAI_ne _ _ (by decide), rd_hAI_sFI]; exact w0
  refine ⟨1, g1, sAI (sAI (sAI (sFI g1 1200 348 0) 392 (upd (hAI h 392) m a)) 393 (upd (hAI h 393) m b)) 391 (upd (hAI h 391) 0 (nI (m + 1))), ?_, ?_, ⟨k1, k3, by rw [r1 _ (by decide) (by decide)]⟩, ⟨rfl, rfl, ?_⟩, k7, ?_⟩
  · dsimp only
    rw [q_X11_say]
    simp only [am_kd, k0, f1102, f61, k61, f76, h76, if_true, if_false, bR_s, bI_s, bV_s, am_nar4_0, am_nar4_1, p0, kt, z1, eq_false ha.1, eq_false ha.2, eq_false hb.1, eq_false hb.2, kc]
  · dsimp only
    have e4 : hAI g1 392 = hAI h 392 := r1 _ (by decide) (by decide)
    have e5 : hAI g1 393 = hAI h 393 := r1 _ (by decide) (by decide)
    have e6 : hAI g1 391 = hAI h 391 := r1 _ (by decide) (by decide)
    have n1 : ∀ (x : AH) f, hAI (sAI x 392 f) 393 = hAI x 393 := fun x f => sAI_ne _ _ (by decide)
    have n2 : ∀ (x : AH) f, hAI (sAI x 392 f) 391 = hAI x 391 := fun x f => sAI_ne _ _ (by decide)
    have n3 : ∀ (x : AH) f, hAI (sAI x 393 f) 391 = hAI x 391 := fun x f => sAI_ne _ _ (by decide)
    have kq : am_C PG (d + 19) 210 [.ref 348, .int t] (sFI g1 1200 348 0) = some (some (.int (b2i (¬ t < 0 ∧ t < nI nc))), sFI g1 1200 348 0) := c_misTimer (d := d + 18) (n := nc) (h := sFI g1 1200 348 0) (hm.to k1 (fun k => by show hFR g1 k 348 = _; rw [k2]) k3) (by rw [rd_hAI_sFI, r1 _ (by decide) (by decide)]; exact Lk0.2.2.2.2.2.1.1) t
    rw [b2i_t ht] at kq
    rw [q_X12_say]
    simp only [am_kd, v9, if_true, if_false, am_let_e, rd_hK_sFI, rd_hFR_sFI, rd_hLN_sFI, rd_hAI_sFI, rd_hK_sAI, rd_hFR_sAI, rd_hLN_sAI, sEI_e, kq, kw, kw2, z1, bI_s, bR_s, am_nar4_1, v0, v1, v2, v3, v4, v5, v6, v7, v8, e0, nI_cl0, e3, e4, e5, e6, n1, n2, n3, m3, im, tm, nI_1]
  · rw [sAI_ne _ _ (by decide), sAI_ne _ _ (by decide), sAI_ne _ _ (by decide), rd_hAI_sFI]
  · have rr : ∀ x, x ≠ 77 → x ≠ 78 → x ≠ 391 → x ≠ 392 → x ≠ 393 → hAI (sAI (sAI (sAI (sFI g1 1200 348 0) 392 (upd (hAI h 392) m a)) 393 (upd (hAI h 393) m b)) 391 (upd (hAI h 391) 0 (nI (m + 1)))) x = hAI h x := fun x y1 y2 y3 y4 y5 => by
      rw [sAI_ne _ _ y3, sAI_ne _ _ y5, sAI_ne _ _ y4, rd_hAI_sFI, r1 _ y1 y2]
    have q1 : hAI (sAI (sAI (sAI (sFI g1 1200 348 0) 392 (upd (hAI h 392) m a)) 393 (upd (hAI h 393) m b)) 391 (upd (hAI h 391) 0 (nI (m + 1)))) 392 = upd (hAI h 392) m a := by rw [sAI_ne _ _ (by decide), sAI_ne _ _ (by decide), sAI_at]
    have q2 : hAI (sAI (sAI (sAI (sFI g1 1200 348 0) 392 (upd (hAI h 392) m a)) 393 (upd (hAI h 393) m b)) 391 (upd (hAI h 391) 0 (nI (m + 1)))) 393 = upd (hAI h 393) m b := by rw [sAI_ne _ _ (by decide), sAI_at]
    have q0 : hAI (sAI (sAI (sAI (sFI g1 1200 348 0) 392 (upd (hAI h 392) m a)) 393 (upd (hAI h 393) m b)) 391 (upd (hAI h 391) 0 (nI (m + 1)))) 391 = upd (hAI h 391) 0 (nI (m + 1)) := sAI_at _ _ _
    have q3 : hAI (sAI (sAI (sAI (sFI g1 1200 348 0) 392 (upd (hAI h 392) m a)) 393 (upd (hAI h 393) m b)) 391 (upd (hAI h 391) 0 (nI (m + 1)))) 77 = upd (hAI h 77) m a := by rw [sAI_ne _ _ (by decide), sAI_ne _ _ (by decide), sAI_ne _ _ (by decide), rd_hAI_sFI, r77]
    have q4 : hAI (sAI (sAI (sAI (sFI g1 1200 348 0) 392 (upd (hAI h 392) m a)) 393 (upd (hAI h 393) m b)) 391 (upd (hAI h 391) 0 (nI (m + 1)))) 78 = upd (hAI h 78) m b := by rw [sAI_ne _ _ (by decide), sAI_ne _ _ (by decide), sAI_ne _ _ (by decide), rd_hAI_sFI, r78]
    have ff : ∀ k x, (k ≠ 300 ∨ x ≠ 76) → (k ≠ 1200 ∨ x ≠ 348) → hFI (sAI (sAI (sAI (sFI g1 1200 348 0) 392 (upd (hAI h 392) m a)) 393 (upd (hAI h 393) m b)) 391 (upd (hAI h 391) 0 (nI (m + 1)))) k x = hFI h k x := fun k x y1 y2 => by
      rw [rd_hFI_sAI, rd_hFI_sAI, rd_hFI_sAI, sFI_o _ _ y2, rf _ _ y1]
    have f3 : hFI (sAI (sAI (sAI (sFI g1 1200 348 0) 392 (upd (hAI h 392) m a)) 393 (upd (hAI h 393) m b)) 391 (upd (hAI h 391) 0 (nI (m + 1)))) 300 76 = nI (m + 1) := by
      rw [rd_hFI_sAI, rd_hFI_sAI, rd_hFI_sAI, sFI_o _ _ (Or.inl (by decide)), r300]
    have kk1 : hK (sAI (sAI (sAI (sFI g1 1200 348 0) 392 (upd (hAI h 392) m a)) 393 (upd (hAI h 393) m b)) 391 (upd (hAI h 391) 0 (nI (m + 1)))) = hK h := k1
    have kk2 : hFR (sAI (sAI (sAI (sFI g1 1200 348 0) 392 (upd (hAI h 392) m a)) 393 (upd (hAI h 393) m b)) 391 (upd (hAI h 391) 0 (nI (m + 1)))) = hFR h := k2
    have kk3 : hLN (sAI (sAI (sAI (sFI g1 1200 348 0) 392 (upd (hAI h 392) m a)) 393 (upd (hAI h 393) m b)) 391 (upd (hAI h 391) 0 (nI (m + 1)))) = hLN h := k3
    have kk4 : hAR (sAI (sAI (sAI (sFI g1 1200 348 0) 392 (upd (hAI h 392) m a)) 393 (upd (hAI h 393) m b)) 391 (upd (hAI h 391) 0 (nI (m + 1)))) = hAR h := k4
    have kk5 : hAJ (sAI (sAI (sAI (sFI g1 1200 348 0) 392 (upd (hAI h 392) m a)) 393 (upd (hAI h 393) m b)) 391 (upd (hAI h 391) 0 (nI (m + 1)))) = hAJ h := k5
    have kk6 : hFJ (sAI (sAI (sAI (sFI g1 1200 348 0) 392 (upd (hAI h 392) m a)) 393 (upd (hAI h 393) m b)) 391 (upd (hAI h 391) 0 (nI (m + 1)))) = hFJ h := k6
    generalize sAI (sAI (sAI (sFI g1 1200 348 0) 392 (upd (hAI h 392) m a)) 393 (upd (hAI h 393) m b)) 391 (upd (hAI h 391) 0 (nI (m + 1))) = G at rr q1 q2 q0 q3 q4 ff f3 kk1 kk2 kk3 kk4 kk5 kk6 ⊢
    have NEW : HeI G 76 0 := by
      refine ⟨⟨m + 1, by omega, f3, by rw [q0, pk_us], fun i hi => ?_⟩, ?_⟩
      · show hAI G 77 i = hAI G 392 (10 * 0 + i) ∧ hAI G 78 i = hAI G 393 (10 * 0 + i) ∧ ¬ hAI G 392 (10 * 0 + i) < 0
        rw [q1, q2, q3, q4, Nat.mul_zero, Nat.zero_add]
        by_cases e : i = m
        · subst e
          rw [pk_us, pk_us, pk_us, pk_us]
          exact ⟨rfl, rfl, ha.1⟩
        · rw [pk_un e, pk_un e, pk_un e, pk_un e]
          have := m4 i (by omega)
          rw [Nat.mul_zero, Nat.zero_add] at this
          exact this
      · obtain ⟨m', n1, n2, n3, n4⟩ := H2
        refine ⟨m', n1, by rw [ff _ _ (by decide) (by decide)]; exact n2, by rw [rr 394 (by decide) (by decide) (by decide) (by decide) (by decide)]; exact n3, fun i hi => ?_⟩
        rw [rr 395 (by decide) (by decide) (by decide) (by decide) (by decide), rr 396 (by decide) (by decide) (by decide) (by decide) (by decide), rr (76 + 3) (by decide) (by decide) (by decide) (by decide) (by decide), rr (76 + 4) (by decide) (by decide) (by decide) (by decide) (by decide)]
        exact n4 i hi
    exact (he_inv (by omega) IQ NW U kk1 kk2 kk3 kk4 kk5 kk6 (fun x y1 y2 => rr x (by omega) (by omega) (by omega) (by omega) (by omega)) (fun k x y1 y2 => ff k x (by omega) (by omega)) (fun i hi => ⟨by rw [q0, pk_un (by omega)], by rw [rr 394 (by decide) (by decide) (by decide) (by decide) (by decide)]⟩) (fun i hi => ⟨by rw [q1, pk_un (by omega)], by rw [q2, pk_un (by omega)]⟩) (fun i hi => ⟨by rw [rr 395 (by decide) (by decide) (by decide) (by decide) (by decide)], by rw [rr 396 (by decide) (by decide) (by decide) (by decide) (by decide)]⟩) NEW).1
theorem st_tell {B L d : Nat} {xs : Nat → Int32} {h : AH} (I : Inv B L xs h) (a b : Int32) : Stq B L xs h (fun h => am_C PG (d + 20) 151 [.ref 0, .int a, .int b] h) (fun h => am_C PG (d + 20) 252 [.ref 348, .int a, .int b] h) := by
  obtain ⟨k0, f61, f84, k61, f62, S62, S84, hm, p, dp, np, nc, ne, nw, len, n, W, hp4, f1102, IQ, NW, U⟩ := I.dd
  have m0 := hm.1
  have z1 : ((1 : Int32) = 0) = False := eq_false (by decide)
  have H := IQ.2.2.2.2.2.2.2.2.2.2.2.1
  have STO : StoSh h 61 := IQ.1.2.2.2.2.2.2.2.2.2.2.2.2.2.2.1
  have f76 : hFR h 802 61 = some 76 := STO.2.2.2.1
  have H76 : HeSh h 76 := STO.2.2.2.2.2.2
  have h76 := H76.1
  obtain ⟨Lk0, -⟩ := IQ.2.2.2.2.2.2.2.2.2.1
  have p0 := Lk0.1.1.1.1
  have rg : ∀ G x M, am_C PG (d + 19) 161 [.int x, .int 0, .int M] (sFI G 1200 348 0) = some (some (.int (b2i (¬ x < 0 ∧ ¬ M < x))), sFI G 1200 348 0) := fun G x M => c_within (d + 18) x 0 M (sFI G 1200 348 0)
  have kG : ∀ G, Qt h G → hK G 348 = 13 := fun G q => by rw [q.1]; exact m0
  by_cases ha : ¬ a < 0 ∧ ¬ 9 < a
  case neg =>
    have kw := rg h a 9
    rw [b2i_f ha] at kw
    refine Ans.stp I (Ans.no (r := 0) ?_ ?_)
    · rw [q_X11_tell]
      by_cases c1 : a < 0
      · simp only [am_kd, k0, f1102, f61, k61, f76, h76, if_true, if_false, bR_s, bI_s, bV_s, am_nar4_0, am_nar4_1, p0, eq_true c1]
      · simp only [am_kd, k0, f1102, f61, k61, f76, h76, if_true, if_false, bR_s, bI_s, bV_s, am_nar4_0, am_nar4_1, p0, eq_false c1, eq_true (not_rng ha c1)]
    · rw [q_X12_tell]
      simp only [am_kd, m0, if_true, if_false, am_let_e, rd_hK_sFI, kw, z1, bI_s, am_nar4_0]
  by_cases hb : ¬ b < 0 ∧ ¬ 99 < b
  case neg =>
    have kw := rg h a 9
    have kw2 := rg h b 99
    rw [b2i_t ha] at kw
    rw [b2i_f hb] at kw2
    refine Ans.stp I (Ans.no (r := 0) ?_ ?_)
    · rw [q_X11_tell]
      by_cases c1 : b < 0
      · simp only [am_kd, k0, f1102, f61, k61, f76, h76, if_true, if_false, bR_s, bI_s, bV_s, am_nar4_0, am_nar4_1, p0, eq_false ha.1, eq_false ha.2, eq_true c1]
      · simp only [am_kd, k0, f1102, f61, k61, f76, h76, if_true, if_false, bR_s, bI_s, bV_s, am_nar4_0, am_nar4_1, p0, eq_false ha.1, eq_false ha.2, eq_false c1, eq_true (not_rng hb c1)]
    · rw [q_X12_tell]
      simp only [am_kd, m0, if_true, if_false, am_let_e, rd_hK_sFI, kw, kw2, z1, bI_s, am_nar4_0]
  obtain ⟨H2, ⟨m, m1, m2, m3, m4⟩⟩ := H
  have MR : ∀ G, Qt h G ∨ (hK G = hK h ∧ hFR G = hFR h ∧ hLN G = hLN h) → hFR G 1256 348 = some 394 ∧ hFR G 1257 348 = some 395 ∧ hFR G 1258 348 = some 396 ∧ hK G 394 = 50 ∧ hK G 395 = 50 ∧ hK G 396 = 50 ∧ hLN G 394 = 5 ∧ hLN G 395 = 60 ∧ hLN G 396 = 60 ∧ hK G 348 = 13 := fun G q => by
    have e : hK G = hK h ∧ hFR G = hFR h ∧ hLN G = hLN h := by
      rcases q with q | q
      · exact ⟨q.1, q.2.1, q.2.2.1⟩
      · exact q
    rw [e.1, e.2.1, e.2.2]
    exact ⟨(hm.2 45 (by decide)).1, (hm.2 46 (by decide)).1, (hm.2 47 (by decide)).1, (hm.2 45 (by decide)).2.1, (hm.2 46 (by decide)).2.1, (hm.2 47 (by decide)).2.1, (hm.2 45 (by decide)).2.2, (hm.2 46 (by decide)).2.2, (hm.2 47 (by decide)).2.2, hm.1⟩
  have e0 : ∀ x, am_in (0 : Int32) 5 x = x := am_inN (i := 0) (by decide) (by decide)
  by_cases hfull : m < 12
  case neg =>
    have e16 : m = 12 := by omega
    have kc := c_addTold_no (d := d + 18) H76 (by rw [m2, e16]; decide) a b
    have kw := rg h a 9
    have kw2 := rg h b 99
    rw [b2i_t ha] at kw
    rw [b2i_t hb] at kw2
    have e3 : (hAI h 394 0 = 12) = True := eq_true (by rw [m3, e16]; rfl)
    obtain ⟨v0, v1, v2, v3, v4, v5, v6, v7, v8, v9⟩ := MR h (Or.inl (Qt.rfl' h))
    refine Ans.stp I (Ans.no (r := 0) ?_ ?_)
    · rw [q_X11_tell]
      simp only [am_kd, k0, f1102, f61, k61, f76, h76, if_true, if_false, bR_s, bI_s, bV_s, am_nar4_0, am_nar4_1, p0, eq_false ha.1, eq_false ha.2, eq_false hb.1, eq_false hb.2, kc]
    · rw [q_X12_tell]
      simp only [am_kd, m0, if_true, if_false, am_let_e, rd_hK_sFI, rd_hFR_sFI, rd_hLN_sFI, rd_hAI_sFI, kw, kw2, z1, bI_s, bR_s, am_nar4_0, v0, v3, v6, e0, nI_cl0, e3]
  have kc := c_addTold (d := d + 18) H76 m2 hfull a b
  rw [show (76 + 3 : Nat) = 79 from rfl, show (76 + 4 : Nat) = 80 from rfl] at kc
  generalize hg : sFI (sAI (sAI h 79 (upd (hAI h 79) m a)) 80 (upd (hAI h 80) m b)) 303 76 (nI (m + 1)) = g1 at kc
  have k1 : hK g1 = hK h := by rw [← hg]; rfl
  have k2 : hFR g1 = hFR h := by rw [← hg]; rfl
  have k3 : hLN g1 = hLN h := by rw [← hg]; rfl
  have k4 : hAR g1 = hAR h := by rw [← hg]; rfl
  have k5 : hAJ g1 = hAJ h := by rw [← hg]; rfl
  have k6 : hFJ g1 = hFJ h := by rw [← hg]; rfl
  have k7 : hNX g1 = hNX h := by rw [← hg]; rfl
  have r1 : ∀ x, x ≠ 79 → x ≠ 80 → hAI g1 x = hAI h x := fun x y1 y2 => by rw [← hg, rd_hAI_sFI, sAI_ne _ _ y2, sAI_ne _ _ y1]
  have r77 : hAI g1 79 = upd (hAI h 79) m a := by rw [← hg, rd_hAI_sFI, sAI_ne _ _ (by decide), sAI_at]
  have r78 : hAI g1 80 = upd (hAI h 80) m b := by rw [← hg, rd_hAI_sFI, sAI_at]
  have rf : ∀ k x, (k ≠ 303 ∨ x ≠ 76) → hFI g1 k x = hFI h k x := fun k x y => by rw [← hg, sFI_o _ _ y]; rfl
  have r300 : hFI g1 303 76 = nI (m + 1) := by rw [← hg]; exact sFI_at _ _ _ _
  clear hg
  have kw := rg g1 a 9
  have kw2 := rg g1 b 99
  rw [b2i_t ha] at kw
  rw [b2i_t hb] at kw2
  have e3 : (nI m = 12) = False := eq_false (by intro z; have := (nI_eq (b := 12) (by omega) (by decide)).1 z; omega)
  obtain ⟨v0, v1, v2, v3, v4, v5, v6, v7, v8, v9⟩ := MR g1 (Or.inr ⟨k1, k2, k3⟩)
  have im : ∀ x, am_in (nI m) 60 x = x := am_inN (by omega) (by decide)
  have tm : Int32.toNatClampNeg (nI m) = m := nI_clamp (by omega)
  have w0 : hAI g1 394 0 = nI m := by rw [r1 _ (by decide) (by decide)]; exact m3
  have w1 : hAI (sAI (sFI g1 1200 348 0) 395 (upd (hAI (sFI g1 1200 348 0) 395) m a)) 394 0 = nI m := by rw [sAI_ne _ _ (by decide), rd_hAI_sFI]; exact w0
  refine ⟨1, g1, sAI (sAI (sAI (sFI g1 1200 348 0) 395 (upd (hAI h 395) m a)) 396 (upd (hAI h 396) m b)) 394 (upd (hAI h 394) 0 (nI (m + 1))), ?_, ?_, ⟨k1, k3, by rw [r1 _ (by decide) (by decide)]⟩, ⟨rfl, rfl, ?_⟩, k7, ?_⟩
  · dsimp only
    rw [q_X11_tell]
    simp only [am_kd, k0, f1102, f61, k61, f76, h76, if_true, if_false, bR_s, bI_s, bV_s, am_nar4_0, am_nar4_1, p0, eq_false ha.1, eq_false ha.2, eq_false hb.1, eq_false hb.2, kc]
  · dsimp only
    have e4 : hAI g1 395 = hAI h 395 := r1 _ (by decide) (by decide)
    have e5 : hAI g1 396 = hAI h 396 := r1 _ (by decide) (by decide)
    have e6 : hAI g1 394 = hAI h 394 := r1 _ (by decide) (by decide)
    have n1 : ∀ (x : AH) f, hAI (sAI x 395 f) 396 = hAI x 396 := fun x f => sAI_ne _ _ (by decide)
    have n2 : ∀ (x : AH) f, hAI (sAI x 395 f) 394 = hAI x 394 := fun x f => sAI_ne _ _ (by decide)
    have n3 : ∀ (x : AH) f, hAI (sAI x 396 f) 394 = hAI x 394 := fun x f => sAI_ne _ _ (by decide)
    rw [q_X12_tell]
    simp only [am_kd, v9, if_true, if_false, am_let_e, rd_hK_sFI, rd_hFR_sFI, rd_hLN_sFI, rd_hAI_sFI, rd_hK_sAI, rd_hFR_sAI, rd_hLN_sAI, sEI_e, kw, kw2, z1, bI_s, bR_s, am_nar4_1, v0, v1, v2, v3, v4, v5, v6, v7, v8, e0, nI_cl0, e3, e4, e5, e6, n1, n2, n3, m3, im, tm, nI_1]
  · rw [sAI_ne _ _ (by decide), sAI_ne _ _ (by decide), sAI_ne _ _ (by decide), rd_hAI_sFI]
  · have rr : ∀ x, x ≠ 79 → x ≠ 80 → x ≠ 394 → x ≠ 395 → x ≠ 396 → hAI (sAI (sAI (sAI (sFI g1 1200 348 0) 395 (upd (hAI h 395) m a)) 396 (upd (hAI h 396) m b)) 394 (upd (hAI h 394) 0 (nI (m + 1)))) x = hAI h x := fun x y1 y2 y3 y4 y5 => by
      rw [sAI_ne _ _ y3, sAI_ne _ _ y5, sAI_ne _ _ y4, rd_hAI_sFI, r1 _ y1 y2]
    have q1 : hAI (sAI (sAI (sAI (sFI g1 1200 348 0) 395 (upd (hAI h 395) m a)) 396 (upd (hAI h 396) m b)) 394 (upd (hAI h 394) 0 (nI (m + 1)))) 395 = upd (hAI h 395) m a := by rw [sAI_ne _ _ (by decide), sAI_ne _ _ (by decide), sAI_at]
    have q2 : hAI (sAI (sAI (sAI (sFI g1 1200 348 0) 395 (upd (hAI h 395) m a)) 396 (upd (hAI h 396) m b)) 394 (upd (hAI h 394) 0 (nI (m + 1)))) 396 = upd (hAI h 396) m b := by rw [sAI_ne _ _ (by decide), sAI_at]
    have q0 : hAI (sAI (sAI (sAI (sFI g1 1200 348 0) 395 (upd (hAI h 395) m a)) 396 (upd (hAI h 396) m b)) 394 (upd (hAI h 394) 0 (nI (m + 1)))) 394 = upd (hAI h 394) 0 (nI (m + 1)) := sAI_at _ _ _
    have q3 : hAI (sAI (sAI (sAI (sFI g1 1200 348 0) 395 (upd (hAI h 395) m a)) 396 (upd (hAI h 396) m b)) 394 (upd (hAI h 394) 0 (nI (m + 1)))) 79 = upd (hAI h 79) m a := by rw [sAI_ne _ _ (by decide), sAI_ne _ _ (by decide), sAI_ne _ _ (by decide), rd_hAI_sFI, r77]
    have q4 : hAI (sAI (sAI (sAI (sFI g1 1200 348 0) 395 (upd (hAI h 395) m a)) 396 (upd (hAI h 396) m b)) 394 (upd (hAI h 394) 0 (nI (m + 1)))) 80 = upd (hAI h 80) m b := by rw [sAI_ne _ _ (by decide), sAI_ne _ _ (by decide), sAI_ne _ _ (by decide), rd_hAI_sFI, r78]
    have ff : ∀ k x, (k ≠ 303 ∨ x ≠ 76) → (k ≠ 1200 ∨ x ≠ 348) → hFI (sAI (sAI (sAI (sFI g1 1200 348 0) 395 (upd (hAI h 395) m a)) 396 (upd (hAI h 396) m b)) 394 (upd (hAI h 394) 0 (nI (m + 1)))) k x = hFI h k x := fun k x y1 y2 => by
      rw [rd_hFI_sAI, rd_hFI_sAI, rd_hFI_sAI, sFI_o _ _ y2, rf _ _ y1]
    have f3 : hFI (sAI (sAI (sAI (sFI g1 1200 348 0) 395 (upd (hAI h 395) m a)) 396 (upd (hAI h 396) m b)) 394 (upd (hAI h 394) 0 (nI (m + 1)))) 303 76 = nI (m + 1) := by
      rw [rd_hFI_sAI, rd_hFI_sAI, rd_hFI_sAI, sFI_o _ _ (Or.inl (by decide)), r300]
    have kk1 : hK (sAI (sAI (sAI (sFI g1 1200 348 0) 395 (upd (hAI h 395) m a)) 396 (upd (hAI h 396) m b)) 394 (upd (hAI h 394) 0 (nI (m + 1)))) = hK h := k1
    have kk2 : hFR (sAI (sAI (sAI (sFI g1 1200 348 0) 395 (upd (hAI h 395) m a)) 396 (upd (hAI h 396) m b)) 394 (upd (hAI h 394) 0 (nI (m + 1)))) = hFR h := k2
    have kk3 : hLN (sAI (sAI (sAI (sFI g1 1200 348 0) 395 (upd (hAI h 395) m a)) 396 (upd (hAI h 396) m b)) 394 (upd (hAI h 394) 0 (nI (m + 1)))) = hLN h := k3
    have kk4 : hAR (sAI (sAI (sAI (sFI g1 1200 348 0) 395 (upd (hAI h 395) m a)) 396 (upd (hAI h 396) m b)) 394 (upd (hAI h 394) 0 (nI (m + 1)))) = hAR h := k4
    have kk5 : hAJ (sAI (sAI (sAI (sFI g1 1200 348 0) 395 (upd (hAI h 395) m a)) 396 (upd (hAI h 396) m b)) 394 (upd (hAI h 394) 0 (nI (m + 1)))) = hAJ h := k5
    have kk6 : hFJ (sAI (sAI (sAI (sFI g1 1200 348 0) 395 (upd (hAI h 395) m a)) 396 (upd (hAI h 396) m b)) 394 (upd (hAI h 394) 0 (nI (m + 1)))) = hFJ h := k6
    generalize sAI (sAI (sAI (sFI g1 1200 348 0) 395 (upd (hAI h 395) m a)) 396 (upd (hAI h 396) m b)) 394 (upd (hAI h 394) 0 (nI (m + 1))) = G at rr q1 q2 q0 q3 q4 ff f3 kk1 kk2 kk3 kk4 kk5 kk6 ⊢
    have NEW : HeI G 76 0 := by
      refine ⟨?_, ⟨m + 1, by omega, f3, by rw [q0, pk_us], fun i hi => ?_⟩⟩
      · obtain ⟨m', n1, n2, n3, n4⟩ := H2
        refine ⟨m', n1, by rw [ff _ _ (by decide) (by decide)]; exact n2, by rw [rr 391 (by decide) (by decide) (by decide) (by decide) (by decide)]; exact n3, fun i hi => ?_⟩
        rw [rr 392 (by decide) (by decide) (by decide) (by decide) (by decide), rr 393 (by decide) (by decide) (by decide) (by decide) (by decide), rr (76 + 1) (by decide) (by decide) (by decide) (by decide) (by decide), rr (76 + 2) (by decide) (by decide) (by decide) (by decide) (by decide)]
        exact n4 i hi
      · show hAI G 79 i = hAI G 395 (12 * 0 + i) ∧ hAI G 80 i = hAI G 396 (12 * 0 + i)
        rw [q1, q2, q3, q4, Nat.mul_zero, Nat.zero_add]
        by_cases e : i = m
        · subst e
          rw [pk_us, pk_us, pk_us, pk_us]
          exact ⟨rfl, rfl⟩
        · rw [pk_un e, pk_un e, pk_un e, pk_un e]
          have := m4 i (by omega)
          rw [Nat.mul_zero, Nat.zero_add] at this
          exact this
    exact (he_inv (by omega) IQ NW U kk1 kk2 kk3 kk4 kk5 kk6 (fun x y1 y2 => rr x (by omega) (by omega) (by omega) (by omega) (by omega)) (fun k x y1 y2 => ff k x (by omega) (by omega)) (fun i hi => ⟨by rw [rr 391 (by decide) (by decide) (by decide) (by decide) (by decide)], by rw [q0, pk_un (by omega)]⟩) (fun i hi => ⟨by rw [rr 392 (by decide) (by decide) (by decide) (by decide) (by decide)], by rw [rr 393 (by decide) (by decide) (by decide) (by decide) (by decide)]⟩) (fun i hi => ⟨by rw [q1, pk_un (by omega)], by rw [q2, pk_un (by omega)]⟩) NEW).1
