/-! The deeds: hours, draw, pour, go, steal. -/
theorem cp_cp (n : Nat) (f g y : Nat → Int32) : cp n (cp n f g) y = cp n f y := by
  funext k
  unfold cp
  by_cases c : k < n
  · rw [if_pos c, if_pos c, if_pos c]
  · rw [if_neg c, if_neg c]
theorem cpS_cpS (R T Y : SV) : cpS (cpS R T) Y = cpS R Y := by
  unfold cpS
  dsimp only
  rw [cp_cp, cp_cp, cp_cp, cp_cp, cp_cp, cp_cp, cp_cp, cp_cp]
theorem getS_sAI (h : AH) {a b : Nat} (f : Nat → Int32) (e : b ≤ a ∨ a + 8 < b) : getS (sAI h b f) a = getS h a := getS_fr rfl (fun k k1 k2 => sAI_ne _ _ (by omega))
def LawK (h g : AH) : Prop := hK g = hK h ∧ hLN g = hLN h ∧ hAI g 1000101 = hAI h 1000101
/-- one call of each side: alike, and Inv holds behind -/
def Stq (B L : Nat) (xs : Nat → Int32) (h : AH) (C M : AH → Option Res) : Prop := ∃ r g1 g2, C h = some (some (.int r), g1) ∧ M g1 = some (some (.int r), g2) ∧ LawK h g1 ∧ LawK g1 g2 ∧ hNX g2 = hNX h ∧ Inv (B + 24) L xs g2
theorem Qt.law {h g : AH} (q : Qt h g) : LawK h g := ⟨q.1, q.2.2.1, q.row (by unfold cRow; omega)⟩
theorem Qk.law {h g : AH} (q : Qk h g) : LawK h g := ⟨q.1, q.2.2.1, q.2.2.2.2.2.2.1 _ (by unfold cRow; omega) (by omega) (by omega) (by omega)⟩
theorem Ans.stp {B L : Nat} {xs : Nat → Int32} {h : AH} {C M : AH → Option Res} (I : Inv B L xs h) (a : Ans h C M) : Stq B L xs h C M := by
  obtain ⟨r, g1, g2, c, m, q1, q2⟩ := a
  exact ⟨r, g1, g2, c, m, q1.law, q2.law, by rw [q2.2.2.2.2.2.1, q1.2.2.2.2.2.1], ((I.qt q1).qt q2).mono (by omega)⟩
/-- before is laid, then the deed, then the ring -/
theorem deed {B B' L d : Nat} {xs : Nat → Int32} {h : AH} {p dp np nc ne nw len n : Nat} {W : Int32 → Int32 → Int32 → Int32 → Int32} (hb : B ≤ B') (IQ : InvQ B L xs h p dp np nc ne nw len n W) (N : NowI B h np nc ne nw) (U : UnI B h np nc ne nw) (f : Nat → Int32) (R' : SV) :
    ∃ g1 mn, mn ≤ 16 ∧ am_C PG (d + 2) 140 [.ref 0] (putS (sAI (putS h 84 (cpS (getS h 62) (getS h 84))) (p + 16) f) 62 R') = some (none, g1) ∧ Qk h g1 ∧ (∀ a, 348 < a → hAI g1 a = hAI h a) ∧ hFI g1 1264 348 = nI mn ∧ hNX g1 = hNX h ∧ getS g1 62 = R' ∧
      InvQ B' L xs (sFI (sAI (sFI g1 1200 348 0) 400 (mkp mn (hAI g1 400) (hAI g1 397))) 1264 348 (nI (if mn = 16 then 16 else mn + 1))) p dp np nc ne nw len n W ∧
      ∀ hr Q' τ y, hr ≤ B' → SR (hAI h) np nc ne nw hr R' Q' → Inv B' L xs (HM (sFI (sAI (sFI g1 1200 348 0) 400 (mkp mn (hAI g1 400) (hAI g1 397))) 1264 348 (nI (if mn = 16 then 16 else mn + 1))) (enc Q') τ y) := by
  obtain ⟨fr, mn, h1, h2, h3, h4, h5, h6⟩ := U
  have hp4 : p = 4 ∨ p = 30 := by
    rcases IQ.2.2.2.2.2.2.1 with ⟨z, _⟩ | ⟨z, _⟩
    · exact Or.inl z
    · exact Or.inr z
  have hx : XUn h := IQ.1.2.2.2.2.2.2.2.2.2.2.2.2.2.2.2.2.2.1
  generalize hg : putS (sAI (putS h 84 (cpS (getS h 62) (getS h 84))) (p + 16) f) 62 R' = g
  have qg : Qk h g := by
    rw [← hg]
    exact (Qk.of ((Qt.st h 84 _ (by omega)).tr (Qt.ai _ (p + 16) f (by omega)))).tr (Qk.st _ 62 R' (Or.inl rfl))
  have g62 : getS g 62 = R' := by rw [← hg]; exact getS_put _ _ _
  have g84 : getS g 84 = cpS (getS h 62) (getS h 84) := by
    rw [← hg, getS_far _ _ (by decide)]
    rw [getS_sAI _ _ (by omega), getS_put]
  have gr : ∀ j, j < 16 → getS g (204 + 9 * j) = getS h (204 + 9 * j) := fun j hj => by
    rw [← hg, getS_far _ _ (by omega), getS_sAI _ _ (by omega), getS_far _ _ (by omega)]
  have ga : ∀ a, 348 < a → hAI g a = hAI h a := fun a ha => by
    rw [← hg, pS_far _ _ (by omega), sAI_ne _ _ (by omega), pS_far _ _ (by omega)]
  have gf : ∀ k a, a ≠ 62 → a ≠ 84 → hFI g k a = hFI h k a := fun k a z1 z2 => by
    rw [← hg, pS_fi _ _ (Or.inr z1), rd_hFI_sAI, pS_fi _ _ (Or.inr z2)]
  have gn : hNX g = hNX h := by rw [← hg]; rfl
  have hxg : XUn g := hx.to qg.1 (by rw [qg.2.1]) (by rw [qg.2.1]) qg.2.2.1 qg.2.2.2.1 (fun a s => s.to qg.1 qg.2.1 qg.2.2.1)
  obtain ⟨g1, fr', mn', k1, k2, k3, k4, k5, k6, k7, k8, k9, k10, ⟨Y, k11⟩, k12⟩ := c_keepAll (d := d) (h := h) hxg (by rw [gf _ _ (by decide) (by decide)]; exact h3) (by rw [gf _ _ (by decide) (by decide)]; exact h4) h1 h2 g84
  rw [cpS_cpS] at k11
  have q1 : Qk h g1 := qg.tr k2
  have b1 : ∀ a, 348 < a → hAI g1 a = hAI h a := fun a ha => (k3 a ha).trans (ga a ha)
  refine ⟨g1, mn, h2, k1, q1, b1, by rw [k4, gf _ _ (by decide) (by decide)]; exact h5, k5.trans gn, k6.trans g62, ?_, fun hr Q' τ y hhr hS => ?_⟩
  · exact (IQ.mono hb).qk (q1.tr ((Qk.of (th_qt g1)).tr ((Qk.u4 _ _).tr (Qk.fi _ 1264 348 _ (by omega)))))
  · refine keep_inv (IQ.mono hb) (N.mono hb) h1 h2 (fun j hj => ?_) q1 b1 k7 k8 k9 k10 k11 (fun j j1 j2 => (k12 j j1 j2).trans (gr j j1)) hhr (by rw [k6, g62]; exact hS)
    obtain ⟨hr1, t1, t2⟩ := h6 j hj
    exact ⟨hr1, by omega, t2⟩
/-- the reference's keeps over the class's heap -/
theorem c_keeps1 {d mn : Nat} {g1 : AH} (hm : MSh g1) (hn : hFI g1 1264 348 = nI mn) (h2 : mn ≤ 16) : am_C PG (d + 2) 221 [.ref 348] (sFI g1 1200 348 0) = some (none, HM (sFI (sAI (sFI g1 1200 348 0) 400 (mkp mn (hAI g1 400) (hAI g1 397))) 1264 348 (nI (if mn = 16 then 16 else mn + 1))) (enc (dec (hAI g1 397))) (hAI g1) (hFI g1 1265 348, hFI g1 1266 348, hFI g1 1267 348, hFI g1 1268 348)) := by
  have k := c_keeps (d := d) (n := mn) (g := sFI g1 1200 348 0) (f := hAI (sFI g1 1200 348 0) 397) (ρ := hAI (sFI g1 1200 348 0)) (w := (hFI (sFI g1 1200 348 0) 1265 348, hFI (sFI g1 1200 348 0) 1266 348, hFI (sFI g1 1200 348 0) 1267 348, hFI (sFI g1 1200 348 0) 1268 348)) (hm.to rfl (fun _ => rfl) rfl) (by rw [sFI_o _ _ (Or.inl (by decide))]; exact hn) h2
  rw [hm_self, rd_hAI_sFI, sFI_o _ _ (Or.inl (show 1265 ≠ 1200 by decide)), sFI_o _ _ (Or.inl (show 1266 ≠ 1200 by decide)), sFI_o _ _ (Or.inl (show 1267 ≠ 1200 by decide)), sFI_o _ _ (Or.inl (show 1268 ≠ 1200 by decide))] at k
  rw [enc_dec]
  exact k
/-- a deed that is refused behind laying before -/
theorem deed_no {B L : Nat} {xs : Nat → Int32} {h : AH} {C M : AH → Option Res} {Z : SV} (I : Inv B L xs h) (c : C h = some (some (.int (-1)), putS h 84 Z)) (m : ∀ g1, Qt h g1 → M g1 = some (some (.int (-1)), sFI g1 1200 348 0)) : Stq B L xs h C M := by
  have q1 : Qt h (putS h 84 Z) := Qt.st h 84 _ (by omega)
  exact Ans.stp I ⟨-1, _, _, c, m _ q1, q1, th_qt _⟩
/-- what the deeds ask of Inv -/
theorem Inv.dd {B L : Nat} {xs : Nat → Int32} {h : AH} (I : Inv B L xs h) : hK h 0 = 12 ∧ hFR h 1105 0 = some 61 ∧ hFR h 1111 0 = some 84 ∧ hK h 61 = 9 ∧ hFR h 800 61 = some 62 ∧ StSh h 62 ∧ StSh h 84 ∧ MSh h ∧ ∃ p dp np nc ne nw len n W, (p = 4 ∨ p = 30) ∧ hFR h 1102 0 = some p ∧ InvQ B L xs h p dp np nc ne nw len n W ∧ NowI B h np nc ne nw ∧ UnI B h np nc ne nw := by
  have ex := I.ex
  obtain ⟨p, dp, np, nc, ne, nw, len, n, W, Q, N, U⟩ := I.q
  have hx : XUn h := Q.1.2.2.2.2.2.2.2.2.2.2.2.2.2.2.2.2.2.1
  refine ⟨ex.1, ex.2.1, hx.2.2.1, ex.2.2.2.2.1, ex.2.2.2.2.2.1, ex.2.2.2.2.2.2.2.2.1, hx.2.2.2.2.2.2.2, ex.2.2.2.2.2.2.2.2.2.2.2.2.2.2.2.1, p, dp, np, nc, ne, nw, len, n, W, ?_, Q.2.2.2.2.2.2.2.1, Q, N, U⟩
  rcases Q.2.2.2.2.2.2.1 with ⟨z, _⟩ | ⟨z, _⟩
  · exact Or.inl z
  · exact Or.inr z
theorem st_hours {B L d : Nat} {xs : Nat → Int32} {h : AH} (I : Inv B L xs h) (hB0 : B < 2 ^ 30) (a : Int32) : Stq B L xs h (fun h => am_C PG (d + 20) 135 [.ref 0, .int a] h) (fun h => am_C PG (d + 20) 223 [.ref 348, .int a] h) := by
  obtain ⟨k0, f61, f84, k61, f62, S62, S84, hm, p, dp, np, nc, ne, nw, len, n, W, hp4, f1102, IQ, NW, U⟩ := I.dd
  have m0 := hm.1
  have kw := c_within (d + 18) a 1 24 (sFI h 1200 348 0)
  have z1 : ((1 : Int32) = 0) = False := eq_false (by decide)
  by_cases ha : ¬ a < 1 ∧ ¬ 24 < a
  · obtain ⟨m, g1, g2, rfl⟩ := in_rng (a := 1) (b := 24) rfl rfl (by decide) (by decide) ha
    obtain ⟨hr, hrB, S⟩ := NW
    have NW : NowI B h np nc ne nw := ⟨hr, hrB, S⟩
    obtain ⟨Lk0, -⟩ := IQ.2.2.2.2.2.2.2.2.2.1
    have p0 := Lk0.1.1.1.1
    have PR := Lk0.2.2.2.2.2.2.2.1
    have kc := c_copy (d := d + 18) (R := getS h 84) S84 S62 (Or.inr (by decide))
    rw [putS_get] at kc
    have e62 : getS (putS h 84 (cpS (getS h 62) (getS h 84))) 62 = getS h 62 := getS_far _ _ (by decide)
    obtain ⟨f, kh⟩ := c_hours (d := d + 14) (a := 62) (hr := hr) (n := m) (g := putS h 84 (cpS (getS h 62) (getS h 84))) (R := getS (putS h 84 (cpS (getS h 62) (getS h 84))) 62) Lk0.1.put (Lk0.2.1.put (Or.inr (by omega))) (by
      have := Lk0.2.2.1
      unfold PoT at this ⊢
      rw [pS_far _ _ (by omega)]
      exact this) (S62.to rfl rfl rfl) (Or.inr (by omega)) (by omega) (by rw [e62]; exact S.1)
    rw [putS_get, e62] at kh
    have eP : xhours W (rowsP (putS h 84 (cpS (getS h 62) (getS h 84))) p) nc ne nw hr m (getS h 62) = xhours W (rowsP h p) nc ne nw hr m (getS h 62) := by
      have : ∀ k, k ≤ 15 → rowsP (putS h 84 (cpS (getS h 62) (getS h 84))) p k = rowsP h p k := fun k hk => pS_far _ _ (by omega)
      have one : ∀ hr R, xhour W (rowsP (putS h 84 (cpS (getS h 62) (getS h 84))) p) nc ne nw hr R = xhour W (rowsP h p) nc ne nw hr R := fun hr R => by
        unfold xhour
        rw [this 4 (by decide), this 6 (by decide), this 7 (by decide), this 13 (by decide), this 8 (by decide), this 9 (by decide), this 10 (by decide), this 11 (by decide)]
      have : ∀ i, xhours W (rowsP (putS h 84 (cpS (getS h 62) (getS h 84))) p) nc ne nw hr i (getS h 62) = xhours W (rowsP h p) nc ne nw hr i (getS h 62) := by
        intro i
        induction i with
        | zero => rfl
        | succ i ih => unfold xhours; rw [ih, one]
      exact this m
    rw [eP] at kh
    have hS := SR_hours (W := W) PR S m
    have hR1 := xhours_1 W (rowsP h p) nc ne nw hr (getS h 62) S.1 m
    obtain ⟨G1, mn, m1, kk, q1, b1, f1264, nx, g62, IQ2, fin⟩ := deed (d := d + 17) (B' := B + 24) (by omega) IQ NW U f (xhours W (rowsP h p) nc ne nw hr m (getS h 62))
    have hm1 : MSh G1 := hm.to q1.1 (fun k => by rw [q1.2.1]) q1.2.2.1
    have km := c_keeps1 (d := d + 17) hm1 f1264 m1
    have w397 : hAI G1 397 = hAI h 397 := b1 397 (by decide)
    obtain ⟨Lk2, -⟩ := IQ2.2.2.2.2.2.2.2.2.2.1
    generalize hG : sFI (sAI (sFI G1 1200 348 0) 400 (mkp mn (hAI G1 400) (hAI G1 397))) 1264 348 (nI (if mn = 16 then 16 else mn + 1)) = G at km IQ2 fin Lk2
    have eM : ∀ a, 348 < a → a ≠ 400 → hAI G a = hAI h a := fun a z1 z2 => by
      rw [← hG, rd_hAI_sFI, sAI_ne _ _ z2, rd_hAI_sFI]
      exact b1 a z1
    obtain ⟨τ, y, kM⟩ := c_mhours (dp := d + 12) (g := G) (n := n) (W := W) (k := m) (hr := hr) (P := rowsP G p) (R := getS h 62) (Q := dec (hAI G1 397)) (ρ := hAI G1) (w := (hFI G1 1265 348, hFI G1 1266 348, hFI G1 1267 348, hFI G1 1268 348)) Lk2.2.2.2.1 Lk2.2.2.2.2.1 Lk2.2.2.2.2.2.1 Lk2.2.2.2.2.2.2.2.1 (by
      rw [w397]
      exact SR_M (eM 359 (by decide) (by decide)) (eM 368 (by decide) (by decide)) S) (by omega)
    have eH : mhours W (hAI G) nc ne nw hr m (dec (hAI G1 397)) = mhours W (hAI h) nc ne nw hr m (dec (hAI h 397)) := by
      rw [w397]
      have one : ∀ hr R, mhour W (hAI G) nc ne nw hr R = mhour W (hAI h) nc ne nw hr R := fun hr R => by
        unfold mhour
        rw [eM 357 (by decide) (by decide), eM 359 (by decide) (by decide), eM 361 (by decide) (by decide), eM 363 (by decide) (by decide), eM 365 (by decide) (by decide), eM 366 (by decide) (by decide), eM 367 (by decide) (by decide), eM 368 (by decide) (by decide), eM 369 (by decide) (by decide)]
      have : ∀ i, mhours W (hAI G) nc ne nw hr i (dec (hAI h 397)) = mhours W (hAI h) nc ne nw hr i (dec (hAI h 397)) := by
        intro i
        induction i with
        | zero => rfl
        | succ i ih => unfold mhours; rw [ih, one]
      exact this m
    rw [eH] at kM
    generalize hQ' : mhours W (hAI h) nc ne nw hr m (dec (hAI h 397)) = Q' at kM hS
    generalize hR' : xhours W (rowsP h p) nc ne nw hr m (getS h 62) = R' at kh hR1 kk g62 fin hS
    have hk1 : hK G1 348 = 13 := hm1.1
    have r62 : hFI G1 700 62 = nI (hr + m) := by
      have := congrArg (fun z : SV => z.1) g62
      exact this.trans hR1
    have kw' := c_within (d + 18) (nI m) 1 24 (sFI G1 1200 348 0)
    rw [b2i_t ha] at kw'
    have qG : Qk G1 (HM G (enc Q') τ y) := by
      rw [← hG]
      exact (Qk.of (th_qt G1)).tr ((Qk.u4 _ _).tr ((Qk.fi _ 1264 348 _ (by omega)).tr (Qk.hm' _ _ _ _)))
    have hm2 := Lk2.2.2.2.1
    have hkG : hK G 348 = 13 := hm2.1
    have g59 : hFR G 1259 348 = some 397 := (hm2.2 48 (by decide)).1
    have g59k : hK G 397 = 50 := (hm2.2 48 (by decide)).2.1
    have g59n : hLN G 397 = 43 := (hm2.2 48 (by decide)).2.2
    have e0 : ∀ x, am_in (0 : Int32) 43 x = x := am_inN (i := 0) (by decide) (by decide)
    have hnx : hNX (HM G (enc Q') τ y) = hNX h := by
      have : hNX (HM G (enc Q') τ y) = hNX G := by unfold HM; simp only [rd_hNX_mF, rd_hNX_mV, rd_hNX_sAI]
      rw [this, ← hG]
      exact nx
    refine ⟨nI (hr + m), G1, HM G (enc Q') τ y, ?_, ?_, q1.law, qG.law, hnx, fin (hr + m) Q' τ y (by omega) hS⟩
    · dsimp only
      have s84 := S84.1
      have s62 := S62.1
      have hG10 : hK G1 0 = 12 := by rw [q1.1]; exact k0
      have hG1r : hFR G1 = hFR h := q1.2.1
      have hG1k : hK G1 = hK h := q1.1
      rw [q_X11_hours, if_neg ha.1, if_neg ha.2]
      simp only [am_kd, k0, f1102, f61, k61, f62, f84, if_true, if_false, bR_s, bI_s, bV_s, s84, kc, rd_hK_putS, rd_hFR_putS, rd_hK_sAI, rd_hFR_sAI, p0, kh, kk, hG1k, hG1r, s62, r62]
    · dsimp only
      rw [q_X12_hours]
      simp only [am_kd, hk1, if_true, if_false, am_let_e, rd_hK_sFI, kw', bI_s, z1, km, bV_s, hm_K, hm_R, hm_L, hkG, kM, g59, g59k, g59n, bR_s, e0, nI_cl0, hm_at, enc_0, hS.2.1]
  · refine Ans.stp I (Ans.no (r := -1) ?_ ?_)
    · rw [q_X11_hours]
      by_cases c1 : a < 1
      · rw [if_pos c1]
      · rw [if_neg c1, if_pos (not_rng ha c1)]
    · rw [b2i_f ha] at kw
      rw [q_X12_hours]
      simp only [am_kd, m0, if_true, am_let_e, kw, bI_s]
