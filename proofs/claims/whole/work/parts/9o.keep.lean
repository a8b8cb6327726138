/-! What a hand's deed leaves: the undo ring, the row of the reference, Inv. -/
/-- nothing is changed but what a deed may change -/
def Qk (h g : AH) : Prop := hK g = hK h ∧ hFR g = hFR h ∧ hLN g = hLN h ∧ hAR g = hAR h ∧ hAJ g = hAJ h ∧ (∀ k a, 1000000 ≤ a → hFJ g k a = hFJ h k a) ∧
  (∀ a, cRow a → (a < 63 ∨ 70 < a) → (a < 205 ∨ 347 < a) → a ≠ 400 → hAI g a = hAI h a) ∧ (∀ k a, cFld k a → (k = 700 → a ≠ 62 ∧ (a < 204 ∨ 347 < a)) → (a = 0 → k ≠ 1109 ∧ k ≠ 1110) → (a = 348 → k ≠ 1264) → hFI g k a = hFI h k a)
theorem Qk.of {h g : AH} (q : Qt h g) : Qk h g := by
  obtain ⟨q1, q2, q3, q4, q5, q6, q7, q8, q9, q10⟩ := q
  exact ⟨q1, q2, q3, q4, q5, q7, fun a h1 _ _ _ => q8 a h1, fun k a h1 _ _ _ => q9 k a h1⟩
theorem Qk.tr {h g k : AH} (a : Qk h g) (b : Qk g k) : Qk h k := by
  obtain ⟨a1, a2, a3, a4, a5, a6, a7, a8⟩ := a
  obtain ⟨b1, b2, b3, b4, b5, b6, b7, b8⟩ := b
  exact ⟨b1.trans a1, b2.trans a2, b3.trans a3, b4.trans a4, b5.trans a5, fun k a h => (b6 k a h).trans (a6 k a h), fun a h1 h2 h3 h4 => (b7 a h1 h2 h3 h4).trans (a7 a h1 h2 h3 h4), fun k a h1 h2 h3 h4 => (b8 k a h1 h2 h3 h4).trans (a8 k a h1 h2 h3 h4)⟩
theorem Qk.st (h : AH) (a : Nat) (T : SV) (ha : a = 62 ∨ (204 ≤ a ∧ a ≤ 339)) : Qk h (putS h a T) :=
  ⟨rfl, rfl, rfl, rfl, rfl, fun _ _ _ => rfl, fun b hb h2 h3 h4 => pS_far _ _ (by omega), fun k b hb h2 h3 h4 => pS_fi _ _ (by
    by_cases e : k = 700
    · have := h2 e
      right; omega
    · exact Or.inl e)⟩
theorem Qk.fi (h : AH) (k a : Nat) (v : Int32) (ha : (a = 0 ∧ (k = 1109 ∨ k = 1110)) ∨ (a = 348 ∧ k = 1264)) : Qk h (sFI h k a v) :=
  ⟨rfl, rfl, rfl, rfl, rfl, fun _ _ _ => rfl, fun _ _ _ _ _ => rfl, fun j b hb h2 h3 h4 => sFI_o _ _ (by
    by_cases e : b = a
    · left
      intro z
      subst z
      subst e
      rcases ha with ⟨z, y⟩ | ⟨z, y⟩
      · have := h3 z; omega
      · have := h4 z; omega
    · exact Or.inr e)⟩
theorem Qk.u4 (h : AH) (f : Nat → Int32) : Qk h (sAI h 400 f) := ⟨rfl, rfl, rfl, rfl, rfl, fun _ _ _ => rfl, fun b hb h2 h3 h4 => sAI_ne _ _ h4, fun _ _ _ _ _ _ => rfl⟩
theorem Qk.hm {g : AH} {f u : Nat → Int32} {ρ τ : Nat → Nat → Int32} {w y : M4} : Qk (HM g f ρ w) (HM g u τ y) := by
  refine ⟨by rw [hm_K, hm_K], by rw [hm_R, hm_R], by rw [hm_L, hm_L], ?_, ?_, ?_, ?_, ?_⟩
  · unfold HM; simp only [rd_hAR_mF, rd_hAR_mV, rd_hAR_sAI]
  · unfold HM; simp only [rd_hAJ_mF, rd_hAJ_mV, rd_hAJ_sAI]
  · intro k a _; unfold HM; simp only [rd_hFJ_mF, rd_hFJ_mV, rd_hFJ_sAI]
  · intro a ha _ _ _
    unfold cRow at ha
    rw [hm_o _ _ _ _ (by omega) (by omega), hm_o _ _ _ _ (by omega) (by omega)]
  · intro k a ha _ _ _
    unfold cFld at ha
    have e : a ≠ 348 ∨ k < 1265 ∨ 1268 < k := by
      by_cases e : a = 348
      · have := ha.2.2.2 e
        right; omega
      · exact Or.inl e
    rw [hm_fo _ _ _ _ e, hm_fo _ _ _ _ e]
theorem Qk.hm' (g : AH) (u : Nat → Int32) (τ : Nat → Nat → Int32) (y : M4) : Qk g (HM g u τ y) := by
  have := Qk.hm (g := g) (f := hAI g 397) (u := u) (ρ := hAI g) (τ := τ) (w := (hFI g 1265 348, hFI g 1266 348, hFI g 1267 348, hFI g 1268 348)) (y := y)
  rw [hm_self] at this
  exact this
/-- Inv but for now and the undo ring -/
def InvQ (B L : Nat) (xs : Nat → Int32) (h : AH) (p dp np nc ne nw len n : Nat) (W : Int32 → Int32 → Int32 → Int32 → Int32) : Prop := GSh h L ∧ WdSh h ∧ hAI h 1000101 = xs ∧ ZeroS (getS h 21) ∧ ZeroS (getS h 47) ∧ TaI h ∧ PDr p dp ∧ hFR h 1102 0 = some p ∧ hFR h 1103 0 = some dp ∧ InvP h p np nc ne nw len n W ∧ DaI h 71 0 np nc ne ∧ HeI h 76 0 ∧ MaI B h np nc ne nw
theorem Inv.q {B L : Nat} {xs : Nat → Int32} {h : AH} (I : Inv B L xs h) : ∃ p dp np nc ne nw len n W, InvQ B L xs h p dp np nc ne nw len n W ∧ NowI B h np nc ne nw ∧ UnI B h np nc ne nw := by
  obtain ⟨s1, s2, s3, s4, s5, s6, p, dp, np, nc, ne, nw, len, n, W, t1, t2, t3, t4, t5, t6, t7, t8, t9⟩ := I
  exact ⟨p, dp, np, nc, ne, nw, len, n, W, ⟨s1, s2, s3, s4, s5, s6, t1, t2, t3, t4, t6, t7, t8⟩, t5, t9⟩
theorem InvQ.inv {B L : Nat} {xs : Nat → Int32} {h : AH} {p dp np nc ne nw len n : Nat} {W : Int32 → Int32 → Int32 → Int32 → Int32} (Q : InvQ B L xs h p dp np nc ne nw len n W) (N : NowI B h np nc ne nw) (U : UnI B h np nc ne nw) : Inv B L xs h := by
  obtain ⟨s1, s2, s3, s4, s5, s6, t1, t2, t3, t4, t6, t7, t8⟩ := Q
  exact ⟨s1, s2, s3, s4, s5, s6, p, dp, np, nc, ne, nw, len, n, W, t1, t2, t3, t4, N, t6, t7, t8, U⟩
theorem MaI.mono {B B' : Nat} {h : AH} {np nc ne nw : Nat} (hb : B ≤ B') (s : MaI B h np nc ne nw) : MaI B' h np nc ne nw := fun k hk => by
  obtain ⟨s1, s2, s3⟩ := s k hk
  refine ⟨s1, s2, fun z => ?_⟩
  obtain ⟨⟨hr, t1, t2⟩, t3⟩ := s3 z
  exact ⟨⟨hr, by omega, t2⟩, t3⟩
theorem UnI.mono {B B' : Nat} {h : AH} {np nc ne nw : Nat} (hb : B ≤ B') (s : UnI B h np nc ne nw) : UnI B' h np nc ne nw := by
  obtain ⟨fr, mn, h1, h2, h3, h4, h5, h6⟩ := s
  refine ⟨fr, mn, h1, h2, h3, h4, h5, fun j hj => ?_⟩
  obtain ⟨hr, t1, t2⟩ := h6 j hj
  exact ⟨hr, by omega, t2⟩
theorem NowI.mono {B B' : Nat} {h : AH} {np nc ne nw : Nat} (hb : B ≤ B') (s : NowI B h np nc ne nw) : NowI B' h np nc ne nw := by
  obtain ⟨hr, t1, t2⟩ := s
  exact ⟨hr, by omega, t2⟩
theorem InvQ.mono {B B' L : Nat} {xs : Nat → Int32} {h : AH} {p dp np nc ne nw len n : Nat} {W : Int32 → Int32 → Int32 → Int32 → Int32} (hb : B ≤ B') (Q : InvQ B L xs h p dp np nc ne nw len n W) : InvQ B' L xs h p dp np nc ne nw len n W := by
  obtain ⟨s1, s2, s3, s4, s5, s6, t1, t2, t3, t4, t6, t7, t8⟩ := Q
  exact ⟨s1, s2, s3, s4, s5, s6, t1, t2, t3, t4, t6, t7, t8.mono hb⟩
theorem Inv.mono {B B' L : Nat} {xs : Nat → Int32} {h : AH} (hb : B ≤ B') (I : Inv B L xs h) : Inv B' L xs h := by
  obtain ⟨p, dp, np, nc, ne, nw, len, n, W, Q, N, U⟩ := I.q
  exact (Q.mono hb).inv (N.mono hb) (U.mono hb)
theorem InvQ.qk {B L : Nat} {xs : Nat → Int32} {h g : AH} {p dp np nc ne nw len n : Nat} {W : Int32 → Int32 → Int32 → Int32 → Int32} (q : Qk h g) (Q : InvQ B L xs h p dp np nc ne nw len n W) : InvQ B L xs g p dp np nc ne nw len n W := by
  obtain ⟨q1, q2, q3, q4, q5, q7, q8, q9⟩ := q
  obtain ⟨s1, s2, s3, s4, s5, s6, t1, t2, t3, t4, t6, t7, t8⟩ := Q
  have r : ∀ a, (a ≠ 20 ∧ a ≠ 46 ∧ (a < 63 ∨ 70 < a) ∧ (a < 85 ∨ 92 < a) ∧ (a < 95 ∨ 111 < a) ∧ (a < 113 ∨ 123 < a) ∧ (a < 205 ∨ 347 < a) ∧ (a < 375 ∨ 384 < a) ∧ (a < 397 ∨ 398 < a) ∧ a ≠ 400 ∧ (a < 402 ∨ 409 < a)) → hAI g a = hAI h a := fun a ha => q8 a (by unfold cRow; omega) (by omega) (by omega) (by omega)
  have f : ∀ k a, ((k = 700 → a ≠ 84 ∧ a ≠ 94 ∧ a ≠ 103 ∧ a ≠ 62 ∧ (a < 204 ∨ 347 < a)) ∧ a ≠ 112 ∧ a ≠ 93 ∧ (a = 348 → k = 1201) ∧ (a = 0 → k ≠ 1109 ∧ k ≠ 1110)) → hFI g k a = hFI h k a := fun k a ha => q9 k a (by unfold cFld; omega) (by omega) (by omega) (by omega)
  have hp3 : 3 < p ∧ p ≤ 30 ∧ (p = 4 ∨ p = 30) := by rcases t1 with ⟨z, _⟩ | ⟨z, _⟩ <;> subst z <;> decide
  refine ⟨s1.to q1 (fun k a _ _ _ => by rw [q2]) q3 q4, s2.to q1 q4 q3 q7 (fun a ha => f _ _ (by omega)), by rw [r _ (by decide)]; exact s3, ?_, ?_, s6.fr (f _ _ (by decide)) (f _ _ (by decide)) (r _ (by decide)) (r _ (by decide)), t1, by rw [q2]; exact t2, by rw [q2]; exact t3, ?_, ?_, ?_, ?_⟩
  · rw [getS_fr (f _ _ (by decide)) (fun k h1 h2 => r _ (by omega))]
    exact s4
  · rw [getS_fr (f _ _ (by decide)) (fun k h1 h2 => r _ (by omega))]
    exact s5
  · exact t4.fr q1 (fun k a _ => by rw [q2]) q3 hp3.1 hp3.2.1 (fun k h1 h2 => r _ (by omega)) (fun k h1 h2 a ha => f _ _ (by omega)) (f _ _ (by omega)) (fun a h1 h2 => r _ (by omega)) q5
  · exact t6.fr (f _ _ (by decide)) (fun j h1 h2 => r _ (by omega)) (by rw [r _ (by decide)]) (fun x h1 h2 i hi => by rw [r _ (by omega)])
  · exact t7.fr (f _ _ (by decide)) (f _ _ (by decide)) (fun j h1 h2 => r _ (by omega)) (by rw [r _ (by decide)]) (by rw [r _ (by decide)]) (fun i hi => ⟨by rw [r _ (by decide)], by rw [r _ (by decide)]⟩) (fun i hi => ⟨by rw [r _ (by decide)], by rw [r _ (by decide)]⟩)
  · exact t8.fr (r _ (by decide)) (r _ (by decide)) (fun a h1 h2 => r _ (by omega)) (fun k a h1 h2 => f _ _ (by omega)) (r _ (by decide)) (r _ (by decide)) (r _ (by decide)) (fun k h1 h2 => ⟨by rw [r _ (by decide)], by rw [r _ (by decide)], by rw [r _ (by decide)]⟩) (fun x h1 h2 i hi => by rw [r _ (by omega)]) (fun i hi => ⟨by rw [r _ (by decide)], by rw [r _ (by decide)]⟩) (fun i hi => ⟨by rw [r _ (by decide)], by rw [r _ (by decide)]⟩)
/-- a row told by its value -/
theorem SR_enc {M : Nat → Nat → Int32} {np nc ne nw hr : Nat} {R : SV} {Q : MQv} (hn : np ≤ 5 ∧ nc ≤ 6 ∧ ne ≤ 4 ∧ nw ≤ 6) (h : SR M np nc ne nw hr R Q) : SR M np nc ne nw hr R (dec (enc Q)) := by
  obtain ⟨n1, n2, n3, n4⟩ := hn
  obtain ⟨s1, s2, s3, s4, s5, s6, s7, s8, s9, s10, s11, s12, s13, s14, s15⟩ := h
  have ec : ∀ c, c < 6 → getc (dec (enc Q)).1 c = getc Q.1 c := fun c hc => by
    show (enc Q (6 + c), enc Q (12 + c), enc Q (18 + c)) = _
    rw [enc_h Q hc, enc_s Q hc, enc_t Q hc]
    rfl
  have ea : ∀ i, i < 4 → enc Q (24 + i) = Q.1.2.2.2.2.1 i ∧ enc Q (28 + i) = Q.1.2.2.2.2.2.1 i ∧ enc Q (32 + i) = Q.1.2.2.2.2.2.2.1 i := fun i hi => ⟨enc_a Q hi, enc_p Q hi, enc_d Q hi⟩
  have ew : ∀ i, i < 5 → enc Q (1 + i) = Q.1.2.2.2.2.2.2.2.1 i := fun i hi => enc_w Q hi
  have ed : ∀ i, i < 6 → dn (dec (enc Q)).1 i = dn Q.1 i := fun i hi => enc_o Q hi
  refine ⟨s1, (enc_0 Q).trans s2, fun c hc => (s3 c hc).trans (ec c (by omega)).symm, fun i hi => ?_, fun p hp => (s5 p hp).trans (ew p (by omega)).symm, fun w hw => (s6 w hw).trans (ed w (by omega)).symm, ?_, fun c hc => by rw [ec c (by omega)]; exact s8 c hc, fun i hi => ?_, fun p hp => ?_, fun w hw => by rw [ed w (by omega)]; exact s11 w hw, fun c h1 h2 => (ec c h2).trans (s12 c h1 h2), fun i h1 h2 => ?_, fun p h1 h2 => (ew p h2).trans (s14 p h1 h2), fun w h1 h2 => (ed w h2).trans (s15 w h1 h2)⟩
  · obtain ⟨a1, a2, a3⟩ := ea i (by omega)
    obtain ⟨b1, b2, b3⟩ := s4 i hi
    exact ⟨b1.trans a1.symm, b2.trans a2.symm, b3.trans a3.symm⟩
  · show enc Q 42 = _
    rw [enc_z Q (Nat.le_refl 42)]
    refine Eq.trans s7 (sumN_congr nw (fun w hw => ?_))
    unfold pdw
    rw [ed w (by omega)]
  · obtain ⟨a1, a2, a3⟩ := ea i (by omega)
    have := s9 i hi
    show (∃ q, q < np ∧ enc Q (24 + i) = nI q) ∧ 0 ≤ (enc Q (28 + i)).toInt ∧ (enc Q (28 + i)).toInt ≤ 999
    rw [a1, a2]
    exact this
  · have := s10 p hp
    show 0 ≤ (enc Q (1 + p)).toInt ∧ (enc Q (1 + p)).toInt ≤ 9999
    rw [ew p (by omega)]
    exact this
  · obtain ⟨a1, a2, a3⟩ := ea i h2
    obtain ⟨b1, b2, b3⟩ := s13 i h1 h2
    exact ⟨a1.trans b1, a2.trans b2, a3.trans b3⟩
/-- the ring as the class's keepBefore leaves it -/
theorem c_keepAll {d fr mn : Nat} {h g : AH} {Z : SV} (hx : XUn g) (hf : hFI g 1109 0 = nI fr) (hm : hFI g 1110 0 = nI mn) (h1 : fr < 16) (h2 : mn ≤ 16) (h84 : getS g 84 = Z) :
    ∃ g1 fr' mn', am_C PG (d + 2) 140 [.ref 0] g = some (none, g1) ∧ Qk g g1 ∧ (∀ a, 348 < a → hAI g1 a = hAI g a) ∧ (∀ k, hFI g1 k 348 = hFI g k 348) ∧ hNX g1 = hNX g ∧ getS g1 62 = getS g 62 ∧ fr' < 16 ∧ hFI g1 1109 0 = nI fr' ∧ hFI g1 1110 0 = nI mn' ∧ ((mn < 16 ∧ fr' = fr ∧ mn' = mn + 1) ∨ (mn = 16 ∧ fr' = (fr + 1) % 16 ∧ mn' = 16)) ∧ (∃ Y, getS g1 (204 + 9 * ((fr + mn) % 16)) = cpS Z Y) ∧ ∀ j, j < 16 → j ≠ (fr + mn) % 16 → getS g1 (204 + 9 * j) = getS g (204 + 9 * j) := by
  have hs : (fr + mn) % 16 < 16 := Nat.mod_lt _ (by decide)
  have k := c_keepB (d := d) hx hf hm h1 h2
  rw [h84] at k
  generalize hsl : (fr + mn) % 16 = s at k hs ⊢
  generalize hY : getS g (204 + 9 * s) = Y at k
  have q1 : Qk g (putS g (204 + 9 * s) (cpS Z Y)) := Qk.st _ _ _ (Or.inr (by omega))
  have e62 : getS (putS g (204 + 9 * s) (cpS Z Y)) 62 = getS g 62 := getS_far _ _ (by omega)
  have es : getS (putS g (204 + 9 * s) (cpS Z Y)) (204 + 9 * s) = cpS Z Y := getS_put _ _ _
  have eo : ∀ j, j < 16 → j ≠ s → getS (putS g (204 + 9 * s) (cpS Z Y)) (204 + 9 * j) = getS g (204 + 9 * j) := fun j hj hne => getS_far _ _ (by omega)
  have ea : ∀ a, 348 < a → hAI (putS g (204 + 9 * s) (cpS Z Y)) a = hAI g a := fun a ha => pS_far _ _ (by omega)
  have ef : ∀ k a, a < 204 ∨ 347 < a → hFI (putS g (204 + 9 * s) (cpS Z Y)) k a = hFI g k a := fun k a ha => pS_fi _ _ (Or.inr (by omega))
  by_cases c : mn < 16
  · rw [if_pos c] at k
    refine ⟨_, fr, mn + 1, k, q1.tr (Qk.fi _ _ _ _ (by omega)), ea, fun k => ?_, rfl, ?_, h1, ?_, sFI_at _ _ _ _, Or.inl ⟨c, rfl, rfl⟩, ⟨Y, ?_⟩, fun j h1 h2 => ?_⟩
    · rw [sFI_o _ _ (Or.inr (by decide)), ef _ _ (by omega)]
    · rw [getS_sFI _ _ (by decide)]; exact e62
    · rw [sFI_o _ _ (Or.inl (by decide)), ef _ _ (by omega)]; exact hf
    · rw [getS_sFI _ _ (by decide)]; exact es
    · rw [getS_sFI _ _ (by decide)]; exact eo j h1 h2
  · rw [if_neg c] at k
    have e16 : mn = 16 := by omega
    refine ⟨_, (fr + 1) % 16, 16, k, q1.tr (Qk.fi _ _ _ _ (by omega)), ea, fun k => ?_, rfl, ?_, Nat.mod_lt _ (by decide), sFI_at _ _ _ _, ?_, Or.inr ⟨e16, rfl, rfl⟩, ⟨Y, ?_⟩, fun j h1 h2 => ?_⟩
    · rw [sFI_o _ _ (Or.inr (by decide)), ef _ _ (by omega)]
    · rw [getS_sFI _ _ (by decide)]; exact e62
    · rw [sFI_o _ _ (Or.inl (by decide)), ef _ _ (by omega), hm, e16]
    · rw [getS_sFI _ _ (by decide)]; exact es
    · rw [getS_sFI _ _ (by decide)]; exact eo j h1 h2
/-- Inv behind a deed: class's heap g1 (from g by keepBefore), then the reference's keeps and its new row -/
theorem keep_inv {B L fr mn fr' mn' hr : Nat} {xs : Nat → Int32} {h g1 : AH} {p dp np nc ne nw len n : Nat} {W : Int32 → Int32 → Int32 → Int32 → Int32} {Y : SV} {Q' : MQv} {τ : Nat → Nat → Int32} {y : M4} (IQ : InvQ B L xs h p dp np nc ne nw len n W) (N : NowI B h np nc ne nw) (h1 : fr < 16) (h2 : mn ≤ 16) (hU : ∀ j, j < mn → ∃ hr, hr ≤ B ∧ SR (hAI h) np nc ne nw hr (getS h (204 + 9 * ((fr + j) % 16))) (dec (slot (hAI h 400) j)))
    (q : Qk h g1) (hb : ∀ a, 348 < a → hAI g1 a = hAI h a) (f1 : fr' < 16) (f2 : hFI g1 1109 0 = nI fr') (f3 : hFI g1 1110 0 = nI mn') (f4 : (mn < 16 ∧ fr' = fr ∧ mn' = mn + 1) ∨ (mn = 16 ∧ fr' = (fr + 1) % 16 ∧ mn' = 16)) (f5 : getS g1 (204 + 9 * ((fr + mn) % 16)) = cpS (getS h 62) Y) (f6 : ∀ j, j < 16 → j ≠ (fr + mn) % 16 → getS g1 (204 + 9 * j) = getS h (204 + 9 * j)) (hhr : hr ≤ B) (hS : SR (hAI h) np nc ne nw hr (getS g1 62) Q') :
    Inv B L xs (HM (sFI (sAI (sFI g1 1200 348 0) 400 (mkp mn (hAI g1 400) (hAI g1 397))) 1264 348 (nI (if mn = 16 then 16 else mn + 1))) (enc Q') τ y) := by
  have hn : np ≤ 5 ∧ nc ≤ 6 ∧ ne ≤ 4 ∧ nw ≤ 6 := ⟨IQ.2.2.2.2.2.2.2.2.2.1.1.1.2.2.2.2.2.1, IQ.2.2.2.2.2.2.2.2.2.1.1.1.2.2.2.2.2.2⟩
  have q2 : Qk g1 (HM (sFI (sAI (sFI g1 1200 348 0) 400 (mkp mn (hAI g1 400) (hAI g1 397))) 1264 348 (nI (if mn = 16 then 16 else mn + 1))) (enc Q') τ y) := (Qk.of (th_qt g1)).tr ((Qk.u4 _ _).tr ((Qk.fi _ 1264 348 _ (by omega)).tr (Qk.hm' _ _ _ _)))
  have w400 : hAI (HM (sFI (sAI (sFI g1 1200 348 0) 400 (mkp mn (hAI g1 400) (hAI g1 397))) 1264 348 (nI (if mn = 16 then 16 else mn + 1))) (enc Q') τ y) 400 = mkp mn (hAI h 400) (hAI h 397) := by
    rw [hm_o _ _ _ _ (by decide) (by decide), rd_hAI_sFI, sAI_at, hb 400 (by decide), hb 397 (by decide)]
  have w397 : hAI (HM (sFI (sAI (sFI g1 1200 348 0) 400 (mkp mn (hAI g1 400) (hAI g1 397))) 1264 348 (nI (if mn = 16 then 16 else mn + 1))) (enc Q') τ y) 397 = enc Q' := hm_at _ _ _ _
  have wo : ∀ a, a ≠ 397 → a ≠ 400 → (a < 375 ∨ 384 < a) → hAI (HM (sFI (sAI (sFI g1 1200 348 0) 400 (mkp mn (hAI g1 400) (hAI g1 397))) 1264 348 (nI (if mn = 16 then 16 else mn + 1))) (enc Q') τ y) a = hAI g1 a := fun a z1 z2 z3 => by
    rw [hm_o _ _ _ _ z1 z3, rd_hAI_sFI, sAI_ne _ _ z2, rd_hAI_sFI]
  have wf : ∀ k a, a ≠ 348 → hFI (HM (sFI (sAI (sFI g1 1200 348 0) 400 (mkp mn (hAI g1 400) (hAI g1 397))) 1264 348 (nI (if mn = 16 then 16 else mn + 1))) (enc Q') τ y) k a = hFI g1 k a := fun k a z => by
    rw [hm_fo _ _ _ _ (Or.inl z), sFI_o _ _ (Or.inr z), rd_hFI_sAI, sFI_o _ _ (Or.inr z)]
  have w1264 : hFI (HM (sFI (sAI (sFI g1 1200 348 0) 400 (mkp mn (hAI g1 400) (hAI g1 397))) 1264 348 (nI (if mn = 16 then 16 else mn + 1))) (enc Q') τ y) 1264 348 = nI mn' := by
    rw [hm_fo _ _ _ _ (by omega), sFI_at]
    rcases f4 with ⟨z1, z2, z3⟩ | ⟨z1, z2, z3⟩
    · rw [if_neg (by omega), z3]
    · rw [if_pos z1, z3]
  generalize HM (sFI (sAI (sFI g1 1200 348 0) 400 (mkp mn (hAI g1 400) (hAI g1 397))) 1264 348 (nI (if mn = 16 then 16 else mn + 1))) (enc Q') τ y = g2 at q2 w400 w397 wo wf w1264
  have gs : ∀ a, a + 8 < 348 → getS g2 a = getS g1 a := fun a ha => getS_fr (wf _ _ (by omega)) (fun k k1 k2 => wo _ (by omega) (by omega) (by omega))
  have eM : ∀ a, 348 < a → a < 375 → hAI g2 a = hAI h a := fun a z1 z2 => (wo a (by omega) (by omega) (by omega)).trans (hb a z1)
  refine (IQ.qk (q.tr q2)).inv ⟨hr, hhr, ?_⟩ ⟨fr', mn', f1, by omega, by rw [wf _ _ (by decide)]; exact f2, by rw [wf _ _ (by decide)]; exact f3, w1264, fun j hj => ?_⟩
  · rw [gs 62 (by decide), w397]
    refine SR_M (eM _ (by decide) (by decide)) (eM _ (by decide) (by decide)) ?_
    exact SR_enc hn hS
  · have hjb : (fr' + j) % 16 < 16 := Nat.mod_lt _ (by decide)
    rw [gs _ (by omega), w400]
    obtain ⟨hr0, n1, n2⟩ := N
    rcases f4 with ⟨z1, z2, z3⟩ | ⟨z1, z2, z3⟩
    · subst z2
      by_cases e : j = mn
      · subst e
        rw [f5]
        refine ⟨hr0, n1, SR_M (eM _ (by decide) (by decide)) (eM _ (by decide) (by decide)) (SR_cpS hn (SR_dec hn (fun k hk => ?_) n2))⟩
        exact mkp_new z1 hk
      · obtain ⟨hr1, t1, t2⟩ := hU j (by omega)
        rw [f6 _ hjb (by
          have hj16 : j < 16 := by omega
          omega)]
        refine ⟨hr1, t1, SR_M (eM _ (by decide) (by decide)) (eM _ (by decide) (by decide)) (SR_dec hn (fun k hk => ?_) t2)⟩
        exact mkp_old z1 (by omega) hk
    · subst z2
      subst z1
      by_cases e : j = 15
      · subst e
        have ei : ((fr + 1) % 16 + 15) % 16 = (fr + 16) % 16 := by omega
        rw [ei, f5]
        refine ⟨hr0, n1, SR_M (eM _ (by decide) (by decide)) (eM _ (by decide) (by decide)) (SR_cpS hn (SR_dec hn (fun k hk => ?_) n2))⟩
        exact mkp_new16 hk
      · obtain ⟨hr1, t1, t2⟩ := hU (j + 1) (by omega)
        have ei : ((fr + 1) % 16 + j) % 16 = (fr + (j + 1)) % 16 := by omega
        rw [ei, f6 _ (Nat.mod_lt _ (by decide)) (by omega)]
        refine ⟨hr1, t1, SR_M (eM _ (by decide) (by decide)) (eM _ (by decide) (by decide)) (SR_dec hn (fun k hk => ?_) t2)⟩
        exact mkp_old16 (by omega) hk
