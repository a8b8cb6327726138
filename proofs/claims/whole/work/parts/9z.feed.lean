/-! The tapes: feed. -/
theorem Lk.fr' {h g : AH} {p np nc ne nw len n : Nat} {W : Int32 → Int32 → Int32 → Int32 → Int32} (e1 : hK g = hK h) (e2 : ∀ k a, 3 < a → hFR g k a = hFR h k a) (e3 : hLN g = hLN h) (hp : 3 < p) (hpb : p ≤ 30) (e4 : ∀ k, k ≤ 15 → hAI g (p + k) = hAI h (p + k)) (e5 : ∀ k, 401 ≤ k → k ≤ 505 → ∀ a, a ≤ 44 → hFI g k a = hFI h k a) (e6 : ∀ a, 350 ≤ a → a < 375 → hAI g a = hAI h a) (s : Lk h h p np nc ne nw len n W) : Lk g g p np nc ne nw len n W := by
  obtain ⟨h1, h2, h3, h4, h5, h6, h7, h8, h9⟩ := s
  have fs : ∀ a, 3 < a → StSh h a → StSh g a := fun a ha s => by
    unfold StSh at s ⊢
    rw [e1, e3]
    simp only [e2 _ a ha]
    exact s
  have fl : ∀ a, 3 < a → LwSh h a → LwSh g a := fun a ha s => by
    unfold LwSh at s ⊢
    rw [e1, e3]
    simp only [e2 _ a ha]
    exact s
  have fp : ∀ a, 3 < a → PoSh h a → PoSh g a := fun a ha s => by
    obtain ⟨q1, q2, q3⟩ := s
    refine ⟨?_, fl _ (by omega) q2, fs _ (by omega) q3⟩
    unfold PoSh0 at q1 ⊢
    rw [e1, e3]
    simp only [e2 _ a ha]
    exact q1
  refine ⟨?_, ?_, ?_, h4.to e1 (fun k => e2 k _ (by decide)) e3, h5.to (e6 _ (by decide) (by decide)) (e6 _ (by decide) (by decide)) (e6 _ (by decide) (by decide)), ?_, by rw [e6 _ (by decide) (by decide)]; exact h7, ?_, ?_⟩
  · obtain ⟨q1, q2, q3, q4, q5, q6⟩ := h1
    exact ⟨fp _ hp q1, by rw [e5 _ (by decide) (by decide) _ (by omega)]; exact q2, by rw [e5 _ (by decide) (by decide) _ (by omega)]; exact q3, by rw [e5 _ (by decide) (by decide) _ (by omega)]; exact q4, by rw [e5 _ (by decide) (by decide) _ (by omega)]; exact q5, q6⟩
  · obtain ⟨q1, q2, q3⟩ := h2
    exact ⟨by rw [e5 _ (by decide) (by decide) _ (by omega)]; exact q1, q2, by rw [e4 15 (by decide)]; exact q3⟩
  · unfold PoT at h3 ⊢
    rw [e4 10 (by decide)]
    exact h3
  · unfold MoC at h6 ⊢
    rw [e6 350 (by decide) (by decide)]
    exact h6
  · unfold PRow rowsP at h8 ⊢
    rw [e4 4 (by decide), e4 5 (by decide), e4 6 (by decide), e4 7 (by decide), e4 8 (by decide), e4 9 (by decide), e4 10 (by decide), e4 11 (by decide), e4 12 (by decide), e4 13 (by decide), e6 357 (by decide) (by decide), e6 358 (by decide) (by decide), e6 359 (by decide) (by decide), e6 361 (by decide) (by decide), e6 363 (by decide) (by decide), e6 365 (by decide) (by decide), e6 366 (by decide) (by decide), e6 367 (by decide) (by decide), e6 368 (by decide) (by decide), e6 369 (by decide) (by decide)]
    exact h8
  · unfold StepR rowsP at h9 ⊢
    rw [e4 2 (by decide), e6 356 (by decide) (by decide)]
    exact h9
theorem InvP.fr' {h g : AH} {p np nc ne nw len n : Nat} {W : Int32 → Int32 → Int32 → Int32 → Int32} (e1 : hK g = hK h) (e2 : ∀ k a, 3 < a → hFR g k a = hFR h k a) (e3 : hLN g = hLN h) (hp : 3 < p) (hpb : p ≤ 30) (e4 : ∀ k, k ≤ 25 → k ≠ 16 → hAI g (p + k) = hAI h (p + k)) (e5 : ∀ k, 401 ≤ k → k ≤ 505 → ∀ a, a ≤ 44 → hFI g k a = hFI h k a) (e5' : hFI g 700 (p + 17) = hFI h 700 (p + 17)) (e6 : ∀ a, 350 ≤ a → a < 375 ∨ a = 385 → hAI g a = hAI h a) (e7 : hAJ g = hAJ h) (s : InvP h p np nc ne nw len n W) : InvP g p np nc ne nw len n W := by
  obtain ⟨s1, s2, s3, s4, s5⟩ := s
  refine ⟨s1.fr' e1 e2 e3 hp hpb (fun k hk => e4 k (by omega) (by omega)) e5 (fun a h1 h2 => e6 a h1 (Or.inl h2)), ?_, by rw [e7]; exact s3, fun f => ?_, by rw [e5 _ (by decide) (by decide) _ (by omega), e6 350 (by decide) (by decide)]; exact s5⟩
  · rw [e4 3 (by decide) (by decide), e6 385 (by decide) (Or.inr rfl)]
    exact s2
  · rw [getS_fr e5' (fun k h1 h2 => by rw [Nat.add_assoc]; exact e4 (17 + k) (by omega) (by omega)), FQ_M (e6 355 (by decide) (by decide)) (e6 360 (by decide) (by decide)) (e6 362 (by decide) (by decide)) (e6 364 (by decide) (by decide))]
    exact SR_M (e6 359 (by decide) (by decide)) (e6 368 (by decide) (by decide)) (s4 f)
/-- only the tapes and scratch may differ -/
def Qp (h g : AH) : Prop := Sm h g ∧ (∀ a, a ≠ 2 → a ≠ 349 → hAI g a = hAI h a) ∧ ∀ k a, (k ≠ 901 ∨ a ≠ 1) → (k ≠ 1201 ∨ a ≠ 348) → (k ≠ 1200 ∨ a ≠ 348) → hFI g k a = hFI h k a
theorem Qp.tr {h g k : AH} (a : Qp h g) (b : Qp g k) : Qp h k := ⟨a.1.tr b.1, fun x h1 h2 => (b.2.1 x h1 h2).trans (a.2.1 x h1 h2), fun j x h1 h2 h3 => (b.2.2 j x h1 h2 h3).trans (a.2.2 j x h1 h2 h3)⟩
theorem Qp.law {h g : AH} (q : Qp h g) : LawK h g := ⟨q.1.1, q.1.2.2.1, q.2.1 _ (by omega) (by omega)⟩
theorem Qp.inv {B L : Nat} {xs : Nat → Int32} {h g : AH} (q : Qp h g) (T : TaI g) (s : Inv B L xs h) : Inv B L xs g := by
  obtain ⟨⟨q1, q2, q3, q4, q5, q6, q7⟩, r0, f0⟩ := q
  obtain ⟨s1, s2, s3, s4, s5, s6, p, dp, np, nc, ne, nw, len, n, W, t1, t2, t3, t4, t5, t6, t7, t8, t9⟩ := s
  have hn : np ≤ 5 ∧ nc ≤ 6 ∧ ne ≤ 4 ∧ nw ≤ 6 := ⟨t4.1.1.2.2.2.2.2.1, t4.1.1.2.2.2.2.2.2⟩
  have r : ∀ a, (a ≠ 2 ∧ a ≠ 349) → hAI g a = hAI h a := fun a ha => r0 a ha.1 ha.2
  have f : ∀ k a, (a ≠ 1 ∧ (a = 348 → k ≠ 1201 ∧ k ≠ 1200)) → hFI g k a = hFI h k a := fun k a ha => f0 k a (by omega) (by omega) (by omega)
  have hp3 : 3 < p ∧ p ≤ 30 ∧ (p = 4 ∨ p = 30) := by rcases t1 with ⟨z, _⟩ | ⟨z, _⟩ <;> subst z <;> decide
  refine ⟨s1.to q1 (fun k a _ _ _ => by rw [q2]) q3 q4, s2.to q1 q4 q3 (fun k a _ => by rw [q6]) (fun a ha => f _ _ (by omega)), by rw [r _ (by decide)]; exact s3, ?_, ?_, T, p, dp, np, nc, ne, nw, len, n, W, t1, by rw [q2]; exact t2, by rw [q2]; exact t3, ?_, ?_, ?_, ?_, ?_, ?_⟩
  · rw [getS_fr (f _ _ (by decide)) (fun k h1 h2 => r _ (by omega))]
    exact s4
  · rw [getS_fr (f _ _ (by decide)) (fun k h1 h2 => r _ (by omega))]
    exact s5
  · refine t4.fr' q1 (fun k a _ => by rw [q2]) q3 hp3.1 hp3.2.1 (fun k h1 h2 => r _ (by omega)) (fun k h1 h2 a ha => ?_) (f _ _ (by omega)) (fun a h1 h2 => r _ (by omega)) q5
    exact f0 k a (by omega) (by omega) (by omega)
  · exact t5.fr hn (r _ (by decide)) (r _ (by decide)) (getS_fr (f _ _ (by decide)) (fun k h1 h2 => r _ (by omega))) (fun j _ => by rw [r 397 (by decide)])
  · exact t6.fr (f _ _ (by decide)) (fun j h1 h2 => r _ (by omega)) (by rw [r _ (by decide)]) (fun x h1 h2 i hi => by rw [r _ (by omega)])
  · exact t7.fr (f _ _ (by decide)) (f _ _ (by decide)) (fun j h1 h2 => r _ (by omega)) (by rw [r _ (by decide)]) (by rw [r _ (by decide)]) (fun i hi => ⟨by rw [r _ (by decide)], by rw [r _ (by decide)]⟩) (fun i hi => ⟨by rw [r _ (by decide)], by rw [r _ (by decide)]⟩)
  · exact t8.fr (r _ (by decide)) (r _ (by decide)) (fun a h1 h2 => r _ (by omega)) (fun k a h1 h2 => f _ _ (by omega)) (r _ (by decide)) (r _ (by decide)) (r _ (by decide)) (fun k h1 h2 => ⟨by rw [r _ (by decide)], by rw [r _ (by decide)], by rw [r _ (by decide)]⟩) (fun x h1 h2 i hi => by rw [r _ (by omega)]) (fun i hi => ⟨by rw [r _ (by decide)], by rw [r _ (by decide)]⟩) (fun i hi => ⟨by rw [r _ (by decide)], by rw [r _ (by decide)]⟩)
  · exact t9.fr (r _ (by decide)) (r _ (by decide)) (fun a h1 h2 => r _ (by omega)) (fun a h1 h2 => f _ _ (by omega)) (f _ _ (by decide)) (f _ _ (by decide)) (f _ _ (by decide)) (r _ (by decide))
/-! one sign put -/
abbrev okS (v : Int32) : Prop := v = 10 ∨ (¬ v < 32 ∧ ¬ 126 < v)
def ptS (v : Int32) (s : Nat × (Nat → Int32)) : Nat × (Nat → Int32) := if okS v ∧ s.1 < 1000 then (s.1 + 1, upd s.2 s.1 v) else s
theorem okS_n {v : Int32} (h : okS v) : ∃ c, c < 127 ∧ v = nI c := by
  rcases h with z | z
  · exact ⟨10, by decide, z⟩
  · obtain ⟨m, m1, m2, m3⟩ := in_rng (a := 32) (b := 126) rfl rfl (by decide) (by decide) z
    exact ⟨m, by omega, m3⟩
theorem fcast : ∀ c : Fin 127, ((nI c.1).toUInt32 % 65536).toInt32 = nI c.1 := by decide +kernel
theorem okS_c {v : Int32} (h : okS v) : (v.toUInt32 % 65536).toInt32 = v := by
  obtain ⟨c, hc, rfl⟩ := okS_n h
  exact fcast ⟨c, hc⟩
theorem okS_r {v : Int32} (h : okS v) (x : Option Res) : am_nar 5 v x = x := by
  obtain ⟨c, hc, rfl⟩ := okS_n h
  show (if nI c < 0 ∨ 65535 < nI c then none else x) = x
  rw [if_neg]
  intro z
  rcases z with z | z
  · exact nI_nlt (b := 0) (by omega) (by omega) z
  · exact (show ¬ nI 65535 < nI c from nI_nlt (by omega) (by omega)) z
def Tc (h : AH) (s : Nat × (Nat → Int32)) : AH := sFI (sAI h 2 s.2) 901 1 (nI s.1)
def Tm (h : AH) (s : Nat × (Nat → Int32)) : AH := sFI (sAI h 349 s.2) 1201 348 (nI s.1)
theorem c_put {d : Nat} {h : AH} {s : Nat × (Nat → Int32)} (k1 : hK h 1 = 10) (f1 : hFR h 900 1 = some 2) (k2 : hK h 2 = 51) (n2 : hLN h 2 = 1000) (hs : s.1 ≤ 1000) (v : Int32) : am_C PG (d + 1) 113 [.ref 1, .int v] (Tc h s) = some (none, Tc h (ptS v s)) := by
  have z0 : ((0 : Int32) = 0) = True := eq_true rfl
  have z1 : ((1 : Int32) = 0) = False := eq_false (by decide)
  by_cases hv : okS v
  · by_cases hl : s.1 < 1000
    · have e : ptS v s = (s.1 + 1, upd s.2 s.1 v) := if_pos ⟨hv, hl⟩
      have e5 : (nI s.1 < (1000 : Int32)) = True := eq_true (nI_lt (b := 1000) hl (by decide))
      have ei : ∀ x, am_in (nI s.1) 1000 x = x := am_inN hl (by decide)
      have ti : Int32.toNatClampNeg (nI s.1) = s.1 := nI_clamp (by omega)
      have w1 : hFI (Tc h s) 901 1 = nI s.1 := sFI_at _ _ _ _
      have w2 : hFR (Tc h s) = hFR h := rfl
      have w3 : hK (Tc h s) = hK h := rfl
      have w4 : hLN (Tc h s) = hLN h := rfl
      have w5 : sEI (Tc h s) 2 s.1 v = sFI (sAI h 2 (upd s.2 s.1 v)) 901 1 (nI s.1) := by
        unfold Tc
        rw [sEI_e, rd_hAI_sFI, sAI_at, sFI_sAI, sAI_sAI]
      have w6 : hFI (sFI (sAI h 2 (upd s.2 s.1 v)) 901 1 (nI s.1)) 901 1 = nI s.1 := sFI_at _ _ _ _
      have cc := okS_c hv
      have cr := okS_r hv
      rw [e, q_X9_put]
      rcases hv with hv | ⟨hv1, hv2⟩
      · simp only [eq_true hv, if_true, z1, if_false, am_kd, w1, w2, w3, w4, k1, f1, k2, n2, e5, bR_s, ei, ti, cc, cr, w5, w6, am_let_e, rd_hK_sFI, rd_hK_sAI, nI_1, sFI_sFI]
        rfl
      · by_cases h10 : v = 10
        · simp only [eq_true h10, if_true, z1, if_false, am_kd, w1, w2, w3, w4, k1, f1, k2, n2, e5, bR_s, ei, ti, cc, cr, w5, w6, am_let_e, rd_hK_sFI, rd_hK_sAI, nI_1, sFI_sFI]
          rfl
        · simp only [eq_false h10, eq_false hv1, eq_false hv2, if_true, z1, if_false, am_kd, w1, w2, w3, w4, k1, f1, k2, n2, e5, bR_s, ei, ti, cc, cr, w5, w6, am_let_e, rd_hK_sFI, rd_hK_sAI, nI_1, sFI_sFI]
          rfl
    · have e : ptS v s = s := if_neg (fun z => hl z.2)
      have e5 : (nI s.1 < (1000 : Int32)) = False := eq_false (nI_nlt (b := 1000) (by omega) (by omega))
      have w1 : hFI (Tc h s) 901 1 = nI s.1 := sFI_at _ _ _ _
      have w3 : hK (Tc h s) = hK h := rfl
      rw [e, q_X9_put]
      simp only [am_kd, w1, w3, k1, e5, if_true, if_false, z1, z0]
      by_cases h10 : v = 10
      · rw [if_pos h10]
      · rw [if_neg h10]
        by_cases c1 : v < 32
        · rw [if_pos c1]
        · rw [if_neg c1]
          by_cases c2 : 126 < v
          · rw [if_pos c2]
          · rw [if_neg c2]
  · have e : ptS v s = s := if_neg (fun z => hv z.1)
    have h10 : ¬ v = 10 := fun z => hv (Or.inl z)
    rw [e, q_X9_put, if_neg h10]
    by_cases c1 : v < 32
    · rw [if_pos c1, if_pos rfl]
    · have c2 : 126 < v := Classical.byContradiction (fun z => hv (Or.inr ⟨c1, z⟩))
      rw [if_neg c1, if_pos c2, if_pos rfl]
theorem ptS_le {v : Int32} {s : Nat × (Nat → Int32)} (h : s.1 ≤ 1000) : (ptS v s).1 ≤ 1000 := by
  unfold ptS
  by_cases c : okS v ∧ s.1 < 1000
  · rw [if_pos c]
    show s.1 + 1 ≤ 1000
    omega
  · rw [if_neg c]
    exact h
/-- the byte at a shift -/
def by8 (l : Int64) (s : Int32) : Int32 := Int64.toInt32 ((l.toUInt64 >>> ((Int32.toInt64 s).toUInt64 &&& Int64.toUInt64 63)).toInt64) &&& 255
def eiS (l : Int64) (s : Nat × (Nat → Int32)) : Nat × (Nat → Int32) := ptS (by8 l 0) (ptS (by8 l 8) (ptS (by8 l 16) (ptS (by8 l 24) (ptS (by8 l 32) (ptS (by8 l 40) (ptS (by8 l 48) (ptS (by8 l 56) s)))))))
theorem eiS_le {l : Int64} {s : Nat × (Nat → Int32)} (h : s.1 ≤ 1000) : (eiS l s).1 ≤ 1000 := ptS_le (ptS_le (ptS_le (ptS_le (ptS_le (ptS_le (ptS_le (ptS_le h)))))))
theorem c_eight {d : Nat} {h : AH} {s : Nat × (Nat → Int32)} (k0 : hK h 0 = 12) (f0 : hFR h 1100 0 = some 1) (k1 : hK h 1 = 10) (f1 : hFR h 900 1 = some 2) (k2 : hK h 2 = 51) (n2 : hLN h 2 = 1000) (hs : s.1 ≤ 1000) (l : Int64) : am_C PG (d + 2) 126 [.ref 0, .long l] (Tc h s) = some (none, Tc h (eiS l s)) := by
  have st : ∀ (x y : Int32) (s : Nat × (Nat → Int32)), ¬ x < 0 → x + -8 = y → s.1 ≤ 1000 → am_R PG (d + 2) 126 3 [some (.ref 0), some (.long l), none, some (.int x)] [] (Tc h s) = am_R PG (d + 2) 126 3 [some (.ref 0), some (.long l), none, some (.int y)] [] (Tc h (ptS (by8 l x) s)) := fun x y s hx hy hs => by
    have kp := c_put (d := d) k1 f1 k2 n2 hs (by8 l x)
    have w2 : hFR (Tc h s) = hFR h := rfl
    have w3 : hK (Tc h s) = hK h := rfl
    unfold by8 at kp ⊢
    rw [q_X11_feedEight_3, if_neg hx]
    simp only [am_kd, w2, w3, k0, f0, k1, if_true, bR_s, kp, bV_s, hy]
  rw [q_X11_feedEight, st 56 48 _ (by decide) (by decide) hs, st 48 40 _ (by decide) (by decide) (ptS_le hs), st 40 32 _ (by decide) (by decide) (ptS_le (ptS_le hs)), st 32 24 _ (by decide) (by decide) (ptS_le (ptS_le (ptS_le hs))), st 24 16 _ (by decide) (by decide) (ptS_le (ptS_le (ptS_le (ptS_le hs)))), st 16 8 _ (by decide) (by decide) (ptS_le (ptS_le (ptS_le (ptS_le (ptS_le hs))))), st 8 0 _ (by decide) (by decide) (ptS_le (ptS_le (ptS_le (ptS_le (ptS_le (ptS_le hs)))))), st 0 (-8) _ (by decide) (by decide) (ptS_le (ptS_le (ptS_le (ptS_le (ptS_le (ptS_le (ptS_le hs))))))), q_X11_feedEight_3, if_pos (by decide)]
  rfl
theorem by8_m (l : Int64) (s : Int32) : Int64.toInt32 (((l.toUInt64 >>> ((Int32.toInt64 s).toUInt64 &&& Int64.toUInt64 63)).toInt64) &&& (255 : Int64)) = by8 l s := by
  unfold by8
  rw [Int64.toInt32_and]
  rfl
def selL (a b c : Int64) (i : Nat) : Int64 := if i < 8 then a else if i < 16 then b else c
def fdS (a b c : Int64) (s : Nat × (Nat → Int32)) : Nat → Nat × (Nat → Int32)
  | 0 => s
  | i + 1 => ptS (by8 (selL a b c i) (56 - 8 * (nI i &&& 7))) (fdS a b c s i)
theorem fdS_le {a b c : Int64} {s : Nat × (Nat → Int32)} (h : s.1 ≤ 1000) : ∀ i, (fdS a b c s i).1 ≤ 1000
  | 0 => h
  | i + 1 => ptS_le (fdS_le h i)
theorem fdS_24 (a b c : Int64) (s : Nat × (Nat → Int32)) : fdS a b c s 24 = eiS c (eiS b (eiS a s)) := by
  have h0 : (56 : Int32) - 8 * (nI 0 &&& 7) = 56 := by decide
  have h1 : (56 : Int32) - 8 * (nI 1 &&& 7) = 48 := by decide
  have h2 : (56 : Int32) - 8 * (nI 2 &&& 7) = 40 := by decide
  have h3 : (56 : Int32) - 8 * (nI 3 &&& 7) = 32 := by decide
  have h4 : (56 : Int32) - 8 * (nI 4 &&& 7) = 24 := by decide
  have h5 : (56 : Int32) - 8 * (nI 5 &&& 7) = 16 := by decide
  have h6 : (56 : Int32) - 8 * (nI 6 &&& 7) = 8 := by decide
  have h7 : (56 : Int32) - 8 * (nI 7 &&& 7) = 0 := by decide
  have h8 : (56 : Int32) - 8 * (nI 8 &&& 7) = 56 := by decide
  have h9 : (56 : Int32) - 8 * (nI 9 &&& 7) = 48 := by decide
  have h10 : (56 : Int32) - 8 * (nI 10 &&& 7) = 40 := by decide
  have h11 : (56 : Int32) - 8 * (nI 11 &&& 7) = 32 := by decide
  have h12 : (56 : Int32) - 8 * (nI 12 &&& 7) = 24 := by decide
  have h13 : (56 : Int32) - 8 * (nI 13 &&& 7) = 16 := by decide
  have h14 : (56 : Int32) - 8 * (nI 14 &&& 7) = 8 := by decide
  have h15 : (56 : Int32) - 8 * (nI 15 &&& 7) = 0 := by decide
  have h16 : (56 : Int32) - 8 * (nI 16 &&& 7) = 56 := by decide
  have h17 : (56 : Int32) - 8 * (nI 17 &&& 7) = 48 := by decide
  have h18 : (56 : Int32) - 8 * (nI 18 &&& 7) = 40 := by decide
  have h19 : (56 : Int32) - 8 * (nI 19 &&& 7) = 32 := by decide
  have h20 : (56 : Int32) - 8 * (nI 20 &&& 7) = 24 := by decide
  have h21 : (56 : Int32) - 8 * (nI 21 &&& 7) = 16 := by decide
  have h22 : (56 : Int32) - 8 * (nI 22 &&& 7) = 8 := by decide
  have h23 : (56 : Int32) - 8 * (nI 23 &&& 7) = 0 := by decide
  have sa : ∀ i, i < 8 → selL a b c i = a := fun i hi => if_pos hi
  have sb : ∀ i, 8 ≤ i → i < 16 → selL a b c i = b := fun i h1 h2 => by unfold selL; rw [if_neg (by omega), if_pos h2]
  have sc : ∀ i, 16 ≤ i → selL a b c i = c := fun i h1 => by unfold selL; rw [if_neg (by omega), if_neg (by omega)]
  unfold eiS
  simp only [fdS]
  rw [sa 0 (by decide), sa 1 (by decide), sa 2 (by decide), sa 3 (by decide), sa 4 (by decide), sa 5 (by decide), sa 6 (by decide), sa 7 (by decide), sb 8 (by decide) (by decide), sb 9 (by decide) (by decide), sb 10 (by decide) (by decide), sb 11 (by decide) (by decide), sb 12 (by decide) (by decide), sb 13 (by decide) (by decide), sb 14 (by decide) (by decide), sb 15 (by decide) (by decide), sc 16 (by decide), sc 17 (by decide), sc 18 (by decide), sc 19 (by decide), sc 20 (by decide), sc 21 (by decide), sc 22 (by decide), sc 23 (by decide)]
  rw [h0, h1, h2, h3, h4, h5, h6, h7, h8, h9, h10, h11, h12, h13, h14, h15, h16, h17, h18, h19, h20, h21, h22, h23]
