/-! A post read, both sides whole. -/
theorem PR.zero {h g : AH} {a : Nat} (z : Clr h a) (e : hFI h 604 3 = 0) (r1 : ∀ i, 5 ≤ i → i < 10 → hAI g 350 i = nI 0) (r2 : ∀ i, 25 ≤ i → i < 50 → hAI g 356 i = nI 0) (r3 : ∀ i, 24 ≤ i → i < 48 → hAI g 369 i = nI 0) (r4 : hAI g 370 1 = nI 1000) (r5 : hAI g 371 1 = nI 1000) (r6 : hFI g 1233 348 = nI 1000) : PR h g a 0 0 0 0 0 := by
  obtain ⟨z1, z2, z3, z4, z5, z6, z7, z8⟩ := z
  refine ⟨⟨z1 _ (by decide) (by decide), z1 _ (by decide) (by decide), z1 _ (by decide) (by decide), z1 _ (by decide) (by decide), z1 _ (by decide) (by decide), r1 _ (by decide) (by decide), r1 _ (by decide) (by decide), r1 _ (by decide) (by decide), r1 _ (by decide) (by decide), r1 _ (by decide) (by decide), by decide, by decide, by decide, by decide⟩, ⟨⟨fun i hi => absurd hi (Nat.not_lt_zero _), fun i hi => absurd hi (Nat.not_lt_zero _), fun i hi => absurd hi (Nat.not_lt_zero _), fun i hi => absurd hi (Nat.not_lt_zero _)⟩, fun i _ hi => z2 i (by omega), fun i _ hi => z2 _ (by omega), fun i _ hi => z2 _ (by omega), fun i _ hi => z2 _ (by omega)⟩, fun i hi => absurd hi (Nat.not_lt_zero _), fun i hi => absurd hi (Nat.not_lt_zero _), fun i hi => absurd hi (Nat.not_lt_zero _), fun i hi => absurd hi (Nat.not_lt_zero _), fun i j hi hj => ⟨0, by decide, z3 _ (by omega), r2 _ (by omega) (by omega), fun _ => rfl⟩, fun j hj => ⟨0, by decide, z4 _ hj, r3 _ (by omega) (by omega)⟩, Or.inl ⟨e, r4, r5, r6, z5, z6, z7, z8⟩⟩
/-- the nearest ways written -/
theorem PR.near {h g : AH} {a np ny nc ne nw : Nat} (ha : 3 < a) (f : Nat → Int32) (s : PR h g a np ny nc ne nw) : PR (sAI h (a + 3) f) g a np ny nc ne nw := by
  obtain ⟨s1, s2, s3, s4, s5, s6, s7, s8, s9⟩ := s
  have r : ∀ x, x ≠ a + 3 → hAI (sAI h (a + 3) f) x = hAI h x := fun x e => sAI_ne _ _ e
  exact ⟨s1.fr (fun _ _ _ => by rw [rd_hFI_sAI]) rfl, s2.fr (by rw [rd_hAJ_sAI]) (fun _ _ _ => rfl), fun i hi => (s3 i hi).fr (by rw [r _ (by omega)]) rfl, fun i hi => (s4 i hi).fr (fun k _ => by rw [r _ (by omega)]) (fun _ _ _ => rfl), fun i hi => (s5 i hi).fr (fun k _ => by rw [r _ (by omega)]) (fun _ _ _ => rfl), fun i hi => (s6 i hi).fr (fun k _ _ => by rw [r _ (by omega)]) (fun _ _ _ => rfl), s7.fr (by rw [r _ (by omega)]) rfl, s8.fr (by rw [r _ (by omega)]) rfl, s9.fr (by rw [rd_hFI_sAI]) (by rw [rd_hFI_sAI]) (by rw [r _ (by omega)]) (fun _ _ _ => rfl) rfl⟩
/-- the steps of a post told -/
def stS (h : AH) (a i j : Nat) : Nat := if i < 5 ∧ j < 5 then Int32.toNatClampNeg (hAI h (a + 2) (5 * i + j)) else 0
theorem stS_of {h g : AH} {a np : Nat} (hn : np ≤ 5) (s : pSt h g a np) : (∀ i j, i < 5 → j < 5 → hAI h (a + 2) (5 * i + j) = nI (stS h a i j) ∧ hAI g 356 (25 + (5 * i + j)) = nI (stS h a i j)) ∧ (∀ i j, stS h a i j ≤ 9) ∧ ∀ i j, (np ≤ i ∨ np ≤ j) → stS h a i j = 0 := by
  have e : ∀ i j, i < 5 → j < 5 → ∃ k, k ≤ 9 ∧ stS h a i j = k ∧ hAI h (a + 2) (5 * i + j) = nI k ∧ hAI g 356 (25 + (5 * i + j)) = nI k ∧ ((np ≤ i ∨ np ≤ j) → k = 0) := fun i j hi hj => by
    obtain ⟨k, k1, k2, k3, k4⟩ := s i j hi hj
    refine ⟨k, k1, ?_, k2, k3, k4⟩
    unfold stS
    rw [if_pos ⟨hi, hj⟩, k2, nI_clamp (by omega)]
  refine ⟨fun i j hi hj => ?_, fun i j => ?_, fun i j h0 => ?_⟩
  · obtain ⟨k, k1, k2, k3, k4, k5⟩ := e i j hi hj
    rw [k2]
    exact ⟨k3, k4⟩
  · by_cases c : i < 5 ∧ j < 5
    · obtain ⟨k, k1, k2, k3⟩ := e i j c.1 c.2
      omega
    · unfold stS
      rw [if_neg c]
      omega
  · by_cases c : i < 5 ∧ j < 5
    · obtain ⟨k, k1, k2, k3, k4, k5⟩ := e i j c.1 c.2
      have := k5 h0
      omega
    · unfold stS
      rw [if_neg c]
theorem CQ.sr3 {a : Nat} (h : AH) (f : Nat → Int32) : CQ a h (sAI h (a + 3) f) :=
  ⟨rd_hK_sAI _ _ _, rd_hLN_sAI _ _ _, rd_hAR_sAI _ _ _, rd_hNX_sAI _ _ _, fun _ _ _ => by rw [rd_hFR_sAI], fun _ _ _ => by rw [rd_hFJ_sAI], fun _ _ _ _ _ _ => by rw [rd_hFI_sAI], fun x e => sAI_ne _ _ (by omega), fun _ _ => by rw [rd_hAJ_sAI]⟩
theorem rp_pair {d d2 a n : Nat} {h G : AH} {T : Nat → Nat} (ha : a = 4 ∨ a = 30) (k3 : hK h 3 = 7) (f6 : hFR h 600 3 = some 1) (s : PoSh h a) (hp : Tp h n T) (hw : WdSh h) (hm : MSh G) (hn : n ≤ 1000) (e1 : hFI G 1201 348 = nI n) (hT : ∀ i, i < n → T i < 128 ∧ hAI G 349 i = nI (T i)) :
    (∃ f h1 g1, f ≠ 0 ∧ am_C PG (d + 36) 76 [.ref 3, .ref a] h = some (some (.int f), h1) ∧ am_C PG (d2 + 7) 197 [.ref 348] G = some (some (.int 0), g1) ∧ hFI g1 1209 348 = f ∧ CQ a (sFR h 601 3 (some a)) h1 ∧ MZ (sFI G 1201 348 0) g1) ∨
    ∃ h1 g1 np ny nc ne nw, am_C PG (d + 36) 76 [.ref 3, .ref a] h = some (some (.int 0), h1) ∧ am_C PG (d2 + 7) 197 [.ref 348] G = some (some (.int 1), g1) ∧ CQ a (sFR h 601 3 (some a)) h1 ∧ MZ (sFI G 1201 348 0) g1 ∧ PR h1 g1 a np ny nc ne nw ∧ ∀ i j, i < np → j < np → hAI h1 (a + 3) (5 * i + j) = cN (fwN (stS h1 a) np i j) := by
  have ha3 : 3 < a := by omega
  obtain ⟨h0, c1, c2, c3, c4, c5, c6⟩ := c_readPost0 (d := d) ha3 (by omega) k3 f6 s hp hw
  obtain ⟨g0, m1, m2, m3, m4, m5, m6, m7, m8, m9⟩ := m_readsAll0 (d := d2) hm hn e1 hT
  have P0 := PR.zero c4 c6 m4 m5 m6 m7 m8 m9
  have z := c3.2.2.2.2.2.2.2
  rcases post_loop (d := d) (d2 := d2) ha n 0 (tkB n T 0) 0 0 0 0 0 h0 g0 (by omega) (Nat.zero_le _) c3 m3 P0 with ⟨f, h', g', f0, q1, q2, q3, q4⟩ | ⟨h', g', b', np, ny, nc, ne, nw, q1, q2, q3, q4, q5, q6, q7⟩
  · left
    exact ⟨f, sFI h' 603 3 f, sFI g' 1209 348 f, f0, c1.trans q1, m1.trans q2, sFI_at _ _ _ _, (c2.tr q3).tr (CQ.fi h' f (Or.inr (Or.inr ⟨rfl, by decide, by decide⟩))), (m2.tr q4).tr (MZ.fi g' f (Or.inl ⟨by decide, by decide⟩))⟩
  · right
    have np5 : np ≤ 5 := q7.1.2.2.2.2.2.2.2.2.2.2.1
    obtain ⟨t1, t2, t3⟩ := stS_of np5 q7.2.2.2.2.2.2.1
    have w : WyS h' a np (stS h' a) := by
      obtain ⟨⟨⟨p0, pf1, pf2, pf3, pf4, pf5, pf6, pf7, pf8, pf9, pf10, pf11, pf12, pf13, pf14, pf17, pk1, pk2, pk3, pk4, pk5, pk6, pk7, pk8, pk9, pk10, pk11, pk12, pk13, pn1, pn2, pn3, pn4, pn5, pn6, pn7, pn8, pn9, pn10, pn11, pn12, pn13⟩, -, -⟩⟩ : PoSh h' a ∧ True := ⟨q5.2.2.2.1, trivial⟩
      exact ⟨p0, pf2, pf3, pk2, pk3, pn2, pn3, q7.1.1, np5, fun i j hi hj => (t1 i j (by omega) (by omega)).1, t2, t3⟩
    obtain ⟨f, n1, n2⟩ := c_near (d := d + 32) w
    have n1' : am_C PG (d + 35) 54 [.ref a] h' = some (none, sAI h' (a + 3) f) := n1
    have k3' : hK (sAI h' (a + 3) f) 3 = 7 := by rw [rd_hK_sAI]; exact q5.1
    have e603 : hFI (sAI h' (a + 3) f) 603 3 = 0 := by rw [rd_hFI_sAI, q3.2]; exact c5
    have eS : stS (sAI h' (a + 3) f) a = stS h' a := by
      funext i j
      unfold stS
      rw [sAI_ne _ _ (by omega)]
    refine ⟨sAI h' (a + 3) f, g', np, ny, nc, ne, nw, ?_, m1.trans q2, (c2.tr q3.1).tr (CQ.sr3 h' f), m2.tr q4, q7.near ha3 f, fun i j hi hj => ?_⟩
    · rw [c1, q1, n1', bV_s, am_kd_t k3', e603]
    · rw [sAI_at, eS]
      exact n2 i j hi hj
