/-! post: a post accepted. -/
theorem lyL_rng : ∀ x ∈ lyL, 350 ≤ x ∧ x ≤ 372 := by decide
def An (x g : AH) (p : Nat) : Prop := (hK g = hK x ∧ hFR g = hFR x ∧ hLN g = hLN x ∧ hAR g = hAR x ∧ hNX g = hNX x ∧ hAJ g = hAJ x ∧ hFJ g = hFJ x) ∧ (∀ a, (a < 63 ∨ 70 < a) → a ≠ 82 → hAI g a = hAI x a) ∧ (∀ k a, (a ≠ 62 ∨ k ≠ 700) → (a ≠ 71 ∨ k ≠ 200) → (a ≠ 76 ∨ (k ≠ 300 ∧ k ≠ 303)) → (a ≠ 0 ∨ k ≠ 1110) → hFI g k a = hFI x k a) ∧ getS g 62 = cpS (getS x (p + 17)) (getS x 62) ∧ hFI g 200 71 = 0 ∧ hFI g 300 76 = 0 ∧ hFI g 303 76 = 0 ∧ hFI g 1110 0 = 0 ∧ ∀ i, i < 4 → hAI g 82 i = 0
def Pm (np nc ne : Nat) (g2 g4 g : AH) : Prop := (hK g = hK g2 ∧ hFR g = hFR g2 ∧ hLN g = hLN g2 ∧ hAR g = hAR g2 ∧ hNX g = hNX g2 ∧ hFJ g = hFJ g2) ∧ hAJ g = hAJ g4 ∧ (∀ a, a ≠ 397 → a ≠ 386 → a ≠ 391 → a ≠ 394 → a ≠ 401 → hAI g a = hAI g4 a) ∧ hAI g 397 = enc (FQ (hAI g4) np nc ne (hAI g4 397)) ∧ (∀ k a, (a ≠ 348 ∨ k ≠ 1264) → hFI g k a = hFI g2 k a) ∧ hAI g 386 0 = 0 ∧ hAI g 391 0 = 0 ∧ hAI g 394 0 = 0 ∧ hFI g 1264 348 = 0 ∧ ∀ i, i < 4 → hAI g 401 i = 0
def sw (h1 : AH) (p dp : Nat) : AH := sFR (sFR (sFI h1 901 1 0) 1103 0 (some p)) 1102 0 (some dp)
theorem Ra.post {p dp np nc ne : Nat} {h h1 k g2 g4 g : AH} {S : Nat → Nat → Nat} (hd : dp = 4 ∨ dp = 30) (c : CQ dp (sFR h 601 3 (some dp)) h1) (a : An (sw h1 p dp) k dp) (m : MZ (sFI (sFI k 1200 348 0) 1201 348 0) g2) (l : LY g2 g4 S) (q : Pm np nc ne g2 g4 g) :
    (hK g = hK h ∧ hLN g = hLN h ∧ hAR g = hAR h) ∧ (∀ k x, (x = 0 → k ≠ 1102 ∧ k ≠ 1103) → (x = 3 → k = 600) → (x = 1 → k = 900) → hFR g k x = hFR h k x) ∧ (∀ k x, 1000000 ≤ x → hFJ g k x = hFJ h k x) ∧
    (∀ x, (x < dp + 2 ∨ x = dp + 17 ∨ x = dp + 19 ∨ x = dp + 20 ∨ x = dp + 23 ∨ dp + 24 < x) → (x < 63 ∨ 70 < x) → x ≠ 82 → (x < 350 ∨ 374 < x) → x ≠ 385 → x ≠ 386 → x ≠ 391 → x ≠ 394 → x ≠ 397 → x ≠ 401 → hAI g x = hAI h x) ∧ (∀ x, x < 63 → hAI g x = hAI h1 x) ∧
    (∀ k x, x ≠ 1 → x ≠ 3 → x ≠ 348 → (x ≠ dp ∨ k < 501 ∨ 505 < k) → (x ≠ dp + 14 ∨ k ≠ 401) → (x ≠ 62 ∨ k ≠ 700) → (x ≠ 71 ∨ k ≠ 200) → (x ≠ 76 ∨ (k ≠ 300 ∧ k ≠ 303)) → (x ≠ 0 ∨ k ≠ 1110) → hFI g k x = hFI h k x) ∧ (∀ k x, 3 < x → x < 62 → hFI g k x = hFI h1 k x) ∧
    (hFI g 901 1 = 0 ∧ hFI g 1201 348 = 0 ∧ hFI g 200 71 = 0 ∧ hFI g 300 76 = 0 ∧ hFI g 303 76 = 0 ∧ hFI g 1110 0 = 0 ∧ hFI g 1264 348 = 0) ∧ (∀ x, x < 351 → hAJ g x = hAJ h1 x) ∧ (∀ x, 350 ≤ x → x ≤ 372 ∨ x = 385 → hAI g x = hAI g4 x) ∧ hAJ g = hAJ g4 ∧ (hFR g 1102 0 = some dp ∧ hFR g 1103 0 = some p) ∧
    (hAI g 386 0 = 0 ∧ hAI g 391 0 = 0 ∧ hAI g 394 0 = 0) ∧ (∀ i, i < 4 → hAI g 82 i = 0 ∧ hAI g 401 i = 0) ∧ getS g 62 = cpS (getS g (dp + 17)) (getS h1 62) ∧ hAI g 397 = enc (FQ (hAI g4) np nc ne (hAI g4 397)) := by
  obtain ⟨c1, c2, c3, c4, c5, c6, c7, c8, c9⟩ := c
  obtain ⟨⟨a1, a2, a3, a4, a5, a6, a7⟩, a8, a9, a10, a11, a12, a13, a14, a15⟩ := a
  obtain ⟨m1, m2, m3, m4, m5, m6, m7, m8, m9⟩ := m
  obtain ⟨l1, l2, l3, l4, l5, l6, l7, l8, l9, l10⟩ := l
  obtain ⟨⟨q1, q2, q3, q4, q5, q6⟩, q7, q8, q9, q10, q11, q12, q13, q14, q15⟩ := q
  -- the swap
  obtain ⟨w1, w2, w3, w4, w5, w6, w7, w8, w9, w10, w11⟩ : hK (sw h1 p dp) = hK h1 ∧ hLN (sw h1 p dp) = hLN h1 ∧ hAR (sw h1 p dp) = hAR h1 ∧ hFJ (sw h1 p dp) = hFJ h1 ∧ hAI (sw h1 p dp) = hAI h1 ∧ hAJ (sw h1 p dp) = hAJ h1 ∧ (∀ k x, (x ≠ 1 ∨ k ≠ 901) → hFI (sw h1 p dp) k x = hFI h1 k x) ∧ hFI (sw h1 p dp) 901 1 = 0 ∧ (∀ k x, (x ≠ 0 ∨ (k ≠ 1102 ∧ k ≠ 1103)) → hFR (sw h1 p dp) k x = hFR h1 k x) ∧ hFR (sw h1 p dp) 1102 0 = some dp ∧ hFR (sw h1 p dp) 1103 0 = some p := by
    unfold sw
    refine ⟨?_, ?_, ?_, ?_, ?_, ?_, fun k x e => ?_, ?_, fun k x e => ?_, ?_, ?_⟩
    · rw [rd_hK_sFR, rd_hK_sFR, rd_hK_sFI]
    · rw [rd_hLN_sFR, rd_hLN_sFR, rd_hLN_sFI]
    · rw [rd_hAR_sFR, rd_hAR_sFR, rd_hAR_sFI]
    · rw [rd_hFJ_sFR, rd_hFJ_sFR, rd_hFJ_sFI]
    · rw [rd_hAI_sFR, rd_hAI_sFR, rd_hAI_sFI]
    · rw [rd_hAJ_sFR, rd_hAJ_sFR, rd_hAJ_sFI]
    · rw [rd_hFI_sFR, rd_hFI_sFR, sFI_o _ _ (by omega)]
    · rw [rd_hFI_sFR, rd_hFI_sFR, sFI_at]
    · rw [sFR_o _ _ (by omega), sFR_o _ _ (by omega), rd_hFR_sFI]
    · rw [sFR_at]
    · rw [sFR_o _ _ (by decide), sFR_at]
  have e4 : ∀ x, (x < 350 ∨ 374 < x) → x ≠ 385 → hAI g4 x = hAI k x := fun x h1 h2 => by
    have nl : x ∉ lyL := fun z => by have := lyL_rng x z; omega
    rw [l8 x h2, if_neg (by omega), if_neg (fun z => nl z.1)]
    funext i
    rw [m8 x i (by omega), rd_hAI_sFI, rd_hAI_sFI]
  have eg : ∀ x, (x < 63 ∨ 70 < x) → x ≠ 82 → (x < 350 ∨ 374 < x) → x ≠ 385 → x ≠ 386 → x ≠ 391 → x ≠ 394 → x ≠ 397 → x ≠ 401 → hAI g x = hAI h1 x := fun x z1 z2 z3 z4 z5 z6 z7 z8 z9 => by
    rw [q8 x z8 z5 z6 z7 z9, e4 x z3 z4, a8 x z1 z2, w5]
  have eh : ∀ x, (x < dp + 2 ∨ x = dp + 14 ∨ x = dp + 16 ∨ x = dp + 17 ∨ x = dp + 19 ∨ x = dp + 20 ∨ x = dp + 23 ∨ dp + 24 < x) → hAI h1 x = hAI h x := fun x e => by rw [c8 x e, rd_hAI_sFR]
  have fk : ∀ k' x, x ≠ 348 → hFI g k' x = hFI k k' x := fun k' x e => by
    rw [q10 k' x (Or.inl e), m7 k' x (Or.inl e), sFI_o _ _ (by omega), sFI_o _ _ (by omega)]
  have f1 : ∀ k' x, (x ≠ 1 ∨ k' ≠ 901) → x ≠ 348 → (x ≠ 62 ∨ k' ≠ 700) → (x ≠ 71 ∨ k' ≠ 200) → (x ≠ 76 ∨ (k' ≠ 300 ∧ k' ≠ 303)) → (x ≠ 0 ∨ k' ≠ 1110) → hFI g k' x = hFI h1 k' x := fun k' x z1 z2 z3 z4 z5 z6 => by
    rw [fk k' x z2, a9 k' x z3 z4 z5 z6, w7 k' x z1]
  have rg : hFR g = hFR (sw h1 p dp) := by rw [q2, m2, rd_hFR_sFI, rd_hFR_sFI, a2]
  refine ⟨⟨?_, ?_, ?_⟩, fun k' x z1 z2 z3 => ?_, fun k' x z1 => ?_, fun x z1 z2 z3 z4 z5 z6 z7 z8 z9 z10 => ?_, fun x z1 => ?_, fun k' x z1 z2 z3 z4 z5 z6 z7 z8 z9 => ?_, fun k' x z1 z2 => ?_, ⟨?_, ?_, ?_, ?_, ?_, ?_, ?_⟩, fun x z1 => ?_, fun x z1 z2 => ?_, q7, ⟨?_, ?_⟩, ⟨q11, q12, q13⟩, fun i hi => ⟨?_, q15 i hi⟩, ?_, q9⟩
  · rw [q1, m1, rd_hK_sFI, rd_hK_sFI, a1, w1, c1, rd_hK_sFR]
  · rw [q3, m3, rd_hLN_sFI, rd_hLN_sFI, a3, w2, c2, rd_hLN_sFR]
  · rw [q4, m4, rd_hAR_sFI, rd_hAR_sFI, a4, w3, c3, rd_hAR_sFR]
  · rw [rg, w9 k' x (by omega), c5 k' x (by omega), sFR_o _ _ (by omega)]
  · rw [q6, m6 k' x (by omega), rd_hFJ_sFI, rd_hFJ_sFI, a7, w4, c6 k' x (by omega), rd_hFJ_sFR]
  · rw [eg x z2 z3 z4 z5 z6 z7 z8 z9 z10, eh x (by omega)]
  · exact eg x (by omega) (by omega) (by omega) (by omega) (by omega) (by omega) (by omega) (by omega) (by omega)
  · rw [f1 k' x (by omega) z3 z6 z7 z8 z9, c7 k' x (by omega) (by omega) z4 z5, rd_hFI_sFR]
  · exact f1 k' x (by omega) (by omega) (by omega) (by omega) (by omega) (by omega)
  · rw [fk _ _ (by decide), a9 _ _ (by decide) (by decide) (by decide) (by decide), w8]
  · rw [q10 _ _ (by decide), m7 _ _ (by omega), sFI_at]
  · rw [fk _ _ (by decide), a11]
  · rw [fk _ _ (by decide), a12]
  · rw [fk _ _ (by decide), a13]
  · rw [fk _ _ (by decide), a14]
  · exact q14
  · rw [q7, l9 x, if_neg (by omega)]
    funext i
    rw [m9 x i (by omega), rd_hAJ_sFI, rd_hAJ_sFI, a6, w6]
  · exact q8 x (by omega) (by omega) (by omega) (by omega) (by omega)
  · rw [rg, w10]
  · rw [rg, w11]
  · rw [q8 82 (by decide) (by decide) (by decide) (by decide) (by decide), e4 82 (by decide) (by decide)]
    exact a15 i hi
  · have b1 : getS g 62 = getS k 62 := getS_fr (fk _ _ (by decide)) (fun k h1 h2 => by rw [q8 _ (by omega) (by omega) (by omega) (by omega) (by omega), e4 _ (by omega) (by omega)])
    have b2 : getS g (dp + 17) = getS h1 (dp + 17) := getS_fr (f1 700 (dp + 17) (by omega) (by omega) (by omega) (by omega) (by omega) (by omega)) (fun k h1 h2 => eg _ (by omega) (by omega) (by omega) (by omega) (by omega) (by omega) (by omega) (by omega) (by omega))
    have b3 : ∀ x, getS (sw h1 p dp) x = getS h1 x := fun x => getS_fr (w7 _ _ (by omega)) (fun k h1 h2 => by rw [w5])
    rw [b1, a10, b2, b3, b3]
theorem st_post {B L d d2 : Nat} {xs : Nat → Int32} {h : AH} (I : Inv B L xs h) : Stq B L xs h (fun h => am_C PG (d + 37) 127 [.ref 0] h) (fun h => am_C PG (d2 + 8) 207 [.ref 348] h) := by
  obtain ⟨s1, s2, s3, s4, s5, s6, p, dp, np, nc, ne, nw, len, n, W, t1, t2, t3, t4, t5, t6, t7, t8, t9⟩ := I
  obtain ⟨k0, f0, f1, -, f5, -, f7, -, -, ⟨i1, i2, i3, i4⟩, ⟨k3, f6⟩, po4, po30, -, sto, -, ⟨k82, n82⟩, -, -, -, -, -, ms, -, -⟩ := id s1
  obtain ⟨tn, tn1, ta, tb, tc⟩ := s6
  have hd : dp = 4 ∨ dp = 30 := by rcases t1 with ⟨-, z⟩ | ⟨-, z⟩ <;> omega
  have hp : p = 4 ∨ p = 30 := by rcases t1 with ⟨z, -⟩ | ⟨z, -⟩ <;> omega
  have pd : PoSh h dp := by rcases hd with z | z <;> rw [z] <;> assumption
  -- the signs
  obtain ⟨T, hT⟩ : ∃ T : Nat → Nat, ∀ i, i < tn → T i < 128 ∧ hAI h 2 i = nI (T i) ∧ hAI h 349 i = nI (T i) := by
    refine ⟨fun i => Int32.toNatClampNeg (hAI h 2 i), fun i hi => ?_⟩
    obtain ⟨c, c1, c2, c3⟩ := tc i hi
    dsimp only
    rw [c2, c3, nI_clamp (by omega)]
    exact ⟨c1, rfl, rfl⟩
  have tp : Tp h tn T := ⟨i1, i2, i3, i4, tn1, ta, fun i hi => ⟨(hT i hi).1, (hT i hi).2.1⟩⟩
  have go : ∀ G, MSh G → hFI G 1201 348 = nI tn → hAI G 349 = hAI h 349 → _ := fun G g1 g2 g3 => rp_pair (d := d) (d2 := d2) (G := G) hd k3 f6 pd tp s2 g1 tn1 g2 (fun i hi => ⟨(hT i hi).1, by rw [g3]; exact (hT i hi).2.2⟩)
  rcases go h ms tb rfl with ⟨f, h1, -, n0, kr, -, -, c, -⟩ | ⟨h1, -, -, -, -, -, -, kr, -, c, -, -, -⟩
  · -- refused
    have q0 : hK h1 0 = 12 := by rw [c.1, rd_hK_sFR]; exact k0
    have q1 : hFR h1 1100 0 = some 1 := by rw [c.2.2.2.2.1 _ _ (by decide), sFR_o _ _ (by decide)]; exact f0
    have q2 : hK h1 1 = 10 := by rw [c.1, rd_hK_sFR]; exact i1
    have kc := c_post0 (d := d) k0 f1 t3 k3 kr q0 q1 q2 n0
    have e1 : hFI h1 1201 348 = nI tn := by rw [c.2.2.2.2.2.2.1 _ _ (by omega) (by omega) (by omega) (by omega), rd_hFI_sFR]; exact tb
    have e2 : hAI h1 349 = hAI h 349 := by rw [c.2.2.2.2.2.2.2.1 _ (by omega), rd_hAI_sFR]
    have e3 : ∀ k, hFR h1 k 348 = hFR h k 348 := fun k => by rw [c.2.2.2.2.1 _ _ (by omega), sFR_o _ _ (by omega)]
    have ms1 : MSh (sFI (sFI h1 901 1 0) 1200 348 0) := MSh.to (h := h) (by rw [rd_hK_sFI, rd_hK_sFI, c.1, rd_hK_sFR]) (fun k => by rw [rd_hFR_sFI, rd_hFR_sFI, e3]) (by rw [rd_hLN_sFI, rd_hLN_sFI, c.2.1, rd_hLN_sFR]) ms
    rcases go (sFI (sFI h1 901 1 0) 1200 348 0) ms1 (by rw [sFI_o _ _ (by decide), sFI_o _ _ (by decide)]; exact e1) (by rw [rd_hAI_sFI, rd_hAI_sFI]; exact e2) with ⟨f', h1', g, n0', kr', km, ke, c', m⟩ | ⟨h1', g1, -, -, -, -, -, kr', -⟩
    · rw [kr] at kr'
      injection kr' with kr'
      injection kr' with kf kh
      injection kf with kf
      injection kf with kf
      subst kh
      subst kf
      obtain ⟨R, r1, r2, r3, r4, r5, r6⟩ := Rd.post hd c m
      have kg : hK g 348 = 13 := by rw [r5, c.1, rd_hK_sFR]; exact ms.1
      have kM := m_post0 (d := d2) (G := sFI h1 901 1 0) (by rw [rd_hK_sFI, c.1, rd_hK_sFR]; exact ms.1) km kg
      rw [ke] at kM
      have big : ∀ x, 60 < x → (x < 350 ∨ 374 < x) → hAI g x = hAI h x := fun x z1 z2 => r3 x (by omega) z2
      refine ⟨f, sFI h1 901 1 0, g, kc, kM, ⟨by rw [rd_hK_sFI, c.1, rd_hK_sFR], by rw [rd_hLN_sFI, c.2.1, rd_hLN_sFR], by rw [rd_hAI_sFI, c.2.2.2.2.2.2.2.1 _ (by omega), rd_hAI_sFR]⟩, ⟨by rw [r5, rd_hK_sFI], by rw [m.2.2.1, rd_hLN_sFI, rd_hLN_sFI], ?_⟩, by rw [m.2.2.2.2.1, rd_hNX_sFI, rd_hNX_sFI, rd_hNX_sFI, c.2.2.2.1, rd_hNX_sFR], ?_⟩
      · rw [big _ (by decide) (by decide), rd_hAI_sFI, c.2.2.2.2.2.2.2.1 _ (by omega), rd_hAI_sFR]
      · refine (Inv.rd s1 s2 s3 s4 s5 t1 t2 t3 t4 t5 t7 t8 t9 R ⟨0, by decide, r1, r2, fun i hi => absurd hi (Nat.not_lt_zero _)⟩ ?_).mono (by omega)
        exact t6.fr r4 (fun j h1 h2 => big _ (by omega) (by omega)) (by rw [big _ (by decide) (by decide)]) (fun r h1 h2 i hi => by rw [big _ (by omega) (by omega)])
    · rw [kr] at kr'
      injection kr' with kr'
      injection kr' with kf kh
      injection kf with kf
      injection kf with kf
      exact absurd kf n0
  · -- accepted
    have c0 := c
    obtain ⟨c1, c2, c3, c4, c5, c6, c7, c8, c9⟩ := c0
    have q0 : hK h1 0 = 12 := by rw [c1, rd_hK_sFR]; exact k0
    have q1 : hFR h1 1100 0 = some 1 := by rw [c5 _ _ (by decide), sFR_o _ _ (by decide)]; exact f0
    have q2 : hK h1 1 = 10 := by rw [c1, rd_hK_sFR]; exact i1
    have q3 : hFR h1 1103 0 = some dp := by rw [c5 _ _ (by decide), sFR_o _ _ (by decide)]; exact t3
    have q4 : hFR h1 1102 0 = some p := by rw [c5 _ _ (by decide), sFR_o _ _ (by decide)]; exact t2
    have zK : hK (sw h1 p dp) = hK h := by unfold sw; rw [rd_hK_sFR, rd_hK_sFR, rd_hK_sFI, c1, rd_hK_sFR]
    have zL : hLN (sw h1 p dp) = hLN h := by unfold sw; rw [rd_hLN_sFR, rd_hLN_sFR, rd_hLN_sFI, c2, rd_hLN_sFR]
    have zA : hAR (sw h1 p dp) = hAR h := by unfold sw; rw [rd_hAR_sFR, rd_hAR_sFR, rd_hAR_sFI, c3, rd_hAR_sFR]
    have zR : ∀ k x, (x = 0 → k ≠ 1102 ∧ k ≠ 1103) → (x = 3 → k = 600) → (x = 1 → k = 900) → hFR (sw h1 p dp) k x = hFR h k x := fun k x e1 e2 e3 => by
      unfold sw
      rw [sFR_o _ _ (by omega), sFR_o _ _ (by omega), rd_hFR_sFI, c5 k x (by omega), sFR_o _ _ (by omega)]
    have zI : hAI (sw h1 p dp) = hAI h1 := by unfold sw; rw [rd_hAI_sFR, rd_hAI_sFR, rd_hAI_sFI]
    have zF : ∀ k x, (x ≠ 1 ∨ k ≠ 901) → hFI (sw h1 p dp) k x = hFI h1 k x := fun k x e => by unfold sw; rw [rd_hFI_sFR, rd_hFI_sFR, sFI_o _ _ (by omega)]
    have z2 : hFR (sw h1 p dp) 1102 0 = some dp := by unfold sw; rw [sFR_at]
    have gz : GSh (sw h1 p dp) L := s1.to zK zR zL zA
    obtain ⟨k0z, -, -, -, f5z, -, f7z, -, -, -, -, po4z, po30z, -, stoz, -, ⟨k82z, n82z⟩, -⟩ := gz
    have pz : PoSh (sw h1 p dp) dp := by rcases hd with z | z <;> rw [z] at * <;> assumption
    obtain ⟨k, kn, an⟩ := c_anew (d := d + 34) (p := dp) k0z f5z z2 f7z stoz pz.1.1 (by obtain ⟨⟨⟨p0, pf1, pf2, pf3, pf4, pf5, pf6, pf7, pf8, pf9, pf10, pf11, pf12, pf13, pf14, pf17, pk1, pk2, pk3, pk4, pk5, pk6, pk7, pk8, pk9, pk10, pk11, pk12, pk13, pn1, pn2, pn3, pn4, pn5, pn6, pn7, pn8, pn9, pn10, pn11, pn12, pn13⟩, -, -⟩, -⟩ : PoSh (sw h1 p dp) dp ∧ True := ⟨pz, trivial⟩; exact pf17) pz.2.2 k82z n82z (by omega)
    have an : An (sw h1 p dp) k dp := an
    have kc := c_post1 (d := d) k0 f1 t3 k3 kr q0 q1 q2 q3 q4 rfl rfl kn
    have kK : hK k = hK h := an.1.1.trans zK
    have kL : hLN k = hLN h := an.1.2.2.1.trans zL
    have kR : ∀ x, hFR k x 348 = hFR h x 348 := fun x => by rw [an.1.2.1]; exact zR x 348 (by omega) (by omega) (by omega)
    have msk : MSh (sFI k 1200 348 0) := MSh.to (h := h) (by rw [rd_hK_sFI, kK]) (fun x => by rw [rd_hFR_sFI, kR]) (by rw [rd_hLN_sFI, kL]) ms
    have kI : ∀ x, 82 < x → hAI k x = hAI h x := fun x e => by rw [an.2.1 x (by omega) (by omega), zI, c8 x (by omega), rd_hAI_sFR]
    rcases go (sFI k 1200 348 0) msk (by
      rw [sFI_o _ _ (by decide), an.2.2.1 _ _ (by omega) (by omega) (by omega) (by omega), zF _ _ (by omega), c7 _ _ (by omega) (by omega) (by omega) (by omega), rd_hFI_sFR]; exact tb) (by rw [rd_hAI_sFI, kI _ (by decide)]) with ⟨f', h1', g1, n0', kr', -⟩ | ⟨h1', g2, np', ny', nc', ne', nw', kr', km, -, m, P, near⟩
    · rw [kr] at kr'
      injection kr' with kr'
      injection kr' with kf kh
      injection kf with kf
      injection kf with kf
      exact absurd kf.symm n0'
    · rw [kr] at kr'
      injection kr' with kr'
      injection kr' with kf kh
      subst kh
      obtain ⟨⟨-, -, -, -, -, v1, v2, v3, v4, v5, l1, l2, l3, l4⟩, -, -, -, -, -, pst, -⟩ := id P
      obtain ⟨u1, u2, u3⟩ := stS_of l1 pst
      have ms2 : MSh g2 := MSh.to (h := h) (by rw [m.1, rd_hK_sFI, rd_hK_sFI, kK]) (fun x => by rw [m.2.1, rd_hFR_sFI, rd_hFR_sFI, kR]) (by rw [m.2.2.1, rd_hLN_sFI, rd_hLN_sFI, kL]) ms
      obtain ⟨g, g4, kM, ly, pm⟩ := m_post1 (d := d2) (G := k) (by rw [kK]; exact ms.1) km ms2 (fun i j hi hj => (u1 i j hi hj).2) u2 (fun i j e => u3 i j (by omega)) v1 v3 v4 v5 l1 l2 l3 l4
      have pm : Pm np' nc' ne' g2 g4 g := pm
      obtain ⟨⟨r1, r2, r3⟩, r4, r5, r6, r7, r8, r9, ⟨y1, y2, y3, y4, y5, y6, y7⟩, r10, r11, r12, ⟨r13, r14⟩, ⟨r15, r16, r17⟩, r18, r19, r20⟩ := Ra.post hd c an m ly pm
      have gg : GSh g L := s1.to r1 r4 r2 r3
      obtain ⟨-, -, -, -, -, -, -, -, -, -, -, po4g, po30g, -, -, -, -, -, -, -, -, -, msg, -, -⟩ := id gg
      have pg : PoSh g dp := by rcases hd with z | z <;> rw [z] at * <;> assumption
      have big : ∀ x, 82 < x → (x < 350 ∨ 374 < x) → x ≠ 385 → x ≠ 386 → x ≠ 391 → x ≠ 394 → x ≠ 397 → x ≠ 401 → hAI g x = hAI h x := fun x z1 z2 z3 z4 z5 z6 z7 z8 => r6 x (by omega) (by omega) (by omega) z2 z3 z4 z5 z6 z7 z8
      have zS : ∀ q, (q = 21 ∨ q = 47) → ZeroS (getS h q) → ZeroS (getS g q) := fun q hq zq => by
        refine ZeroS.fr (r8 _ _ (by omega) (by omega) (by omega) (by omega) (by omega) (by omega) (by omega) (by omega) (by omega)) (fun x hx => ?_) zq
        exact r6 _ (by omega) (by omega) (by omega) (by omega) (by omega) (by omega) (by omega) (by omega) (by omega) (by omega)
      have z21 := zS 21 (Or.inl rfl) s4
      have z47 := zS 47 (Or.inr rfl) s5
      have zd : ZeroS (getS g (dp + 17)) := by rcases hd with z | z <;> rw [z] <;> assumption
      obtain ⟨len', n', W', ip⟩ := inv_post hd P near ly pg msg (fun x z1 z2 z3 => r7 _ (by omega)) (fun x z1 z2 => r9 _ _ (by omega) (by omega)) (r9 _ _ (by omega) (by omega)) (r10 _ (by omega)) r11 (fun x _ _ => by rw [r12]) zd
      refine ⟨0, k, g, kc, kM, ⟨kK, kL, kI _ (by decide)⟩, ⟨r1.trans kK.symm, r2.trans kL.symm, (big _ (by decide) (by decide) (by decide) (by decide) (by decide) (by decide) (by decide) (by decide)).trans (kI _ (by decide)).symm⟩, ?_, gg, s2.to r1 r3 r2 r5 (fun x hx => r8 _ _ (by omega) (by omega) (by omega) (by omega) (by omega) (by omega) (by omega) (by omega) (by omega)), ?_, z21, z47, ⟨0, by decide, y1, y2, fun i hi => absurd hi (Nat.not_lt_zero _)⟩, dp, p, np', nc', ne', nw', len', n', W', ?_, r13, r14, ip, ⟨0, Nat.zero_le _, ?_⟩, ⟨0, by decide, y3, r15, fun i hi => absurd hi (Nat.not_lt_zero _)⟩, ⟨⟨0, by decide, y4, r16, fun i hi => absurd hi (Nat.not_lt_zero _)⟩, ⟨0, by decide, y5, r17, fun i hi => absurd hi (Nat.not_lt_zero _)⟩⟩, fun i hi => ⟨(r18 i hi).1.trans (r18 i hi).2.symm, Or.inl (r18 i hi).2, fun z => absurd ((r18 i hi).2.symm.trans z) (by decide)⟩, ?_⟩
      · have x1 : hNX g = hNX g2 := pm.1.2.2.2.2.1
        have x2 : hNX g2 = hNX k := by rw [m.2.2.2.2.1, rd_hNX_sFI, rd_hNX_sFI]
        have x3 : hNX k = hNX (sw h1 p dp) := an.1.2.2.2.2.1
        have x4 : hNX (sw h1 p dp) = hNX h := by unfold sw; rw [rd_hNX_sFR, rd_hNX_sFR, rd_hNX_sFI, c4, rd_hNX_sFR]
        exact x1.trans (x2.trans (x3.trans x4))
      · rw [big _ (by decide) (by decide) (by decide) (by decide) (by decide) (by decide) (by decide) (by decide)]
        exact s3
      · rcases t1 with ⟨a, b⟩ | ⟨a, b⟩
        · exact Or.inr ⟨b, a⟩
        · exact Or.inl ⟨b, a⟩
      · rw [r19, r20]
        have e : FQ (hAI g4) np' nc' ne' (hAI g4 397) = FQ (hAI g) np' nc' ne' (hAI g4 397) := FQ_M (r11 355 (by decide) (Or.inl (by decide))).symm (r11 360 (by decide) (Or.inl (by decide))).symm (r11 362 (by decide) (Or.inl (by decide))).symm (r11 364 (by decide) (Or.inl (by decide))).symm
        rw [e]
        exact SR_enc ⟨l1, l2, l3, l4⟩ (SR_cpS ⟨l1, l2, l3, l4⟩ (ip.2.2.2.1 _))
      · obtain ⟨fr, mn, w1, w2, w3, w4, w5, w6⟩ := t9
        refine ⟨fr, 0, w1, by decide, ?_, y6, y7, fun j hj => absurd hj (Nat.not_lt_zero _)⟩
        rw [r8 _ _ (by omega) (by omega) (by omega) (by omega) (by omega) (by omega) (by omega) (by omega) (by omega)]
        exact w3
