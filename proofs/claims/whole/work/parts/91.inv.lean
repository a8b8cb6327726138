/-! What holds between calls of law: the data. -/
/-- row f is read only as far as 43 -/
theorem SR_dec {M : Nat → Nat → Int32} {np nc ne nw hr : Nat} {R : SV} {f f' : Nat → Int32} (hn : np ≤ 5 ∧ nc ≤ 6 ∧ ne ≤ 4 ∧ nw ≤ 6) (e : ∀ j, j < 43 → f' j = f j) (h : SR M np nc ne nw hr R (dec f)) : SR M np nc ne nw hr R (dec f') := by
  obtain ⟨n1, n2, n3, n4⟩ := hn
  obtain ⟨s1, s2, s3, s4, s5, s6, s7, s8, s9, s10, s11, s12, s13, s14, s15⟩ := h
  have ec : ∀ c, c < 6 → getc (dec f').1 c = getc (dec f).1 c := fun c hc => by
    show (f' (6 + c), f' (12 + c), f' (18 + c)) = (f (6 + c), f (12 + c), f (18 + c))
    rw [e _ (by omega), e _ (by omega), e _ (by omega)]
  have ea : ∀ i, i < 4 → f' (24 + i) = f (24 + i) ∧ f' (28 + i) = f (28 + i) ∧ f' (32 + i) = f (32 + i) := fun i hi => ⟨e _ (by omega), e _ (by omega), e _ (by omega)⟩
  have ew : ∀ i, i < 5 → f' (1 + i) = f (1 + i) := fun i hi => e _ (by omega)
  have ed : ∀ i, i < 6 → dn (dec f').1 i = dn (dec f).1 i := fun i hi => e (36 + i) (by omega)
  refine ⟨s1, (e 0 (by decide)).trans s2, fun c hc => (s3 c hc).trans (ec c (by omega)).symm, fun i hi => ?_, fun p hp => (s5 p hp).trans (ew p (by omega)).symm, fun w hw => (s6 w hw).trans (ed w (by omega)).symm, ?_, fun c hc => by rw [ec c (by omega)]; exact s8 c hc, fun i hi => ?_, fun p hp => ?_, fun w hw => by rw [ed w (by omega)]; exact s11 w hw, fun c h1 h2 => (ec c h2).trans (s12 c h1 h2), fun i h1 h2 => ?_, fun p h1 h2 => (ew p h2).trans (s14 p h1 h2), fun w h1 h2 => (ed w h2).trans (s15 w h1 h2)⟩
  · obtain ⟨a1, a2, a3⟩ := ea i (by omega)
    obtain ⟨b1, b2, b3⟩ := s4 i hi
    exact ⟨b1.trans a1.symm, b2.trans a2.symm, b3.trans a3.symm⟩
  · show f' 42 = _
    rw [e 42 (by decide)]
    refine Eq.trans s7 (sumN_congr nw (fun w hw => ?_))
    unfold pdw
    rw [ed w (by omega)]
  · obtain ⟨a1, a2, a3⟩ := ea i (by omega)
    have := s9 i hi
    show (∃ q, q < np ∧ f' (24 + i) = nI q) ∧ 0 ≤ (f' (28 + i)).toInt ∧ (f' (28 + i)).toInt ≤ 999
    rw [a1, a2]
    exact this
  · have := s10 p hp
    show 0 ≤ (f' (1 + p)).toInt ∧ (f' (1 + p)).toInt ≤ 9999
    rw [ew p (by omega)]
    exact this
  · obtain ⟨a1, a2, a3⟩ := ea i h2
    obtain ⟨b1, b2, b3⟩ := s13 i h1 h2
    exact ⟨a1.trans b1, a2.trans b2, a3.trans b3⟩
def ZeroS (R : SV) : Prop := R.1 = 0 ∧ (∀ i, i < 6 → R.2.2.1 i = 0 ∧ R.2.2.2.1 i = 0 ∧ R.2.2.2.2.2.2.2.2 i = 0) ∧ ∀ i, i < 4 → R.2.2.2.2.2.2.1 i = 0
/-- the tapes -/
def TaI (h : AH) : Prop := ∃ n, n ≤ 1000 ∧ hFI h 901 1 = nI n ∧ hFI h 1201 348 = nI n ∧ ∀ i, i < n → ∃ c, c < 128 ∧ hAI h 2 i = nI c ∧ hAI h 349 i = nI c
/-- the post told -/
def InvP (h : AH) (p np nc ne nw len n : Nat) (W : Int32 → Int32 → Int32 → Int32 → Int32) : Prop :=
  Lk h h p np nc ne nw len n W ∧ (∀ a b, a < np → b < np → NeR1 (hAI h (p + 3) (5 * a + b)) (hAI h 385 (5 * a + b))) ∧ ((∀ i, i < np → hAJ h (p + 1) i = hAJ h 351 i) ∧ (∀ i, i < nc → hAJ h (p + 1) (5 + i) = hAJ h 352 i) ∧ ∀ i, i < ne → hAJ h (p + 1) (11 + i) = hAJ h 353 i) ∧ (∀ f, SR (hAI h) np nc ne nw 0 (getS h (p + 17)) (FQ (hAI h) np nc ne f)) ∧ hFI h 502 p = hAI h 350 1
/-- days: the class's at a, the reference's k-th -/
def DaI (h : AH) (a k np nc ne : Nat) : Prop := ∃ m, m ≤ 40 ∧ hFI h 200 a = nI m ∧ hAI h 386 k = nI m ∧ ∀ i, i < m → LR np nc ne (hAI h (a + 1) i) (hAI h (a + 2) i) (hAI h (a + 3) i) (hAI h (a + 4) i) (hAI h 387 (40 * k + i)) (hAI h 388 (40 * k + i)) (hAI h 389 (40 * k + i)) (hAI h 390 (40 * k + i))
def HeI (h : AH) (a k : Nat) : Prop := (∃ n, n ≤ 10 ∧ hFI h 300 a = nI n ∧ hAI h 391 k = nI n ∧ ∀ i, i < n → hAI h (a + 1) i = hAI h 392 (10 * k + i) ∧ hAI h (a + 2) i = hAI h 393 (10 * k + i) ∧ ¬ hAI h 392 (10 * k + i) < 0) ∧
  ∃ m, m ≤ 12 ∧ hFI h 303 a = nI m ∧ hAI h 394 k = nI m ∧ ∀ i, i < m → hAI h (a + 3) i = hAI h 395 (12 * k + i) ∧ hAI h (a + 4) i = hAI h 396 (12 * k + i)
def MaI (B : Nat) (h : AH) (np nc ne nw : Nat) : Prop := ∀ k, k < 4 → hAI h 82 k = hAI h 401 k ∧ (hAI h 401 k = 0 ∨ hAI h 401 k = 1) ∧ (hAI h 401 k = 1 → (∃ hr, hr ≤ B ∧ SR (hAI h) np nc ne nw hr (getS h (125 + 20 * k)) (dec (fun j => hAI h 399 (43 * k + j)))) ∧ DaI h (134 + 20 * k) (k + 1) np nc ne ∧ HeI h (139 + 20 * k) (k + 1))
def UnI (B : Nat) (h : AH) (np nc ne nw : Nat) : Prop := ∃ fr mn, fr < 16 ∧ mn ≤ 16 ∧ hFI h 1109 0 = nI fr ∧ hFI h 1110 0 = nI mn ∧ hFI h 1264 348 = nI mn ∧ ∀ j, j < mn → ∃ hr, hr ≤ B ∧ SR (hAI h) np nc ne nw hr (getS h (204 + 9 * ((fr + j) % 16))) (dec (slot (hAI h 400) j))
def NowI (B : Nat) (h : AH) (np nc ne nw : Nat) : Prop := ∃ hr, hr ≤ B ∧ SR (hAI h) np nc ne nw hr (getS h 62) (dec (hAI h 397))
def PDr (p dp : Nat) : Prop := (p = 4 ∧ dp = 30) ∨ (p = 30 ∧ dp = 4)
def Inv (B L : Nat) (xs : Nat → Int32) (h : AH) : Prop := GSh h L ∧ WdSh h ∧ hAI h 1000101 = xs ∧ ZeroS (getS h 21) ∧ ZeroS (getS h 47) ∧ TaI h ∧ ∃ p dp np nc ne nw len n W, PDr p dp ∧ hFR h 1102 0 = some p ∧ hFR h 1103 0 = some dp ∧ InvP h p np nc ne nw len n W ∧ NowI B h np nc ne nw ∧ DaI h 71 0 np nc ne ∧ HeI h 76 0 ∧ MaI B h np nc ne nw ∧ UnI B h np nc ne nw
/-! each part asks only for what it speaks of -/
theorem getS_fr {h g : AH} {a : Nat} (e1 : hFI g 700 a = hFI h 700 a) (e2 : ∀ k, 1 ≤ k → k ≤ 8 → hAI g (a + k) = hAI h (a + k)) : getS g a = getS h a := by
  unfold getS
  rw [e1, e2 1 (by decide) (by decide), e2 2 (by decide) (by decide), e2 3 (by decide) (by decide), e2 4 (by decide) (by decide), e2 5 (by decide) (by decide), e2 6 (by decide) (by decide), e2 7 (by decide) (by decide), e2 8 (by decide) (by decide)]
theorem DaI.fr {h g : AH} {a k np nc ne : Nat} (e1 : hFI g 200 a = hFI h 200 a) (e2 : ∀ j, 1 ≤ j → j ≤ 4 → hAI g (a + j) = hAI h (a + j)) (e3 : hAI g 386 k = hAI h 386 k) (e4 : ∀ r, 387 ≤ r → r ≤ 390 → ∀ i, i < 40 → hAI g r (40 * k + i) = hAI h r (40 * k + i)) (s : DaI h a k np nc ne) : DaI g a k np nc ne := by
  obtain ⟨m, m1, m2, m3, m4⟩ := s
  refine ⟨m, m1, by rw [e1]; exact m2, by rw [e3]; exact m3, fun i hi => ?_⟩
  rw [e2 1 (by decide) (by decide), e2 2 (by decide) (by decide), e2 3 (by decide) (by decide), e2 4 (by decide) (by decide), e4 387 (by decide) (by decide) i (by omega), e4 388 (by decide) (by decide) i (by omega), e4 389 (by decide) (by decide) i (by omega), e4 390 (by decide) (by decide) i (by omega)]
  exact m4 i hi
theorem HeI.fr {h g : AH} {a k : Nat} (e1 : hFI g 300 a = hFI h 300 a) (e1' : hFI g 303 a = hFI h 303 a) (e2 : ∀ j, 1 ≤ j → j ≤ 4 → hAI g (a + j) = hAI h (a + j)) (e3 : hAI g 391 k = hAI h 391 k) (e3' : hAI g 394 k = hAI h 394 k) (e4 : ∀ i, i < 10 → hAI g 392 (10 * k + i) = hAI h 392 (10 * k + i) ∧ hAI g 393 (10 * k + i) = hAI h 393 (10 * k + i)) (e5 : ∀ i, i < 12 → hAI g 395 (12 * k + i) = hAI h 395 (12 * k + i) ∧ hAI g 396 (12 * k + i) = hAI h 396 (12 * k + i)) (s : HeI h a k) : HeI g a k := by
  obtain ⟨⟨n, n1, n2, n3, n4⟩, ⟨m, m1, m2, m3, m4⟩⟩ := s
  refine ⟨⟨n, n1, by rw [e1]; exact n2, by rw [e3]; exact n3, fun i hi => ?_⟩, ⟨m, m1, by rw [e1']; exact m2, by rw [e3']; exact m3, fun i hi => ?_⟩⟩
  · rw [e2 1 (by decide) (by decide), e2 2 (by decide) (by decide), (e4 i (by omega)).1, (e4 i (by omega)).2]
    exact n4 i hi
  · rw [e2 3 (by decide) (by decide), e2 4 (by decide) (by decide), (e5 i (by omega)).1, (e5 i (by omega)).2]
    exact m4 i hi
theorem Lk.fr {h g : AH} {p np nc ne nw len n : Nat} {W : Int32 → Int32 → Int32 → Int32 → Int32} (e1 : hK g = hK h) (e2 : ∀ k a, 3 < a → hFR g k a = hFR h k a) (e3 : hLN g = hLN h) (hp : 3 < p) (hpb : p ≤ 30) (e4 : ∀ k, k ≤ 15 → hAI g (p + k) = hAI h (p + k)) (e5 : ∀ k, 401 ≤ k → k ≤ 505 → ∀ a, a ≤ 44 → hFI g k a = hFI h k a) (e6 : ∀ a, 349 ≤ a → a < 375 → hAI g a = hAI h a) (s : Lk h h p np nc ne nw len n W) : Lk g g p np nc ne nw len n W := by
  obtain ⟨h1, h2, h3, h4, h5, h6, h7, h8, h9⟩ := s
  have fs : ∀ a, 3 < a → StSh h a → StSh g a := fun a ha s => by
    unfold StSh at s ⊢
    rw [e1, e3]
    simp only [e2 _ a ha]
    exact s
  have fl : ∀ a, 3 < a → LwSh h a → LwSh g a := fun a ha s => by
    unfold LwSh at s ⊢
    rw [e1, e3]
    simp only [e2 _ a ha]
    exact s
  have fp : ∀ a, 3 < a → PoSh h a → PoSh g a := fun a ha s => by
    obtain ⟨q1, q2, q3⟩ := s
    refine ⟨?_, fl _ (by omega) q2, fs _ (by omega) q3⟩
    unfold PoSh0 at q1 ⊢
    rw [e1, e3]
    simp only [e2 _ a ha]
    exact q1
  refine ⟨?_, ?_, ?_, h4.to e1 (fun k => e2 k _ (by decide)) e3, h5.to (e6 _ (by decide) (by decide)) (e6 _ (by decide) (by decide)) (e6 _ (by decide) (by decide)), ?_, by rw [e6 _ (by decide) (by decide)]; exact h7, ?_, ?_⟩
  · obtain ⟨q1, q2, q3, q4, q5, q6⟩ := h1
    exact ⟨fp _ hp q1, by rw [e5 _ (by decide) (by decide) _ (by omega)]; exact q2, by rw [e5 _ (by decide) (by decide) _ (by omega)]; exact q3, by rw [e5 _ (by decide) (by decide) _ (by omega)]; exact q4, by rw [e5 _ (by decide) (by decide) _ (by omega)]; exact q5, q6⟩
  · obtain ⟨q1, q2, q3⟩ := h2
    exact ⟨by rw [e5 _ (by decide) (by decide) _ (by omega)]; exact q1, q2, by rw [e4 15 (by decide)]; exact q3⟩
  · unfold PoT at h3 ⊢
    rw [e4 10 (by decide)]
    exact h3
  · unfold MoC at h6 ⊢
    rw [e6 350 (by decide) (by decide)]
    exact h6
  · unfold PRow rowsP at h8 ⊢
    rw [e4 4 (by decide), e4 5 (by decide), e4 6 (by decide), e4 7 (by decide), e4 8 (by decide), e4 9 (by decide), e4 10 (by decide), e4 11 (by decide), e4 12 (by decide), e4 13 (by decide), e6 357 (by decide) (by decide), e6 358 (by decide) (by decide), e6 359 (by decide) (by decide), e6 361 (by decide) (by decide), e6 363 (by decide) (by decide), e6 365 (by decide) (by decide), e6 366 (by decide) (by decide), e6 367 (by decide) (by decide), e6 368 (by decide) (by decide), e6 369 (by decide) (by decide)]
    exact h8
  · unfold StepR rowsP at h9 ⊢
    rw [e4 2 (by decide), e6 356 (by decide) (by decide)]
    exact h9
theorem InvP.fr {h g : AH} {p np nc ne nw len n : Nat} {W : Int32 → Int32 → Int32 → Int32 → Int32} (e1 : hK g = hK h) (e2 : ∀ k a, 3 < a → hFR g k a = hFR h k a) (e3 : hLN g = hLN h) (hp : 3 < p) (hpb : p ≤ 30) (e4 : ∀ k, k ≤ 25 → k ≠ 16 → hAI g (p + k) = hAI h (p + k)) (e5 : ∀ k, 401 ≤ k → k ≤ 505 → ∀ a, a ≤ 44 → hFI g k a = hFI h k a) (e5' : hFI g 700 (p + 17) = hFI h 700 (p + 17)) (e6 : ∀ a, 349 ≤ a → a < 375 ∨ a = 385 → hAI g a = hAI h a) (e7 : hAJ g = hAJ h) (s : InvP h p np nc ne nw len n W) : InvP g p np nc ne nw len n W := by
  obtain ⟨s1, s2, s3, s4, s5⟩ := s
  refine ⟨s1.fr e1 e2 e3 hp hpb (fun k hk => e4 k (by omega) (by omega)) e5 (fun a h1 h2 => e6 a h1 (Or.inl h2)), ?_, by rw [e7]; exact s3, fun f => ?_, by rw [e5 _ (by decide) (by decide) _ (by omega), e6 350 (by decide) (by decide)]; exact s5⟩
  · rw [e4 3 (by decide) (by decide), e6 385 (by decide) (Or.inr rfl)]
    exact s2
  · rw [getS_fr e5' (fun k h1 h2 => by rw [Nat.add_assoc]; exact e4 (17 + k) (by omega) (by omega)), FQ_M (e6 355 (by decide) (by decide)) (e6 360 (by decide) (by decide)) (e6 362 (by decide) (by decide)) (e6 364 (by decide) (by decide))]
    exact SR_M (e6 359 (by decide) (by decide)) (e6 368 (by decide) (by decide)) (s4 f)
theorem NowI.fr {B : Nat} {h g : AH} {np nc ne nw : Nat} (hn : np ≤ 5 ∧ nc ≤ 6 ∧ ne ≤ 4 ∧ nw ≤ 6) (e1 : hAI g 359 = hAI h 359) (e2 : hAI g 368 = hAI h 368) (e3 : getS g 62 = getS h 62) (e4 : ∀ j, j < 43 → hAI g 397 j = hAI h 397 j) (s : NowI B h np nc ne nw) : NowI B g np nc ne nw := by
  obtain ⟨hr, h1, h2⟩ := s
  refine ⟨hr, h1, ?_⟩
  rw [e3]
  exact SR_M e1 e2 (SR_dec hn e4 h2)
theorem MaI.fr {B : Nat} {h g : AH} {np nc ne nw : Nat} (e1 : hAI g 359 = hAI h 359) (e2 : hAI g 368 = hAI h 368) (e3 : ∀ a, 124 ≤ a → a ≤ 203 → hAI g a = hAI h a) (e4 : ∀ k a, 124 ≤ a → a ≤ 203 → hFI g k a = hFI h k a) (e5 : hAI g 82 = hAI h 82) (e6 : hAI g 401 = hAI h 401) (e7 : hAI g 399 = hAI h 399) (e8 : ∀ k, 1 ≤ k → k ≤ 4 → hAI g 386 k = hAI h 386 k ∧ hAI g 391 k = hAI h 391 k ∧ hAI g 394 k = hAI h 394 k) (e9 : ∀ r, 387 ≤ r → r ≤ 390 → ∀ i, 40 ≤ i → hAI g r i = hAI h r i) (e10 : ∀ i, 10 ≤ i → hAI g 392 i = hAI h 392 i ∧ hAI g 393 i = hAI h 393 i) (e11 : ∀ i, 12 ≤ i → hAI g 395 i = hAI h 395 i ∧ hAI g 396 i = hAI h 396 i) (s : MaI B h np nc ne nw) : MaI B g np nc ne nw := by
  intro k hk
  obtain ⟨s1, s2, s3⟩ := s k hk
  refine ⟨by rw [e5, e6]; exact s1, by rw [e6]; exact s2, fun z => ?_⟩
  rw [e6] at z
  obtain ⟨⟨hr, t1, t2⟩, t3, t4⟩ := s3 z
  refine ⟨⟨hr, t1, ?_⟩, t3.fr (e4 _ _ (by omega) (by omega)) (fun j h1 h2 => e3 _ (by omega) (by omega)) (e8 _ (by omega) (by omega)).1 (fun r h1 h2 i hi => e9 r h1 h2 _ (by omega)), t4.fr (e4 _ _ (by omega) (by omega)) (e4 _ _ (by omega) (by omega)) (fun j h1 h2 => e3 _ (by omega) (by omega)) (e8 _ (by omega) (by omega)).2.1 (e8 _ (by omega) (by omega)).2.2 (fun i hi => e10 _ (by omega)) (fun i hi => e11 _ (by omega))⟩
  rw [getS_fr (e4 _ _ (by omega) (by omega)) (fun j h1 h2 => e3 _ (by omega) (by omega)), e7]
  exact SR_M e1 e2 t2
theorem UnI.fr {B : Nat} {h g : AH} {np nc ne nw : Nat} (e1 : hAI g 359 = hAI h 359) (e2 : hAI g 368 = hAI h 368) (e3 : ∀ a, 204 ≤ a → a ≤ 347 → hAI g a = hAI h a) (e4 : ∀ a, 204 ≤ a → a ≤ 347 → hFI g 700 a = hFI h 700 a) (e5 : hFI g 1109 0 = hFI h 1109 0) (e6 : hFI g 1110 0 = hFI h 1110 0) (e7 : hFI g 1264 348 = hFI h 1264 348) (e8 : hAI g 400 = hAI h 400) (s : UnI B h np nc ne nw) : UnI B g np nc ne nw := by
  obtain ⟨fr, mn, h1, h2, h3, h4, h5, h6⟩ := s
  refine ⟨fr, mn, h1, h2, by rw [e5]; exact h3, by rw [e6]; exact h4, by rw [e7]; exact h5, fun j hj => ?_⟩
  obtain ⟨hr, t1, t2⟩ := h6 j hj
  have hb : (fr + j) % 16 < 16 := Nat.mod_lt _ (by decide)
  refine ⟨hr, t1, ?_⟩
  rw [getS_fr (e4 _ (by omega) (by omega)) (fun k h1 h2 => e3 _ (by omega) (by omega)), e8]
  exact SR_M e1 e2 t2
theorem TaI.fr {h g : AH} (e1 : hFI g 901 1 = hFI h 901 1) (e2 : hFI g 1201 348 = hFI h 1201 348) (e3 : hAI g 2 = hAI h 2) (e4 : hAI g 349 = hAI h 349) (s : TaI h) : TaI g := by
  unfold TaI at s ⊢
  rw [e1, e2, e3, e4]
  exact s
/-- what is used within calls may change -/
theorem Inv.qt {B L : Nat} {xs : Nat → Int32} {h g : AH} (q : Qt h g) (s : Inv B L xs h) : Inv B L xs g := by
  obtain ⟨q1, q2, q3, q4, q5, q6, q7, q8, q9, q10⟩ := q
  obtain ⟨s1, s2, s3, s4, s5, s6, p, dp, np, nc, ne, nw, len, n, W, t1, t2, t3, t4, t5, t6, t7, t8, t9⟩ := s
  have hn : np ≤ 5 ∧ nc ≤ 6 ∧ ne ≤ 4 ∧ nw ≤ 6 := ⟨t4.1.1.2.2.2.2.2.1, t4.1.1.2.2.2.2.2.2⟩
  have rw_ : ∀ a, cRow a → hAI g a = hAI h a := q8
  have r : ∀ a, (a ≠ 20 ∧ a ≠ 46 ∧ (a < 85 ∨ 92 < a) ∧ (a < 95 ∨ 111 < a) ∧ (a < 113 ∨ 123 < a) ∧ (a < 375 ∨ 384 < a) ∧ (a < 397 ∨ 398 < a) ∧ (a < 402 ∨ 409 < a)) → hAI g a = hAI h a := q8
  have f : ∀ k a, ((k = 700 → a ≠ 84 ∧ a ≠ 94 ∧ a ≠ 103) ∧ a ≠ 112 ∧ a ≠ 93 ∧ (a = 348 → k = 1201 ∨ k = 1264)) → hFI g k a = hFI h k a := q9
  have hp3 : 3 < p ∧ p ≤ 30 ∧ (p = 4 ∨ p = 30) := by rcases t1 with ⟨z, _⟩ | ⟨z, _⟩ <;> subst z <;> decide
  refine ⟨s1.to q1 (fun k a _ _ _ => by rw [q2]) q3 q4, s2.to q1 q4 q3 q7 (fun a ha => f _ _ (by omega)), by rw [r _ (by decide)]; exact s3, ?_, ?_, s6.fr (f _ _ (by decide)) (f _ _ (by decide)) (r _ (by decide)) (r _ (by decide)), p, dp, np, nc, ne, nw, len, n, W, t1, by rw [q2]; exact t2, by rw [q2]; exact t3, ?_, ?_, ?_, ?_, ?_, ?_⟩
  · rw [getS_fr (f _ _ (by decide)) (fun k h1 h2 => r _ (by omega))]
    exact s4
  · rw [getS_fr (f _ _ (by decide)) (fun k h1 h2 => r _ (by omega))]
    exact s5
  · exact t4.fr q1 (fun k a _ => by rw [q2]) q3 hp3.1 hp3.2.1 (fun k h1 h2 => r _ (by omega)) (fun k h1 h2 a ha => f _ _ (by omega)) (f _ _ (by omega)) (fun a h1 h2 => r _ (by omega)) q5
  · exact t5.fr hn (r _ (by decide)) (r _ (by decide)) (getS_fr (f _ _ (by decide)) (fun k h1 h2 => r _ (by omega))) q10
  · exact t6.fr (f _ _ (by decide)) (fun j h1 h2 => r _ (by omega)) (by rw [r _ (by decide)]) (fun x h1 h2 i hi => by rw [r _ (by omega)])
  · exact t7.fr (f _ _ (by decide)) (f _ _ (by decide)) (fun j h1 h2 => r _ (by omega)) (by rw [r _ (by decide)]) (by rw [r _ (by decide)]) (fun i hi => ⟨by rw [r _ (by decide)], by rw [r _ (by decide)]⟩) (fun i hi => ⟨by rw [r _ (by decide)], by rw [r _ (by decide)]⟩)
  · exact t8.fr (r _ (by decide)) (r _ (by decide)) (fun a h1 h2 => r _ (by omega)) (fun k a h1 h2 => f _ _ (by omega)) (r _ (by decide)) (r _ (by decide)) (r _ (by decide)) (fun k h1 h2 => ⟨by rw [r _ (by decide)], by rw [r _ (by decide)], by rw [r _ (by decide)]⟩) (fun x h1 h2 i hi => by rw [r _ (by omega)]) (fun i hi => ⟨by rw [r _ (by decide)], by rw [r _ (by decide)]⟩) (fun i hi => ⟨by rw [r _ (by decide)], by rw [r _ (by decide)]⟩)
  · exact t9.fr (r _ (by decide)) (r _ (by decide)) (fun a h1 h2 => r _ (by omega)) (fun a h1 h2 => f _ _ (by omega)) (f _ _ (by decide)) (f _ _ (by decide)) (f _ _ (by decide)) (r _ (by decide))
