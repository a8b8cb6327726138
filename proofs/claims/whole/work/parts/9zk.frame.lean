/-! What a reading leaves as it was. -/
theorem cp_cg {n : Nat} {f f' g : Nat → Int32} (e : ∀ i, i < n → f' i = f i) : cp n f' g = cp n f g := by
  funext i
  by_cases c : i < n
  · rw [cp_lt _ _ c, cp_lt _ _ c, e i c]
  · rw [cp_ge _ _ (by omega), cp_ge _ _ (by omega)]
theorem FQ_c {M M' : Nat → Nat → Int32} {np nc ne : Nat} {f : Nat → Int32} (e1 : ∀ i, i < np → M' 355 i = M 355 i) (e2 : ∀ i, i < nc → M' 360 i = M 360 i) (e3 : ∀ i, i < ne → M' 362 i = M 362 i) (e4 : ∀ i, i < ne → M' 364 i = M 364 i) : FQ M' np nc ne f = FQ M np nc ne f := by
  unfold FQ
  rw [cp_cg e1, cp_cg e2, cp_cg e3, cp_cg e4]
theorem SR_c {M M' : Nat → Nat → Int32} {np nc ne nw hr : Nat} {R : SV} {Q : MQv} (e1 : ∀ i, i < nc → M' 359 i = M 359 i) (e2 : ∀ i, i < nw → M' 368 i = M 368 i) (h : SR M np nc ne nw hr R Q) : SR M' np nc ne nw hr R Q := by
  obtain ⟨s1, s2, s3, s4, s5, s6, s7, s8, s9⟩ := h
  refine ⟨s1, s2, s3, s4, s5, s6, ?_, fun c hc => by rw [e1 c hc]; exact s8 c hc, s9⟩
  rw [s7]
  apply sumN_congr
  intro w hw
  unfold pdw
  rw [e2 w hw]
theorem MoL.c {h g : AH} {n : Nat} {W : Int32 → Int32 → Int32 → Int32 → Int32} (e0 : hAI g 370 0 = hAI h 370 0) (e1 : hAI g 371 0 = hAI h 371 0) (e2 : ∀ i, i < 1000 → hAI g 372 i = hAI h 372 i) (l : MoL h n W) : MoL g n W := by
  obtain ⟨l1, l2, l3, l4, l5⟩ := l
  refine ⟨by rw [e0]; exact l1, by rw [e1]; exact l2, l3, l4, fun hn b o k s vs σ w1 w2 w3 w4 => ?_⟩
  obtain ⟨r1, r2⟩ := l5 hn b o k s vs σ w1 w2 w3 w4
  refine ⟨fun i hi => ?_, ?_⟩
  · have r := r1 i hi
    rw [mkN_cg (cs := hAI h 372) i (fun j hj => e2 j (by omega)), e2 i (by omega)]
    exact r
  · unfold mwv at r2 ⊢
    rw [mkN_cg (cs := hAI h 372) n (fun j hj => e2 j (by omega))]
    exact r2
theorem PRow.c {P P' M M' : Nat → Nat → Int32} {np nc ne nw : Nat} (e : ∀ k, k ≠ 16 → k ≤ 13 → P' k = P k) (e1 : ∀ r, (r = 357 ∨ r = 358 ∨ r = 359 ∨ r = 361) → ∀ i, i < nc → M' r i = M r i) (e2 : ∀ i, i < ne → M' 363 i = M 363 i) (e3 : ∀ r, 365 ≤ r → r ≤ 368 → ∀ i, i < nw → M' r i = M r i) (e4 : ∀ i, i < 24 → M' 369 i = M 369 i) (s : PRow P M np nc ne nw) : PRow P' M' np nc ne nw := by
  obtain ⟨s1, s2, s3, s4, s5, s6, s7, s8⟩ := s
  refine ⟨fun c hc => ?_, fun c hc => ?_, fun w hw => ?_, fun j hj => ?_, fun c hc => ?_, fun c hc => ?_, fun w hw => ?_, s8⟩
  · rw [e 4 (by decide) (by decide), e 5 (by decide) (by decide), e 6 (by decide) (by decide), e 7 (by decide) (by decide), e1 357 (by decide) c hc, e1 358 (by decide) c hc, e1 359 (by decide) c hc, e1 361 (by decide) c hc]
    exact s1 c hc
  · rw [e 8 (by decide) (by decide), e2 c hc]
    exact s2 c hc
  · rw [e 9 (by decide) (by decide), e 10 (by decide) (by decide), e 11 (by decide) (by decide), e 12 (by decide) (by decide), e3 365 (by decide) (by decide) w hw, e3 366 (by decide) (by decide) w hw, e3 367 (by decide) (by decide) w hw, e3 368 (by decide) (by decide) w hw]
    exact s3 w hw
  · rw [e 13 (by decide) (by decide), e4 j hj]
    exact s4 j hj
  · rw [e1 357 (by decide) c hc, e1 358 (by decide) c hc, e1 359 (by decide) c hc]
    exact s5 c hc
  · rw [e2 c hc]
    exact s6 c hc
  · rw [e3 365 (by decide) (by decide) w hw, e3 366 (by decide) (by decide) w hw, e3 367 (by decide) (by decide) w hw, e3 368 (by decide) (by decide) w hw]
    exact s7 w hw
theorem InvP.fr2 {h g : AH} {p np nc ne nw len n : Nat} {W : Int32 → Int32 → Int32 → Int32 → Int32} (e1 : hK g = hK h) (e2 : ∀ k a, 3 < a → hFR g k a = hFR h k a) (e3 : hLN g = hLN h) (hp : 3 < p) (e4 : ∀ k, k ≤ 25 → k ≠ 16 → hAI g (p + k) = hAI h (p + k)) (e5 : ∀ k, 501 ≤ k → k ≤ 505 → hFI g k p = hFI h k p) (e5b : hFI g 401 (p + 14) = hFI h 401 (p + 14)) (e5' : hFI g 700 (p + 17) = hFI h 700 (p + 17)) (e6 : ∀ r, 350 ≤ r → r ≤ 372 → ∀ i, i < hf r → hAI g r i = hAI h r i) (e6' : hAI g 385 = hAI h 385) (e7 : hAJ g (p + 1) = hAJ h (p + 1)) (e8 : ∀ r, 351 ≤ r → r ≤ 353 → ∀ i, i < hf r → hAJ g r i = hAJ h r i) (s : InvP h p np nc ne nw len n W) : InvP g p np nc ne nw len n W := by
  obtain ⟨⟨⟨a1, a2, a3, a4, a5, n1, n2, n3, n4⟩, ⟨b1, b2, b3⟩, s3, s4, s5, ⟨m1, m2, m3, m4⟩, s7, s8, s9⟩, t2, ⟨u1, u2, u3⟩, t4, t5⟩ := s
  have x5 : ∀ r, hf r = 5 → 350 ≤ r ∧ r ≤ 372 → ∀ i, i < 5 → hAI g r i = hAI h r i := fun r q1 q2 i hi => e6 r q2.1 q2.2 i (by omega)
  have x6 : ∀ r, hf r = 6 → 350 ≤ r ∧ r ≤ 372 → ∀ i, i < 6 → hAI g r i = hAI h r i := fun r q1 q2 i hi => e6 r q2.1 q2.2 i (by omega)
  have x4 : ∀ r, hf r = 4 → 350 ≤ r ∧ r ≤ 372 → ∀ i, i < 4 → hAI g r i = hAI h r i := fun r q1 q2 i hi => e6 r q2.1 q2.2 i (by omega)
  have x350 := x5 350 rfl (by decide)
  refine ⟨⟨⟨PoSh.fr3 e1 (fun k x e => e2 k x e) e3 hp a1, by rw [e5 _ (by decide) (by decide)]; exact a2, by rw [e5 _ (by decide) (by decide)]; exact a3, by rw [e5 _ (by decide) (by decide)]; exact a4, by rw [e5 _ (by decide) (by decide)]; exact a5, n1, n2, n3, n4⟩, ⟨by rw [e5b]; exact b1, b2, fun f b o k s => by rw [e4 15 (by decide) (by decide)]; exact b3 f b o k s⟩, fun w hw => ?_, s4.to e1 (fun k => e2 k _ (by decide)) e3, s5.c (e6 370 (by decide) (by decide) 0 (by decide)) (e6 371 (by decide) (by decide) 0 (by decide)) (fun i hi => e6 372 (by decide) (by decide) i hi), ⟨by rw [x350 2 (by decide)]; exact m1, by rw [x350 3 (by decide)]; exact m2, by rw [x350 4 (by decide)]; exact m3, m4⟩, by rw [x350 0 (by decide)]; exact s7, s8.c (fun k q1 q2 => e4 k (by omega) q1) (fun r hr i hi => ?_) (fun i hi => x4 363 rfl (by decide) i (by omega)) (fun r h1 h2 i hi => ?_) (fun i hi => e6 369 (by decide) (by decide) i hi), fun i j hi hj => ?_⟩, ?_, ⟨fun i hi => ?_, fun i hi => ?_, fun i hi => ?_⟩, fun f => ?_, ?_⟩
  · rw [e4 10 (by decide) (by decide)]
    exact s3 w hw
  · rcases hr with rfl | rfl | rfl | rfl
    · exact x6 357 rfl (by decide) i (by omega)
    · exact x6 358 rfl (by decide) i (by omega)
    · exact x6 359 rfl (by decide) i (by omega)
    · exact x6 361 rfl (by decide) i (by omega)
  · rcases (show r = 365 ∨ r = 366 ∨ r = 367 ∨ r = 368 by omega) with rfl | rfl | rfl | rfl
    · exact x6 365 rfl (by decide) i (by omega)
    · exact x6 366 rfl (by decide) i (by omega)
    · exact x6 367 rfl (by decide) i (by omega)
    · exact x6 368 rfl (by decide) i (by omega)
  · have z := s9 i j hi hj
    have z0 : hAI g 356 (5 * i + j) = hAI h 356 (5 * i + j) := e6 356 (by decide) (by decide) _ (show 5 * i + j < 25 by omega)
    have z1 : rowsP g p 2 = rowsP h p 2 := e4 2 (by decide) (by decide)
    rw [z0, z1]
    exact z
  · rw [e4 3 (by decide) (by decide), e6']
    exact t2
  · rw [e7, e8 351 (by decide) (by decide) i (show i < 5 by omega)]
    exact u1 i hi
  · rw [e7, e8 352 (by decide) (by decide) i (show i < 6 by omega)]
    exact u2 i hi
  · rw [e7, e8 353 (by decide) (by decide) i (show i < 4 by omega)]
    exact u3 i hi
  · rw [getS_fr e5' (fun k h1 h2 => by rw [Nat.add_assoc]; exact e4 (17 + k) (by omega) (by omega)), FQ_c (M := hAI h) (fun i hi => x5 355 rfl (by decide) i (by omega)) (fun i hi => x6 360 rfl (by decide) i (by omega)) (fun i hi => x4 362 rfl (by decide) i (by omega)) (fun i hi => x4 364 rfl (by decide) i (by omega))]
    exact SR_c (fun i hi => x6 359 rfl (by decide) i (by omega)) (fun i hi => x6 368 rfl (by decide) i (by omega)) (t4 f)
  · rw [e5 _ (by decide) (by decide), x350 1 (by decide)]
    exact t5
theorem NowI.fr2 {B : Nat} {h g : AH} {np nc ne nw : Nat} (hn : np ≤ 5 ∧ nc ≤ 6 ∧ ne ≤ 4 ∧ nw ≤ 6) (e1 : ∀ i, i < 6 → hAI g 359 i = hAI h 359 i) (e2 : ∀ i, i < 6 → hAI g 368 i = hAI h 368 i) (e3 : getS g 62 = getS h 62) (e4 : ∀ j, j < 43 → hAI g 397 j = hAI h 397 j) (s : NowI B h np nc ne nw) : NowI B g np nc ne nw := by
  obtain ⟨hr, h1, h2⟩ := s
  refine ⟨hr, h1, ?_⟩
  rw [e3]
  exact SR_c (fun i hi => e1 i (by omega)) (fun i hi => e2 i (by omega)) (SR_dec hn e4 h2)
theorem MaI.fr2 {B : Nat} {h g : AH} {np nc ne nw : Nat} (hn : np ≤ 5 ∧ nc ≤ 6 ∧ ne ≤ 4 ∧ nw ≤ 6) (e1 : ∀ i, i < 6 → hAI g 359 i = hAI h 359 i) (e2 : ∀ i, i < 6 → hAI g 368 i = hAI h 368 i) (e3 : ∀ a, 124 ≤ a → a ≤ 203 → hAI g a = hAI h a) (e4 : ∀ k a, 124 ≤ a → a ≤ 203 → hFI g k a = hFI h k a) (e5 : hAI g 82 = hAI h 82) (e6 : hAI g 401 = hAI h 401) (e7 : hAI g 399 = hAI h 399) (e8 : ∀ k, 1 ≤ k → k ≤ 4 → hAI g 386 k = hAI h 386 k ∧ hAI g 391 k = hAI h 391 k ∧ hAI g 394 k = hAI h 394 k) (e9 : ∀ r, 387 ≤ r → r ≤ 390 → ∀ i, 40 ≤ i → i < 200 → hAI g r i = hAI h r i) (e10 : ∀ i, 10 ≤ i → hAI g 392 i = hAI h 392 i ∧ hAI g 393 i = hAI h 393 i) (e11 : ∀ i, 12 ≤ i → hAI g 395 i = hAI h 395 i ∧ hAI g 396 i = hAI h 396 i) (s : MaI B h np nc ne nw) : MaI B g np nc ne nw := by
  intro k hk
  obtain ⟨s1, s2, s3⟩ := s k hk
  refine ⟨by rw [e5, e6]; exact s1, by rw [e6]; exact s2, fun z => ?_⟩
  rw [e6] at z
  obtain ⟨⟨hr, t1, t2⟩, t3, t4⟩ := s3 z
  refine ⟨⟨hr, t1, ?_⟩, t3.fr (e4 _ _ (by omega) (by omega)) (fun j h1 h2 => e3 _ (by omega) (by omega)) (e8 _ (by omega) (by omega)).1 (fun r h1 h2 i hi => e9 r h1 h2 _ (by omega) (by omega)), t4.fr (e4 _ _ (by omega) (by omega)) (e4 _ _ (by omega) (by omega)) (fun j h1 h2 => e3 _ (by omega) (by omega)) (e8 _ (by omega) (by omega)).2.1 (e8 _ (by omega) (by omega)).2.2 (fun i hi => e10 _ (by omega)) (fun i hi => e11 _ (by omega))⟩
  rw [getS_fr (e4 _ _ (by omega) (by omega)) (fun j h1 h2 => e3 _ (by omega) (by omega)), e7]
  exact SR_c (fun i hi => e1 i (by omega)) (fun i hi => e2 i (by omega)) t2
theorem UnI.fr2 {B : Nat} {h g : AH} {np nc ne nw : Nat} (hn : np ≤ 5 ∧ nc ≤ 6 ∧ ne ≤ 4 ∧ nw ≤ 6) (e1 : ∀ i, i < 6 → hAI g 359 i = hAI h 359 i) (e2 : ∀ i, i < 6 → hAI g 368 i = hAI h 368 i) (e3 : ∀ a, 204 ≤ a → a ≤ 347 → hAI g a = hAI h a) (e4 : ∀ a, 204 ≤ a → a ≤ 347 → hFI g 700 a = hFI h 700 a) (e5 : hFI g 1109 0 = hFI h 1109 0) (e6 : hFI g 1110 0 = hFI h 1110 0) (e7 : hFI g 1264 348 = hFI h 1264 348) (e8 : hAI g 400 = hAI h 400) (s : UnI B h np nc ne nw) : UnI B g np nc ne nw := by
  obtain ⟨fr, mn, h1, h2, h3, h4, h5, h6⟩ := s
  refine ⟨fr, mn, h1, h2, by rw [e5]; exact h3, by rw [e6]; exact h4, by rw [e7]; exact h5, fun j hj => ?_⟩
  obtain ⟨hr, t1, t2⟩ := h6 j hj
  have hb : (fr + j) % 16 < 16 := Nat.mod_lt _ (by decide)
  refine ⟨hr, t1, ?_⟩
  rw [getS_fr (e4 _ (by omega) (by omega)) (fun k h1 h2 => e3 _ (by omega) (by omega)), e8]
  exact SR_c (fun i hi => e1 i (by omega)) (fun i hi => e2 i (by omega)) t2
theorem ZeroS.fr {h g : AH} {a : Nat} (e1 : hFI g 700 a = hFI h 700 a) (e2 : ∀ k, (k = 2 ∨ k = 3 ∨ k = 6 ∨ k = 8) → hAI g (a + k) = hAI h (a + k)) (s : ZeroS (getS h a)) : ZeroS (getS g a) := by
  have q0 : (getS g a).1 = (getS h a).1 := e1
  have q1 : (getS g a).2.2.1 = (getS h a).2.2.1 := e2 2 (by decide)
  have q2 : (getS g a).2.2.2.1 = (getS h a).2.2.2.1 := e2 3 (by decide)
  have q3 : (getS g a).2.2.2.2.2.2.2.2 = (getS h a).2.2.2.2.2.2.2.2 := e2 8 (by decide)
  have q4 : (getS g a).2.2.2.2.2.2.1 = (getS h a).2.2.2.2.2.2.1 := e2 6 (by decide)
  unfold ZeroS at s ⊢
  rw [q0, q1, q2, q3, q4]
  exact s
/-- what a reading may change, but for the post told -/
def Rd (dp : Nat) (h g : AH) : Prop := hK g = hK h ∧ hLN g = hLN h ∧ hAR g = hAR h ∧ (∀ k x, (x ≠ 3 ∨ k = 600) → (x ≠ 1 ∨ k = 900) → hFR g k x = hFR h k x) ∧ (∀ k x, 1000000 ≤ x → hFJ g k x = hFJ h k x) ∧
  (∀ x, (x < dp + 2 ∨ x = dp + 19 ∨ x = dp + 20 ∨ x = dp + 23 ∨ dp + 24 < x) → x ≠ 2 → (x < 57 ∨ 60 < x) → (x < 72 ∨ 75 < x) → (x < 349 ∨ 374 < x) → (x < 386 ∨ 390 < x) → hAI g x = hAI h x) ∧
  (∀ r i, 350 ≤ r → r ≤ 374 → i < hf r → hAI g r i = hAI h r i) ∧ (∀ i, 1 ≤ i → i < 5 → hAI g 386 i = hAI h 386 i) ∧ (∀ r i, 387 ≤ r → r ≤ 390 → 40 ≤ i → i < 200 → hAI g r i = hAI h r i) ∧
  (∀ x, x ≠ dp + 1 → (x < 351 ∨ 354 < x) → hAJ g x = hAJ h x) ∧ (∀ r i, 351 ≤ r → r ≤ 354 → i < hf r → hAJ g r i = hAJ h r i) ∧
  (∀ k x, x ≠ 1 → x ≠ 3 → (x ≠ dp ∨ k < 501 ∨ 505 < k) → (x ≠ dp + 14 ∨ k ≠ 401) → (x ≠ 348 ∨ k = 1264) → (x ≠ 56 ∨ k ≠ 200) → (x ≠ 71 ∨ k ≠ 200) → hFI g k x = hFI h k x)
theorem Inv.rd {B L : Nat} {xs : Nat → Int32} {h g : AH} {p dp np nc ne nw len n : Nat} {W : Int32 → Int32 → Int32 → Int32 → Int32} (s1 : GSh h L) (s2 : WdSh h) (s3 : hAI h 1000101 = xs) (s4 : ZeroS (getS h 21)) (s5 : ZeroS (getS h 47)) (t1 : PDr p dp) (t2 : hFR h 1102 0 = some p) (t3 : hFR h 1103 0 = some dp) (t4 : InvP h p np nc ne nw len n W) (t5 : NowI B h np nc ne nw) (t7 : HeI h 76 0) (t8 : MaI B h np nc ne nw) (t9 : UnI B h np nc ne nw) (q : Rd dp h g) (T : TaI g) (D : DaI g 71 0 np nc ne) : Inv B L xs g := by
  obtain ⟨q1, q2, q3, q4, q5, q6, q7, q8, q9, q10, q11, q12⟩ := q
  have hn : np ≤ 5 ∧ nc ≤ 6 ∧ ne ≤ 4 ∧ nw ≤ 6 := ⟨t4.1.1.2.2.2.2.2.1, t4.1.1.2.2.2.2.2.2⟩
  have R : ∀ k x, 3 < x → hFR g k x = hFR h k x := fun k x e => q4 k x (by omega) (by omega)
  have x359 : ∀ i, i < 6 → hAI g 359 i = hAI h 359 i := fun i hi => q7 359 i (by decide) (by decide) hi
  have x368 : ∀ i, i < 6 → hAI g 368 i = hAI h 368 i := fun i hi => q7 368 i (by decide) (by decide) hi
  have big : ∀ x, 60 < x → (x < 72 ∨ 75 < x) → (x < 349 ∨ 374 < x) → (x < 386 ∨ 390 < x) → hAI g x = hAI h x := fun x a b c d => q6 x (by rcases t1 with ⟨-, z⟩ | ⟨-, z⟩ <;> omega) (by omega) (by omega) b c d
  have fbig : ∀ k x, 60 < x → (x ≠ 348 ∨ k = 1264) → (x ≠ 71 ∨ k ≠ 200) → hFI g k x = hFI h k x := fun k x a b c => q12 k x (by omega) (by omega) (by rcases t1 with ⟨-, z⟩ | ⟨-, z⟩ <;> omega) (by rcases t1 with ⟨-, z⟩ | ⟨-, z⟩ <;> omega) b (by omega) c
  have hp3 : 3 < p ∧ p ≤ 30 := by rcases t1 with ⟨z, _⟩ | ⟨z, _⟩ <;> omega
  refine ⟨s1.to q1 (fun k a z1 z2 z3 => q4 k a (by omega) (by omega)) q2 q3, s2.to q1 q3 q2 (fun k a ha => q5 k a ha) (fun a ha => fbig _ _ (by omega) (by omega) (by omega)), by rw [big _ (by decide) (by decide) (by decide) (by decide)]; exact s3, ?_, ?_, T, p, dp, np, nc, ne, nw, len, n, W, t1, by rw [q4 _ _ (by decide) (by decide)]; exact t2, by rw [q4 _ _ (by decide) (by decide)]; exact t3, ?_, ?_, D, ?_, ?_, ?_⟩
  · refine ZeroS.fr ?_ (fun k hk => ?_) s4
    · rcases t1 with ⟨z, z'⟩ | ⟨z, z'⟩ <;> subst z' <;> exact q12 _ _ (by decide) (by decide) (by decide) (by decide) (by decide) (by decide) (by decide)
    · rcases t1 with ⟨z, z'⟩ | ⟨z, z'⟩ <;> subst z' <;> exact q6 _ (by omega) (by omega) (by omega) (by omega) (by omega) (by omega)
  · refine ZeroS.fr ?_ (fun k hk => ?_) s5
    · rcases t1 with ⟨z, z'⟩ | ⟨z, z'⟩ <;> subst z' <;> exact q12 _ _ (by decide) (by decide) (by decide) (by decide) (by decide) (by decide) (by decide)
    · rcases t1 with ⟨z, z'⟩ | ⟨z, z'⟩ <;> subst z' <;> exact q6 _ (by omega) (by omega) (by omega) (by omega) (by omega) (by omega)
  · refine t4.fr2 q1 R q2 hp3.1 (fun k k1 k2 => ?_) (fun k k1 k2 => ?_) ?_ ?_ (fun r r1 r2 i hi => q7 r i r1 (by omega) hi) (big _ (by decide) (by decide) (by decide) (by decide)) ?_ (fun r r1 r2 i hi => q11 r i r1 (by omega) hi)
    · rcases t1 with ⟨z, z'⟩ | ⟨z, z'⟩ <;> subst z <;> subst z' <;> exact q6 _ (by omega) (by omega) (by omega) (by omega) (by omega) (by omega)
    · rcases t1 with ⟨z, z'⟩ | ⟨z, z'⟩ <;> subst z <;> subst z' <;> exact q12 _ _ (by omega) (by omega) (by omega) (by omega) (by omega) (by omega) (by omega)
    · rcases t1 with ⟨z, z'⟩ | ⟨z, z'⟩ <;> subst z <;> subst z' <;> exact q12 _ _ (by omega) (by omega) (by omega) (by omega) (by omega) (by omega) (by omega)
    · rcases t1 with ⟨z, z'⟩ | ⟨z, z'⟩ <;> subst z <;> subst z' <;> exact q12 _ _ (by omega) (by omega) (by omega) (by omega) (by omega) (by omega) (by omega)
    · rcases t1 with ⟨z, z'⟩ | ⟨z, z'⟩ <;> subst z <;> subst z' <;> exact q10 _ (by omega) (by omega)
  · exact t5.fr2 hn x359 x368 (getS_fr (fbig _ _ (by decide) (by decide) (by decide)) (fun k h1 h2 => big _ (by omega) (by omega) (by omega) (by omega))) (fun j hj => by rw [big _ (by decide) (by decide) (by decide) (by decide)])
  · exact t7.fr (fbig _ _ (by decide) (by decide) (by decide)) (fbig _ _ (by decide) (by decide) (by decide)) (fun j h1 h2 => big _ (by omega) (by omega) (by omega) (by omega)) (by rw [big _ (by decide) (by decide) (by decide) (by decide)]) (by rw [big _ (by decide) (by decide) (by decide) (by decide)]) (fun i hi => ⟨by rw [big _ (by decide) (by decide) (by decide) (by decide)], by rw [big _ (by decide) (by decide) (by decide) (by decide)]⟩) (fun i hi => ⟨by rw [big _ (by decide) (by decide) (by decide) (by decide)], by rw [big _ (by decide) (by decide) (by decide) (by decide)]⟩)
  · exact t8.fr2 hn x359 x368 (fun a h1 h2 => big _ (by omega) (by omega) (by omega) (by omega)) (fun k a h1 h2 => fbig _ _ (by omega) (by omega) (by omega)) (big _ (by decide) (by decide) (by decide) (by decide)) (big _ (by decide) (by decide) (by decide) (by decide)) (big _ (by decide) (by decide) (by decide) (by decide)) (fun k h1 h2 => ⟨q8 k h1 (by omega), by rw [big _ (by decide) (by decide) (by decide) (by decide)], by rw [big _ (by decide) (by decide) (by decide) (by decide)]⟩) (fun x h1 h2 i hi hi2 => q9 x i h1 h2 hi hi2) (fun i hi => ⟨by rw [big _ (by decide) (by decide) (by decide) (by decide)], by rw [big _ (by decide) (by decide) (by decide) (by decide)]⟩) (fun i hi => ⟨by rw [big _ (by decide) (by decide) (by decide) (by decide)], by rw [big _ (by decide) (by decide) (by decide) (by decide)]⟩)
  · exact t9.fr2 hn x359 x368 (fun a h1 h2 => big _ (by omega) (by omega) (by omega) (by omega)) (fun a h1 h2 => fbig _ _ (by omega) (by omega) (by omega)) (by
      rcases t1 with ⟨z, z'⟩ | ⟨z, z'⟩ <;> subst z' <;> exact q12 _ _ (by decide) (by decide) (by decide) (by decide) (by decide) (by decide) (by decide)) (by
      rcases t1 with ⟨z, z'⟩ | ⟨z, z'⟩ <;> subst z' <;> exact q12 _ _ (by decide) (by decide) (by decide) (by decide) (by decide) (by decide) (by decide)) (fbig _ _ (by decide) (by decide) (by decide)) (big _ (by decide) (by decide) (by decide) (by decide))
