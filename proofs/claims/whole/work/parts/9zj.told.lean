/-! What was read is the post told. -/
theorem mkN_cg {vs cs cs' : Nat → Int32} {σ : Nat → Nat → Int32} : ∀ n, (∀ i, i < n → cs' i = cs i) → mkN vs cs' σ n = mkN vs cs σ n
  | 0, _ => rfl
  | n + 1, h => by
    show mk1 vs (cs' n) (mkN vs cs' σ n) = mk1 vs (cs n) (mkN vs cs σ n)
    rw [h n (by omega), mkN_cg n (fun i hi => h i (by omega))]
/-- the usual law -/
theorem lwv_usual {cs : Nat → Int32} (h0 : cs 0 = -1) (h1 : cs 1 = -2) (h2 : cs 2 = -10) (f : Nat → Int32) (b o k s : Int32) : lwv cs 3 f b o k s = b + o := by
  have j : jn (-10) b o = b + o := by
    have e : (-10 : Int32).toInt = -10 := by decide
    unfold jn
    rw [e, if_neg (by decide), if_pos rfl]
  have e1 : ev1 b o k s (-1) (0, f) = (1, upd f 0 b) := rfl
  have e2 : ev1 b o k s (-2) (1, upd f 0 b) = (2, upd (upd f 0 b) 1 o) := rfl
  have e3 : ev1 b o k s (-10) (2, upd (upd f 0 b) 1 o) = (1, upd (upd (upd f 0 b) 1 o) 0 (jn (-10) (upd (upd f 0 b) 1 o 0) (upd (upd f 0 b) 1 o 1))) := rfl
  show (ev1 b o k s (cs 2) (ev1 b o k s (cs 1) (ev1 b o k s (cs 0) (0, f)))).2 0 = b + o
  rw [h0, h1, h2, e1, e2, e3, pk_un (by decide), pk_us, pk_us, j]
  show upd (upd (upd f 0 b) 1 o) 0 (b + o) 0 = b + o
  exact pk_us
theorem zN_e (i : Nat) : zN i = nI 0 := rfl
/-- what the post told must be like -/
theorem inv_post {h1 g1 g2 k : AH} {a np ny nc ne nw : Nat} (ha : a = 4 ∨ a = 30) (P : PR h1 g1 a np ny nc ne nw) (near : ∀ i j, i < np → j < np → hAI h1 (a + 3) (5 * i + j) = cN (fwN (stS h1 a) np i j)) (ly : LY g1 g2 (stS h1 a)) (ps : PoSh k a) (ms : MSh k)
    (cr : ∀ x, 2 ≤ x → x ≤ 24 → x ≠ 16 → hAI k (a + x) = hAI h1 (a + x)) (cf : ∀ x, 501 ≤ x → x ≤ 505 → hFI k x a = hFI h1 x a) (cl : hFI k 401 (a + 14) = hFI h1 401 (a + 14)) (cn : hAJ k (a + 1) = hAJ h1 (a + 1)) (mr : ∀ x, 350 ≤ x → x ≤ 372 ∨ x = 385 → hAI k x = hAI g2 x) (mn : ∀ x, 351 ≤ x → x ≤ 354 → hAJ k x = hAJ g2 x) (zs : ZeroS (getS k (a + 17))) : ∃ len n W, InvP k a np nc ne nw len n W := by
  obtain ⟨⟨p1, p2, p3, p4, p5, p6, p7, p8, p9, p10, n1, n2, n3, n4⟩, ⟨⟨m1, m2, m3, -⟩, -⟩, pl, cl', pe, wo, st, he, th⟩ := P
  obtain ⟨t1, t2, t3⟩ := stS_of n1 st
  obtain ⟨-, -, -, -, -, -, -, l8, l9, l10⟩ := ly
  have L : ∀ r n, r ∈ lyL → ¬ (351 ≤ r ∧ r ≤ 354) → hf r = n → r ≠ 370 ∧ r ≠ 371 ∧ 350 ≤ r ∧ r ≤ 372 → ∀ i, i < n → hAI k r i = hAI g1 r (n + i) := fun r n q1 q2 q3 q4 i hi => by
    rw [mr r q4.2.2.1 (Or.inl q4.2.2.2), l8 r (by omega), if_neg (by omega), if_pos ⟨q1, q2⟩, q3]
    exact if_pos hi
  have N : ∀ r n, r ∈ lyL → 351 ≤ r → r ≤ 354 → hf r = n → ∀ i, i < n → hAJ k r i = hAJ g1 r (n + i) := fun r n q1 q2 q3 q4 i hi => by
    rw [mn r q2 q3, l9 r, if_pos ⟨q1, q2, q3⟩, q4]
    exact if_pos hi
  have x350 := L 350 5 (by decide) (by decide) rfl (by decide)
  have x355 := L 355 5 (by decide) (by decide) rfl (by decide)
  have x356 := L 356 25 (by decide) (by decide) rfl (by decide)
  have x357 := L 357 6 (by decide) (by decide) rfl (by decide)
  have x358 := L 358 6 (by decide) (by decide) rfl (by decide)
  have x359 := L 359 6 (by decide) (by decide) rfl (by decide)
  have x360 := L 360 6 (by decide) (by decide) rfl (by decide)
  have x361 := L 361 6 (by decide) (by decide) rfl (by decide)
  have x362 := L 362 4 (by decide) (by decide) rfl (by decide)
  have x363 := L 363 4 (by decide) (by decide) rfl (by decide)
  have x364 := L 364 4 (by decide) (by decide) rfl (by decide)
  have x365 := L 365 6 (by decide) (by decide) rfl (by decide)
  have x366 := L 366 6 (by decide) (by decide) rfl (by decide)
  have x367 := L 367 6 (by decide) (by decide) rfl (by decide)
  have x368 := L 368 6 (by decide) (by decide) rfl (by decide)
  have x369 := L 369 24 (by decide) (by decide) rfl (by decide)
  have x372 := L 372 1000 (by decide) (by decide) rfl (by decide)
  have y351 := N 351 5 (by decide) (by decide) (by decide) rfl
  have y352 := N 352 6 (by decide) (by decide) (by decide) rfl
  have y353 := N 353 4 (by decide) (by decide) (by decide) rfl
  have x370 : hAI k 370 0 = hAI g1 370 1 - 1000 := by rw [mr 370 (by decide) (Or.inl (by decide)), l8 370 (by decide), if_pos (Or.inl rfl), pk_us]
  have x371 : hAI k 371 0 = hAI g1 371 1 - 1000 := by rw [mr 371 (by decide) (Or.inl (by decide)), l8 371 (by decide), if_pos (Or.inr rfl), pk_us]
  -- clocks, people, works
  have C : ∀ c, c < nc → ∃ kd s ho hs sp, kd ≤ 3 ∧ s < np ∧ 1 ≤ ho ∧ ho ≤ 999 ∧ hs ≤ ho ∧ sp ≤ 9 ∧ hAI k (a + 4) c = nI kd ∧ hAI k 357 c = nI kd ∧ hAI k (a + 5) c = nI s ∧ hAI k 358 c = nI s ∧ hAI k (a + 6) c = nI ho ∧ hAI k 359 c = nI ho ∧ hAI k (a + 18) c = nI hs ∧ hAI k 360 c = nI hs ∧ hAI k (a + 7) c = nI sp ∧ hAI k 361 c = nI sp := fun c hc => by
    obtain ⟨kd, s, ho, hs, sp, b1, b2, b3, b4, b5, b6, v1, v2, v3, v4, v5, v6, v7, v8, v9, v10⟩ := cl' c hc
    refine ⟨kd, s, ho, hs, sp, b1, b2, b3, b4, b5, b6, ?_, ?_, ?_, ?_, ?_, ?_, ?_, ?_, ?_, ?_⟩
    · rw [cr 4 (by decide) (by decide) (by decide)]; exact v1
    · rw [x357 c (by omega)]; exact v2
    · rw [cr 5 (by decide) (by decide) (by decide)]; exact v3
    · rw [x358 c (by omega)]; exact v4
    · rw [cr 6 (by decide) (by decide) (by decide)]; exact v5
    · rw [x359 c (by omega)]; exact v6
    · rw [cr 18 (by decide) (by decide) (by decide)]; exact v7
    · rw [x360 c (by omega)]; exact v8
    · rw [cr 7 (by decide) (by decide) (by decide)]; exact v9
    · rw [x361 c (by omega)]; exact v10
  have E : ∀ e, e < ne → ∃ q s w, q < np ∧ s ≤ 9 ∧ w ≤ 999 ∧ hAI k (a + 21) e = nI q ∧ hAI k 362 e = nI q ∧ hAI k (a + 8) e = nI s ∧ hAI k 363 e = nI s ∧ hAI k (a + 22) e = nI w ∧ hAI k 364 e = nI w := fun e he => by
    obtain ⟨q, s, w, b1, b2, b3, v1, v2, v3, v4, v5, v6⟩ := pe e he
    refine ⟨q, s, w, b1, b2, b3, ?_, ?_, ?_, ?_, ?_, ?_⟩
    · rw [cr 21 (by decide) (by decide) (by decide)]; exact v1
    · rw [x362 e (by omega)]; exact v2
    · rw [cr 8 (by decide) (by decide) (by decide)]; exact v3
    · rw [x363 e (by omega)]; exact v4
    · rw [cr 22 (by decide) (by decide) (by decide)]; exact v5
    · rw [x364 e (by omega)]; exact v6
  have Q : ∀ w, w < nw → ∃ e t u y, e < ne ∧ t < nc ∧ 1 ≤ u ∧ u ≤ 99 ∧ y ≤ 99 ∧ hAI k (a + 9) w = nI e ∧ hAI k 365 w = nI e ∧ hAI k (a + 10) w = nI t ∧ hAI k 366 w = nI t ∧ hAI k (a + 11) w = nI u ∧ hAI k 367 w = nI u ∧ hAI k (a + 12) w = nI y ∧ hAI k 368 w = nI y := fun w hw => by
    obtain ⟨e, t, u, y, b1, b2, b3, b4, b5, v1, v2, v3, v4, v5, v6, v7, v8⟩ := wo w hw
    refine ⟨e, t, u, y, b1, b2, b3, b4, b5, ?_, ?_, ?_, ?_, ?_, ?_, ?_, ?_⟩
    · rw [cr 9 (by decide) (by decide) (by decide)]; exact v1
    · rw [x365 w (by omega)]; exact v2
    · rw [cr 10 (by decide) (by decide) (by decide)]; exact v3
    · rw [x366 w (by omega)]; exact v4
    · rw [cr 11 (by decide) (by decide) (by decide)]; exact v5
    · rw [x367 w (by omega)]; exact v6
    · rw [cr 12 (by decide) (by decide) (by decide)]; exact v7
    · rw [x368 w (by omega)]; exact v8
  have Pl : ∀ i, i < np → ∃ w, w ≤ 9999 ∧ hAI k (a + 24) i = nI w ∧ hAI k 355 i = nI w := fun i hi => by
    obtain ⟨w, b1, v1, v2⟩ := pl i hi
    refine ⟨w, b1, ?_, ?_⟩
    · rw [cr 24 (by decide) (by decide) (by decide)]; exact v1
    · rw [x355 i (by omega)]; exact v2
  have PC : PoC k a np nc ne nw := ⟨ps, by rw [cf _ (by decide) (by decide)]; exact p1, by rw [cf _ (by decide) (by decide)]; exact p3, by rw [cf _ (by decide) (by decide)]; exact p4, by rw [cf _ (by decide) (by decide)]; exact p5, n1, n2, n3, n4⟩
  have PT : PoT k a nw := fun w hw => by
    obtain ⟨e, t, u, y, b1, b2, b3, b4, b5, v1, v2, v3, v4, v5⟩ := Q w hw
    rw [v3]
    exact vp_in_nI (by omega) (by decide)
  have MC : MoC k nc ne nw := ⟨by rw [x350 2 (by decide)]; exact p8, by rw [x350 3 (by decide)]; exact p9, by rw [x350 4 (by decide)]; exact p10, n2, n3, n4⟩
  have e0 : hAI k 350 0 = nI np := by rw [x350 0 (by decide)]; exact p6
  have RW : PRow (rowsP k a) (hAI k) np nc ne nw := by
    refine ⟨fun c hc => ?_, fun e he => ?_, fun w hw => ?_, fun j hj => ?_, fun c hc => ?_, fun e he => ?_, fun w hw => ?_, n1, n2, n3, n4⟩
    · obtain ⟨kd, s, ho, hs, sp, b1, b2, b3, b4, b5, b6, v1, v2, v3, v4, v5, v6, v7, v8, v9, v10⟩ := C c hc
      exact ⟨v1.trans v2.symm, v3.trans v4.symm, v5.trans v6.symm, v9.trans v10.symm⟩
    · obtain ⟨q, s, w, b1, b2, b3, v1, v2, v3, v4, v5, v6⟩ := E e he
      exact v3.trans v4.symm
    · obtain ⟨e, t, u, y, b1, b2, b3, b4, b5, v1, v2, v3, v4, v5, v6, v7, v8⟩ := Q w hw
      exact ⟨v1.trans v2.symm, v3.trans v4.symm, v5.trans v6.symm, v7.trans v8.symm⟩
    · obtain ⟨h, b1, v1, v2⟩ := he j hj
      show hAI k (a + 13) j = hAI k 369 j
      rw [cr 13 (by decide) (by decide) (by decide), x369 j hj, v1, v2]
    · obtain ⟨kd, s, ho, hs, sp, b1, b2, b3, b4, b5, b6, v1, v2, v3, v4, v5, v6, v7, v8, v9, v10⟩ := C c hc
      rw [v2, v4, v6, nI_toInt (by omega), nI_toInt (by omega)]
      exact ⟨by omega, ⟨s, b2, rfl⟩, by omega, by omega⟩
    · obtain ⟨q, s, w, b1, b2, b3, v1, v2, v3, v4, v5, v6⟩ := E e he
      rw [v4, nI_toInt (by omega)]
      omega
    · obtain ⟨e, t, u, y, b1, b2, b3, b4, b5, v1, v2, v3, v4, v5, v6, v7, v8⟩ := Q w hw
      rw [v2, v4, v6, v8, nI_toInt (by omega)]
      exact ⟨⟨e, b1, rfl⟩, ⟨t, b2, rfl⟩, ⟨u, b3, b4, rfl⟩, by omega, by omega⟩
  have ST : StepR (rowsP k a) (hAI k) := fun i j hi hj => by
    refine ⟨?_, stS h1 a i j, t2 i j, ?_⟩
    · show hAI k (a + 2) (5 * i + j) = hAI k 356 (5 * i + j)
      rw [cr 2 (by decide) (by decide) (by decide), x356 _ (by omega), (t1 i j hi hj).1, (t1 i j hi hj).2]
    · rw [x356 _ (by omega), (t1 i j hi hj).2]
  have NE : ∀ i j, i < np → j < np → NeR1 (hAI k (a + 3) (5 * i + j)) (hAI k 385 (5 * i + j)) := fun i j hi hj => by
    have f5 := fwN_far t2 t3 hi hj (5 - np) (by omega)
    rw [show np + (5 - np) = 5 by omega] at f5
    rw [cr 3 (by decide) (by decide) (by decide), near i j hi hj, mr 385 (by decide) (Or.inr rfl), l10 i j (by omega) (by omega), f5]
    have e : 2 ^ np ≤ 2 ^ 5 := Nat.pow_le_pow_right (by decide) n1
    have e2 : (2 : Nat) ^ 5 = 32 := by decide
    rcases (DI.N t2 t3 np n1).2.1 i j with d | d
    · left
      rw [d]
      exact ⟨if_pos rfl, rfl⟩
    · right
      exact ⟨_, by omega, cN_n (by omega), rfl⟩
  have NM : (∀ i, i < np → hAJ k (a + 1) i = hAJ k 351 i) ∧ (∀ i, i < nc → hAJ k (a + 1) (5 + i) = hAJ k 352 i) ∧ ∀ i, i < ne → hAJ k (a + 1) (11 + i) = hAJ k 353 i := by
    refine ⟨fun i hi => ?_, fun i hi => ?_, fun i hi => ?_⟩
    · rw [cn, y351 i (by omega)]; exact m1 i hi
    · rw [cn, y352 i (by omega)]; exact m2 i hi
    · rw [cn, y353 i (by omega)]; exact m3 i hi
  have FR : ∀ f, SR (hAI k) np nc ne nw 0 (getS k (a + 17)) (FQ (hAI k) np nc ne f) := fun f => by
    obtain ⟨z1, z2, z3⟩ := zs
    have g18 : ∀ c, (getS k (a + 17)).2.1 c = hAI k (a + 18) c := fun c => rfl
    have g21 : ∀ c, (getS k (a + 17)).2.2.2.2.1 c = hAI k (a + 21) c := fun c => rfl
    have g22 : ∀ c, (getS k (a + 17)).2.2.2.2.2.1 c = hAI k (a + 22) c := fun c => rfl
    have g24 : ∀ c, (getS k (a + 17)).2.2.2.2.2.2.2.1 c = hAI k (a + 24) c := fun c => rfl
    refine ⟨z1, rfl, fun c hc => ?_, fun e he => ⟨?_, ?_, ?_⟩, fun p hp => ?_, fun w hw => ?_, ?_, fun c hc => ?_, fun e he => ⟨?_, ?_⟩, fun p hp => ?_, fun w hw => Or.inl rfl, fun c q1 q2 => ?_, fun e q1 q2 => ⟨?_, ?_, ?_⟩, fun p q1 q2 => ?_, fun w q1 q2 => rfl⟩
    · obtain ⟨kd, s, ho, hs, sp, b1, b2, b3, b4, b5, b6, v1, v2, v3, v4, v5, v6, v7, v8, v9, v10⟩ := C c hc
      show (hAI k (a + 18) c, (getS k (a + 17)).2.2.1 c, (getS k (a + 17)).2.2.2.1 c) = (cp nc (hAI k 360) zN c, zN c, zN c)
      rw [cp_lt _ _ hc, v7, v8, (z2 c (by omega)).1, (z2 c (by omega)).2.1]
      rfl
    · obtain ⟨q, s, w, b1, b2, b3, v1, v2, v3, v4, v5, v6⟩ := E e he
      show hAI k (a + 21) e = cp ne (hAI k 362) zN e
      rw [cp_lt _ _ he, v1, v2]
    · obtain ⟨q, s, w, b1, b2, b3, v1, v2, v3, v4, v5, v6⟩ := E e he
      show hAI k (a + 22) e = cp ne (hAI k 364) zN e
      rw [cp_lt _ _ he, v5, v6]
    · exact z3 e (by omega)
    · obtain ⟨w, b1, v1, v2⟩ := Pl p hp
      show hAI k (a + 24) p = cp np (hAI k 355) zN p
      rw [cp_lt _ _ hp, v1, v2]
    · exact (z2 w (by omega)).2.2
    · have z : ∀ m, sumN (pdw (hAI k) (FQ (hAI k) np nc ne f).1) m = 0 := by
        intro m
        induction m with
        | zero => rfl
        | succ m ih =>
          show sumN (pdw (hAI k) (FQ (hAI k) np nc ne f).1) m + pdw (hAI k) (FQ (hAI k) np nc ne f).1 m = 0
          rw [ih]
          rfl
      rw [z nw]
      rfl
    · obtain ⟨kd, s, ho, hs, sp, b1, b2, b3, b4, b5, b6, v1, v2, v3, v4, v5, v6, v7, v8, v9, v10⟩ := C c hc
      show 0 ≤ (cp nc (hAI k 360) zN c).toInt ∧ (cp nc (hAI k 360) zN c).toInt ≤ (hAI k 359 c).toInt ∧ (zN c = 0 ∨ zN c = 1)
      rw [cp_lt _ _ hc, v8, v6, nI_toInt (by omega), nI_toInt (by omega)]
      exact ⟨by omega, by omega, Or.inl rfl⟩
    · obtain ⟨q, s, w, b1, b2, b3, v1, v2, v3, v4, v5, v6⟩ := E e he
      refine ⟨q, b1, ?_⟩
      show cp ne (hAI k 362) zN e = nI q
      rw [cp_lt _ _ he, v2]
    · obtain ⟨q, s, w, b1, b2, b3, v1, v2, v3, v4, v5, v6⟩ := E e he
      show 0 ≤ (cp ne (hAI k 364) zN e).toInt ∧ (cp ne (hAI k 364) zN e).toInt ≤ 999
      rw [cp_lt _ _ he, v6, nI_toInt (by omega)]
      omega
    · obtain ⟨w, b1, v1, v2⟩ := Pl p hp
      show 0 ≤ (cp np (hAI k 355) zN p).toInt ∧ (cp np (hAI k 355) zN p).toInt ≤ 9999
      rw [cp_lt _ _ hp, v2, nI_toInt (by omega)]
      omega
    · show (cp nc (hAI k 360) zN c, zN c, zN c) = (0, 0, 0)
      rw [cp_ge _ _ q1]
      rfl
    · show cp ne (hAI k 362) zN e = 0
      rw [cp_ge _ _ q1]
      rfl
    · show cp ne (hAI k 364) zN e = 0
      rw [cp_ge _ _ q1]
      rfl
    · rfl
    · show cp np (hAI k 355) zN p = 0
      rw [cp_ge _ _ q1]
      rfl
  have W2 : hFI k 502 a = hAI k 350 1 := by rw [cf _ (by decide) (by decide), p2, x350 1 (by decide)]; exact p7.symm
  have c15 : hAI k (a + 15) = hAI h1 (a + 15) := cr 15 (by decide) (by decide) (by decide)
  rcases th with ⟨q1, q2, q3, q4, q5, q6, q7, q8⟩ | ⟨q1, q2, m, len, W, m0, m1000, q3, q4, q5⟩
  · refine ⟨3, 0, fun b o _ _ => b + o, ⟨PC, ⟨by rw [cl]; exact q5, by decide, fun f b o k s => ?_⟩, PT, ms, ⟨?_, ?_, by decide, fun _ _ _ _ _ => rfl, fun z => absurd z (Nat.lt_irrefl _)⟩, MC, e0, RW, ST⟩, NE, NM, FR, W2⟩
    · exact lwv_usual (by rw [c15]; exact q6) (by rw [c15]; exact q7) (by rw [c15]; exact q8) f b o k s
    · rw [x370, q2]; decide
    · rw [x371, q3]; decide
  · have cs : ∀ i, i < m → hAI k 372 i = hAI g1 372 (1000 + i) := fun i hi => x372 i (by omega)
    refine ⟨len, m, W, ⟨PC, ⟨by rw [cl]; exact q4.1, q4.2.1, fun f b o k s => by rw [c15]; exact q4.2.2 f b o k s⟩, PT, ms, ⟨?_, ?_, m1000, fun z => absurd z (by omega), fun _ b o k' s vs σ w1 w2 w3 w4 => ?_⟩, MC, e0, RW, ST⟩, NE, NM, FR, W2⟩
    · rw [x370, q2]; decide
    · rw [x371, q3, show (1000 : Int32) = nI 1000 from rfl, pk_sub (by omega), Nat.add_sub_cancel_left]
    · obtain ⟨r1, r2⟩ := q5 b o k' s vs σ w1 w2 w3 w4
      refine ⟨fun i hi => ?_, ?_⟩
      · have r := r1 i hi
        rw [mkN_cg (cs := fun i => hAI g1 372 (1000 + i)) i (fun j hj => cs j (by omega)), cs i hi]
        exact r
      · unfold mwv at r2 ⊢
        rw [mkN_cg (cs := fun i => hAI g1 372 (1000 + i)) m cs]
        exact r2
