/-! The reader: the line thirst. -/
theorem PR.law {h g h' g' : AH} {a np ny nc ne nw : Nat} (P : PR h g a np ny nc ne nw) (eo : ∀ k, 2 ≤ k → k ≤ 24 → k ≠ 15 → hAI h' (a + k) = hAI h (a + k)) (en : hAJ h' (a + 1) = hAJ h (a + 1)) (eC : ∀ k, hFI h' k a = hFI h k a) (fo : ∀ r, 350 ≤ r → r ≤ 369 → hAI g' r = hAI g r) (fN : ∀ r, 351 ≤ r → r ≤ 354 → hAJ g' r = hAJ g r) (t : pTh h' g' a) : PR h' g' a np ny nc ne nw := by
  obtain ⟨s1, s2, s3, s4, s5, s6, s7, s8, s9⟩ := P
  refine ⟨s1.fr (fun k _ _ => eC k) (fo 350 (by decide) (by decide)), s2.fr en fN, ?_, ?_, ?_, ?_, ?_, ?_, t⟩
  · exact fun q hq => (s3 q hq).fr (by rw [eo 24 (by decide) (by decide) (by decide)]) (by rw [fo 355 (by decide) (by decide)])
  · exact fun q hq => (s4 q hq).fr (fun k hk => by rw [eo k (by omega) (by omega) (by omega)]) (fun r h1 h2 => by rw [fo r (by omega) (by omega)])
  · exact fun q hq => (s5 q hq).fr (fun k hk => by rw [eo k (by omega) (by omega) (by omega)]) (fun r h1 h2 => by rw [fo r (by omega) (by omega)])
  · exact fun q hq => (s6 q hq).fr (fun k h1 h2 => by rw [eo k (by omega) (by omega) (by omega)]) (fun r h1 h2 => by rw [fo r (by omega) (by omega)])
  · exact s7.fr (by rw [eo 2 (by decide) (by decide) (by decide)]) (by rw [fo 356 (by decide) (by decide)])
  · exact s8.fr (by rw [eo 13 (by decide) (by decide) (by decide)]) (by rw [fo 369 (by decide) (by decide)])
theorem ln_thirst {d d2 a n b np ny nc ne nw : Nat} {h g : AH} {T : Nat → Nat} (ha : a = 4 ∨ a = 30) (c : CX h a n T b) (m : MX g n T b) (P : PR h g a np ny nc ne nw) (hb : b < n) : Ln a n T b h g (am_C PG (d + 34) 94 [.ref 3] h) (am_C PG (d2 + 6) 195 [.ref 348] g) := by
  have ha3 : 3 < a := by omega
  have ha30 : a ≤ 30 := by omega
  obtain ⟨k3, k1, ka, k14, k17, kr2, kr4, kr5, kr6, kr7, kr8, kr9, kr10, kr11, kr12, kr13, kr18, kr21, kr22, kr24, nr2, nr4, nr5, nr6, nr7, nr8, nr9, nr10, nr11, nr12, nr13, nr18, nr21, nr22, nr24⟩ := c.kl
  obtain ⟨f600, f601, f500, f506, f508, f509, f510, f511, f512, f513, f514, f515, f516, f517, f518, f519, f701, f704, f705, f707⟩ := c.fr
  have hm := m.1.1
  have m0 := hm.1
  have f1230 : hFR _ 1230 348 = some 370 := (hm.2 21 (by decide)).1
  have k370 : hK _ 370 = 50 := (hm.2 21 (by decide)).2.1
  have n370 : hLN _ 370 = 2 := (hm.2 21 (by decide)).2.2
  have f1231 : hFR _ 1231 348 = some 371 := (hm.2 22 (by decide)).1
  have k371 : hK _ 371 = 50 := (hm.2 22 (by decide)).2.1
  have n371 : hLN _ 371 = 2 := (hm.2 22 (by decide)).2.2
  have f1235 : hFR _ 1235 348 = some 374 := (hm.2 25 (by decide)).1
  have k374 : hK _ 374 = 52 := (hm.2 25 (by decide)).2.1
  have n374 : hLN _ 374 = 7 := (hm.2 25 (by decide)).2.2
  have z1 : ((1 : Int32) = 0) = False := eq_false (by decide)
  have i1 : ∀ x, am_in (1 : Int32) 2 x = x := am_inN (i := 1) (by decide) (by decide)
  have t1 : Int32.toNatClampNeg (1 : Int32) = 1 := by decide
  rw [q_X6_thirstLine, q_X12_readsThirst]
  rcases P.2.2.2.2.2.2.2.2 with ⟨u1, u2, u3, u4, u5, -⟩ | ⟨u1, u2, mm, len, W, u3, u4, u5, -⟩
  · have lt : (nI 1000 < nI 1000) = False := eq_false (nI_nlt (Nat.le_refl _) (by decide))
    have c0 := c.fa 604 (x := 3) 1 (by decide)
    obtain ⟨h2, g1, x1, y1, q1, r1, c1, m1⟩ := st_adv (d := d + 30) (d2 := d2 + 3) c0 m
    have w3 : hK (sFI h 604 3 1) 3 = 7 := k3
    have w6 : hFR (sFI h 604 3 1) 600 3 = some 1 := f600
    have w1 : hK (sFI h 604 3 1) 1 = 10 := k1
    have k3' : hK h2 3 = 7 := c1.1
    have f6' : hFR h2 601 3 = some a := c1.2.2.1
    have ka' : hK h2 a = 6 := c1.kl.2.2.1
    have k14' : hK h2 (a + 14) = 5 := c1.kl.2.2.2.1
    obtain ⟨-, -, -, -, -, -, -, -, -, -, -, -, -, -, f518', -⟩ := c1.fr
    have z0 : (hFI h 604 3 = 0) = True := eq_true u1
    have kb : am_C PG (d + 33) 43 [.ref (a + 14)] h2 = some (none, sFI h2 401 (a + 14) 0) := by
      rw [q_X4_beNothing]
      simp only [am_kd, k14', if_true, am_let_e]
    have hm1 := m1.1.1
    have e1233 : hFI g1 1233 348 = nI 1000 := (r1.2.2.2.2.2.2.2.2 _ _ (by omega) (by omega)).trans u4
    have c2 := c1.fa 401 (x := a + 14) 0 (by omega)
    have m2 := (m1.ei (r := 370) 1 (nI 1000) (by decide)).ei (r := 374) 0 0 (by decide)
    have S : TS a n T (nxt n T b) (sFI h2 401 (a + 14) 0) (sEI (sEI g1 370 1 (nI 1000)) 374 0 0) 0 0 := ⟨c2, m2, sFI_at _ _ _ _, e1233, Nat.zero_le _, Nat.zero_le _⟩
    have sC : CS a h (sFI h2 401 (a + 14) 0) := ((CS.fi h 1 (k := 604) (x := 3) (by omega) ha3).tr (q1.cs a)).tr (CS.fi h2 0 (k := 401) (x := a + 14) (by omega) ha3)
    have sM : MZ g (sEI (sEI g1 370 1 (nI 1000)) 374 0 0) := (r1.mz.tr (MZ.ei g1 (r := 370) (i := 1) (nI 1000) (by decide) (by decide))).tr (MZ.ei _ (r := 374) (i := 0) 0 (by decide) (by decide))
    have kM : am_C PG (d2 + 5) 172 [.ref 348] (sEI g1 370 1 (nI 1000)) = Hd (d2 + 1) 0 1 (sEI (sEI g1 370 1 (nI 1000)) 374 0 0) := by
      have hm2 := (m1.ei (r := 370) 1 (nI 1000) (by decide)).1.1
      have m0 := hm2.1
      have f1235 : hFR _ 1235 348 = some 374 := (hm2.2 25 (by decide)).1
      have k374 : hK _ 374 = 52 := (hm2.2 25 (by decide)).2.1
      have n374 : hLN _ 374 = 7 := (hm2.2 25 (by decide)).2.2
      have ej : ∀ x, am_in (0 : Int32) 7 x = x := am_inN (i := 0) (by decide) (by decide)
      rw [q_X12_reads]
      simp only [am_kd, m0, f1235, k374, n374, if_true, bR_s, ej, nI_cl0, am_nar4_0, am_let_e]
      rfl
    refine Ln.go sC sM ?_
    have kC : am_kd h 3 7 (if hFI h 604 3 = 0 then (am_kd h 3 7 (am_nar 4 (1 : Int32) (am_let (sFI h 604 3 (1 : Int32)) fun h1 => am_kd h1 3 7 (bR (hFR h1 600 3) fun r2 => am_kd h1 r2 10 (bV (am_C PG (d + 33) 115 [.ref (r2)] h1) fun h3 => am_kd h3 3 7 (bR (hFR h3 601 3) fun r4 => am_kd h3 r4 6 (bR (hFR h3 518 r4) fun r5 => am_kd h3 r5 5 (bV (am_C PG (d + 33) 43 [.ref (r5)] h3) fun h6 => am_kd h6 3 7 (bI (am_C PG (d + 33) 95 [.ref 3, .int ((0 : Int32))] h6) fun v8 h7 => if v8 = 0 then (am_nar 4 (0 : Int32) (some (some (.int (0 : Int32)), h7))) else (am_kd h7 3 7 (bI (am_C PG (d + 33) 80 [.ref 3, .int ((59 : Int32))] h7) fun v10 h9 => if v10 = 0 then (am_nar 4 (0 : Int32) (some (some (.int (0 : Int32)), h9))) else (am_nar 4 (1 : Int32) (some (some (.int (1 : Int32)), h9)))))))))))))) else (am_kd h 3 7 (bI (am_C PG (d + 33) 78 [.ref 3, .int ((3 : Int32))] h) fun v12 h11 => am_nar 4 v12 (some (some (.int v12), h11))))) = bI (am_C PG (d + 33) 95 [.ref 3, .int (nI 0)] (sFI h2 401 (a + 14) 0)) fun v8 h7 => if v8 = 0 then some (some (.int 0), h7) else am_kd h7 3 7 (bI (am_C PG (d + 33) 80 [.ref 3, .int 59] h7) fun v10 h9 => if v10 = 0 then some (some (.int 0), h9) else some (some (.int 1), h9)) := by
      have w4 : hK (sFI h2 401 (a + 14) 0) 3 = 7 := k3'
      simp only [am_kd, k3, z0, if_true, am_nar4_1, am_let_e, w3, w6, bR_s, w1, x1, bV_s, k3', f6', ka', f518', k14', kb, w4, am_nar4_0, nI_0]
    rw [kC]
    have kM2 : am_kd g 348 13 (bR (hFR g 1231 348) fun r1 => am_kd g r1 50 (am_in (1 : Int32) (hLN g r1) (am_kd g 348 13 (bR (hFR g 1230 348) fun r2 => am_kd g r2 50 (am_in (1 : Int32) (hLN g r2) (if (hAI g r2 (Int32.toNatClampNeg (1 : Int32))) < (hAI g r1 (Int32.toNatClampNeg (1 : Int32))) then (am_kd g 348 13 (bI (am_C PG (d2 + 5) 169 [.ref 348, .int ((3 : Int32))] g) fun v11 h10 => am_nar 4 v11 (some (some (.int v11), h10)))) else (am_kd g 348 13 (bV (am_C PG (d2 + 5) 166 [.ref 348] g) fun h3 => am_kd h3 348 13 (bR (hFR h3 1230 348) fun r4 => am_kd h3 348 13 (am_kd h3 r4 50 (am_in (1 : Int32) (hLN h3 r4) (am_let (sEI h3 r4 (Int32.toNatClampNeg (1 : Int32)) (hFI h3 1233 348)) fun h5 => am_kd h5 348 13 (bI (am_C PG (d2 + 5) 172 [.ref 348] h5) fun v7 h6 => if v7 = 0 then (am_nar 4 (0 : Int32) (some (some (.int (0 : Int32)), h6))) else (am_kd h6 348 13 (bR (hFR h6 1231 348) fun r8 => am_kd h6 348 13 (am_kd h6 r8 50 (am_in (1 : Int32) (hLN h6 r8) (am_let (sEI h6 r8 (Int32.toNatClampNeg (1 : Int32)) (hFI h6 1233 348)) fun h9 => am_nar 4 (1 : Int32) (some (some (.int (1 : Int32)), h9)))))))))))))))))))) = bI (Hd (d2 + 1) 0 1 (sEI (sEI g1 370 1 (nI 1000)) 374 0 0)) fun v7 h6 => if v7 = 0 then some (some (.int 0), h6) else am_kd h6 348 13 (bR (hFR h6 1231 348) fun r8 => am_kd h6 r8 50 (am_in (1 : Int32) (hLN h6 r8) (some (some (.int 1), sEI h6 r8 1 (hFI h6 1233 348))))) := by
      have ga : hAI g 370 1 = nI 1000 := u2
      have gb : hAI g 371 1 = nI 1000 := u3
      have hg := m.1.1
      have m0 := hg.1
      have f1230 : hFR _ 1230 348 = some 370 := (hg.2 21 (by decide)).1
      have k370 : hK _ 370 = 50 := (hg.2 21 (by decide)).2.1
      have n370 : hLN _ 370 = 2 := (hg.2 21 (by decide)).2.2
      have f1231 : hFR _ 1231 348 = some 371 := (hg.2 22 (by decide)).1
      have k371 : hK _ 371 = 50 := (hg.2 22 (by decide)).2.1
      have n371 : hLN _ 371 = 2 := (hg.2 22 (by decide)).2.2
      simp only [am_kd, m0, f1230, k370, n370, f1231, k371, n371, if_true, bR_s, i1, t1, ga, gb, lt, if_false]
      have hg1 := m1.1.1
      have m0 := hg1.1
      have f1230 : hFR _ 1230 348 = some 370 := (hg1.2 21 (by decide)).1
      have k370 : hK _ 370 = 50 := (hg1.2 21 (by decide)).2.1
      have n370 : hLN _ 370 = 2 := (hg1.2 21 (by decide)).2.2
      rw [y1, bV_s]
      simp only [am_kd, m0, f1230, k370, n370, if_true, bR_s, i1, e1233, am_let_e, rd_hK_sEI, kM, am_nar4_0, am_nar4_1]
      refine congrArg (bI _) ?_
      funext v7 h6
      by_cases q0 : v7 = 0
      · simp only [q0, if_true]
      · by_cases q1 : hK h6 348 = 13
        · simp only [q0, q1, if_true, if_false]
        · simp only [q0, q1, if_false]
    rw [kM2]
    rcases expr_0 (n := n) (T := T) ha3 ha30 d (d2 + 1) (nxt n T b) 0 0 (sFI h2 401 (a + 14) 0) (sEI (sEI g1 370 1 (nI 1000)) 374 0 0) S (Or.inl rfl) (by rw [sEI_at, pk_us]) with F | ⟨h3, g3, b3, l3, c3, V, p1, p2, p3, ⟨s1, s2, s3, s4, s5, s6⟩, p5, p6⟩
    · obtain ⟨f, h', g', f0, e1, e2, e3, e4⟩ := F
      have e1 : am_C PG (d + 33) 95 [.ref 3, .int (nI 0)] (sFI h2 401 (a + 14) 0) = _ := e1
      exact Or.inl ⟨f, h', g', f0, by rw [e1, bI_s, if_pos rfl], by rw [e2, bI_s, if_pos rfl], e3, e4⟩
    · have p1 : am_C PG (d + 33) 95 [.ref 3, .int (nI 0)] (sFI h2 401 (a + 14) 0) = _ := p1
      obtain ⟨cx3, mx3, t3, t4, t5, t6⟩ := p3.2.2.1
      have hn : n ≤ 1000 := cx3.ff.2.2.2.2.2.2.2
      have le3 := cx3.le
      have k33 := cx3.1
      rw [p1, bI_s, if_neg (by decide), am_kd_t k33, p2]
      by_cases e : sgn n T b3 = 59
      · right
        obtain ⟨h4, a1, a2, a3⟩ := (r_sign (d := d + 29) cx3 (show (59 : Int32) ≠ 0 by decide)).1 e
        obtain ⟨g4, d1, d3, d4⟩ := m_h59 (d := d2 + 1) mx3 e
        have hm4 := d4.1.1
        have m0 := hm4.1
        have f1231 : hFR _ 1231 348 = some 371 := (hm4.2 22 (by decide)).1
        have k371 : hK _ 371 = 50 := (hm4.2 22 (by decide)).2.1
        have n371 : hLN _ 371 = 2 := (hm4.2 22 (by decide)).2.2
        have e4 : hFI g4 1233 348 = nI (1000 + c3) := by rw [d3.2.2.2.2.2.2.2.2 _ _ (by omega)]; exact t4
        have g4I : hAI g4 = hAI g3 := d3.2.2.2.1
        have h4I : hAI h4 = hAI h3 := a2.2.2.1
        have cpos : 0 < c3 := p3.2.2.2.2.2.2.1
        have bl := p3.2.2.2.1
        have nl := nxt_le (T := T) c.le
        have nl3 := nxt_le (T := T) le3
        obtain ⟨v1, v2, v3, v4, v5, v6, v7, v8, v9⟩ := p3.1
        obtain ⟨w1', w2', w3', w4', w5', w6', w7', w8', w9'⟩ := p3.2.1
        have g3R : ∀ r, r < 372 → hAI g3 r = hAI (sEI g1 370 1 (nI 1000)) r := fun r hr => by
          funext i
          rw [w9' r i (by omega), sEI_ne _ _ _ (by omega)]
        refine ⟨h4, sEI g4 371 1 (nI (1000 + c3)), nxt n T b3, np, ny, nc, ne, nw, ?_, ?_, (p3.1.cs ha3).tr (a2.ct.cs a), (p3.2.1.mz.tr d3.mt.mz).tr (MZ.ei g4 (r := 371) (i := 1) (nI (1000 + c3)) (by decide) (by decide)), a3, d4.ei (r := 371) 1 _ (by decide), by omega, ?_⟩
        · rw [a1, bI_s, if_neg (by decide)]
        · rw [d1, bI_s, if_neg (by decide)]
          simp only [am_kd, m0, f1231, k371, n371, if_true, bR_s, i1, e4]
        · refine PR.law P (fun k z0 z2 z3 => ?_) ?_ (fun k => ?_) (fun r z0 z2 => ?_) (fun r z0 z2 => ?_) (Or.inr ⟨?_, ?_, c3, l3, V, cpos, by omega, ?_, ⟨?_, by omega, ?_⟩, ?_⟩)
          · rw [h4I, v9 _ (by omega), rd_hAI_sFI, q1.2.2.1, rd_hAI_sFI]
          · rw [a2.2.2.2.1, v3, show hAJ (sFI h2 401 (a + 14) 0) = hAJ h2 from rfl, q1.2.2.2.1]
            rfl
          · rw [a2.2.2.2.2.2.2.2.2 _ _ (by omega), v8 _ _ (by omega) (by omega) (by omega), sFI_o _ _ (by omega), q1.cn ha3, sFI_o _ _ (by omega)]
          · rw [sEI_ne _ _ _ (by omega), g4I, g3R r (by omega), sEI_ne _ _ _ (by omega), r1.2.2.2.1]
          · rw [show hAJ (sEI g4 371 1 (nI (1000 + c3))) = hAJ g4 from rfl, d3.2.2.2.2.1, w4', show hAJ (sEI (sEI g1 370 1 (nI 1000)) 374 0 0) = hAJ g1 from rfl, r1.2.2.2.2.1]
          · rw [a2.2.2.2.2.2.2.2.2 _ _ (by omega), v8 _ _ (by omega) (by omega) (by omega), sFI_o _ _ (by omega), q1.2.2.2.2.2.2.2.2 _ _ (by omega) (by omega)]
            exact sFI_at _ _ _ _
          · rw [sEI_ne _ _ _ (by decide), g4I, g3R 370 (by decide), sEI_at, pk_us]
          · rw [sEI_at, pk_us]
          · rw [a2.2.2.2.2.2.2.2.2 _ _ (by omega)]
            exact t3
          · intro f b o k s
            obtain ⟨F', f1, f2, f3⟩ := p5 (hAI h4 (a + 15)) (fun i hi => by rw [h4I]) b o k s f 0 f (Nat.zero_le _) rfl
            unfold lwv
            rw [f1]
            exact f3
          · intro b o k s vs σ e1 e2 e3 e4
            subst e1
            subst e2
            subst e3
            subst e4
            have cc : ∀ i, hAI (sEI g4 371 1 (nI (1000 + c3))) 372 (1000 + i) = hAI g3 372 (1000 + i) := fun i => by rw [sEI_ne _ _ _ (by decide), g4I]
            obtain ⟨rr1, rr3, rr4, rr5, rr7, rr8⟩ := mop_r σ 0
            obtain ⟨ok, τ', k1', k2'⟩ := p6 (fun i => hAI (sEI g4 371 1 (nI (1000 + c3))) 372 (1000 + i)) (fun i _ => cc i) vs σ (mop σ 0) rfl ⟨fun i h1 h2 => by omega, rr1, rr3, rr4, rr5, rr7⟩
            refine ⟨fun i hi => ok i (Nat.zero_le _) hi, ?_⟩
            unfold mwv
            rw [k1']
            show mte τ' 0 0 0 = _
            rw [mte_0]
            exact k2'.2.2
      · left
        have kr := (r_sign (d := d + 29) cx3 (show (59 : Int32) ≠ 0 by decide)).2 e
        have km := m_hno (d := d2 + 1) (w := 0) mx3 (by decide) s1 s2 s3 s4 s5 s6 (Or.inr rfl) (Or.inl e)
        have kr : am_C PG (d + 33) 80 [.ref 3, .int 59] h3 = _ := kr
        refine ⟨_, h3, g3, fz_ne (k := 1) (by decide) (by decide) (show b3 ≤ 1000 by omega), ?_, ?_, (p3.1.cs ha3).1, p3.2.1.mz⟩
        · rw [kr, bI_s]
          rfl
        · rw [km, bI_s]
          rfl
  · have lt : (nI 1000 < nI (1000 + mm)) = True := eq_true (nI_lt (by omega) (by omega))
    have z0 : (hFI h 604 3 = 0) = False := eq_false (by rw [u1]; decide)
    have hm := m.1.1
    have m0 := hm.1
    have f1230 : hFR _ 1230 348 = some 370 := (hm.2 21 (by decide)).1
    have k370 : hK _ 370 = 50 := (hm.2 21 (by decide)).2.1
    have n370 : hLN _ 370 = 2 := (hm.2 21 (by decide)).2.2
    have f1231 : hFR _ 1231 348 = some 371 := (hm.2 22 (by decide)).1
    have k371 : hK _ 371 = 50 := (hm.2 22 (by decide)).2.1
    have n371 : hLN _ 371 = 2 := (hm.2 22 (by decide)).2.2
    have f1235 : hFR _ 1235 348 = some 374 := (hm.2 25 (by decide)).1
    have k374 : hK _ 374 = 52 := (hm.2 25 (by decide)).2.1
    have n374 : hLN _ 374 = 7 := (hm.2 25 (by decide)).2.2
    simp only [am_kd, k3, m0, f1230, k370, n370, f1231, k371, n371, f1235, k374, n374, if_true, bR_s, i1, t1, u2, u5, lt, z0, if_false]
    exact Ln.no (fun _ => rfl) (fun _ => rfl) (st_fail (d := d + 32) (d2 := d2 + 4) c m (k := 3) rfl (by decide) (by decide))
