/-! The reader: sums, tests, expressions of a law, both sides. -/
theorem SemC.le {cs0 : Nat → Int32} {l l' m m' : Nat} {V : Int32 → Int32 → Int32 → Int32 → Int32} (h : m' ≤ m) (s : SemC cs0 l l' m V) : SemC cs0 l l' m' V := fun cs e b o k s' f t F ht => s cs e b o k s' f t F (by omega)
theorem PartC.prod {a n w K : Nat} {T : Nat → Nat} (ha : 3 < a) (ha2 : a ≤ 30) (hw : w ≤ 5) (Sub : SubC a n T 99 (K + 4) w (4 * w + 4) (RqO w) (fun O => MO O w) (PoPart w) (fun g _ g' => hAI g' 374 w = hAI g 374 w)) : SubC a n T 98 (K + 5) w (4 * w + 3) (RqO w) (fun O => PrProd O w) (PoProd w) (fun g b' g' => hAI g' 374 w = hAI g 374 w ∧ sgn n T b' ≠ 42) := by
  intro d d2 b l c h g S R
  have cx := S.1
  have k3 := cx.1
  have z1 : ((1 : Int32) = 0) = False := eq_false (by decide)
  have kC : am_C PG (d + K + 5) 98 [.ref 3, .int (nI w)] h = bI (am_C PG (d + K + 4) 99 [.ref 3, .int (nI w)] h) (fun v h1 => if v = 0 then some (some (.int 0), h1) else am_R PG (d + K + 5) 98 12 [some (.ref 3), some (.int (nI w)), some (.int (0))] [] h1) := by
    rw [q_X6_product]
    simp only [am_kd, k3, if_true, am_nar4_0]
  show Out a n T w b l c h g (am_C PG (d + K + 5) 98 [.ref 3, .int (nI w)] h) (Hd d2 w 1 g) d2 (4 * w + 3) (PrProd (hAI g 373) w) (PoProd w) _
  rw [kC]
  rcases Sub d d2 b l c h g S R with F | ⟨h', g', b', l', c', V, p1, p2, p3, p4, p5, p6⟩
  · obtain ⟨f, h', g', f0, q1, q2, q3, q4⟩ := F
    have q1 : am_C PG (d + K + 4) 99 [.ref 3, .int (nI w)] h = _ := q1
    exact Or.inl ⟨f, h', g', f0, by rw [q1, bI_s, if_pos rfl], q2, q3, q4⟩
  · have p1 : am_C PG (d + K + 4) 99 [.ref 3, .int (nI w)] h = _ := p1
    rw [p1, bI_s, if_neg (by decide), p2]
    have e := prod_loop (d := d) (d2 := d2) ha ha2 hw Sub S.2.2.2.2.1 R n 0 b' l' c' h' g' V (by omega) (by omega) p3 p4 (p5.le (by omega)) (SemM.prod (O := hAI g 373) R (by rw [drp_opn R]; exact p6))
    rw [nI_0] at e
    exact e
theorem sum_loop {a n w K d d2 b0 l0 c0 : Nat} {T : Nat → Nat} {h0 g0 : AH} (ha : 3 < a) (ha2 : a ≤ 30) (hw : w ≤ 5) (Sub : SubC a n T 98 (K + 5) w (4 * w + 3) (RqO w) (fun O => PrProd O w) (PoProd w) (fun g b' g' => hAI g' 374 w = hAI g 374 w ∧ sgn n T b' ≠ 42)) (hl0 : l0 ≤ b0) (hO : Opn (hAI g0 373) w) : ∀ (j i b l c : Nat) (h g : AH) (V : Int32 → Int32 → Int32 → Int32 → Int32), n ≤ b + j → i ≤ b → PQ a n T w b0 l0 c0 h0 g0 b l c h g → (hAI g 374 w = hAI g0 374 w ∧ sgn n T b ≠ 42) → SemC (hAI h (a + 15)) l0 l (4 * w + 2) V → SemM (fun i => hAI g 372 (1000 + i)) c0 c w w (PrSum (hAI g0 373) w) (PoSum w) V → Out a n T w b0 l0 c0 h0 g0 (am_R PG (d + K + 6) 97 12 [some (.ref 3), some (.int (nI w)), some (.int (nI i)), none] [] h) (Hd d2 w 0 g) d2 (4 * w + 2) (PrSum (hAI g0 373) w) (PoSum w) ((fun g b' g' => hAI g' 374 w = hAI g 374 w ∧ sgn n T b' ≠ 42 ∧ sgn n T b' ≠ 43 ∧ sgn n T b' ≠ 45) g0) := by
  intro j
  induction j with
  | zero =>
    intro i b l c h g V hj hi p E sc sm
    have S := p.2.2.1
    obtain ⟨cx, mx, e1, e2, hl, hc⟩ := S
    have hn : n ≤ 1000 := cx.ff.2.2.2.2.2.2.2
    obtain ⟨k3, k1, ka, k14, k17, kr2, kr4, kr5, kr6, kr7, kr8, kr9, kr10, kr11, kr12, kr13, kr18, kr21, kr22, kr24, nr2, nr4, nr5, nr6, nr7, nr8, nr9, nr10, nr11, nr12, nr13, nr18, nr21, nr22, nr24⟩ := cx.kl
    obtain ⟨f600, f601, f500, f506, f508, f509, f510, f511, f512, f513, f514, f515, f516, f517, f518, f519, f701, f704, f705, f707⟩ := cx.fr
    have es := cx.ff.2.2.2.2.2.2.1
    have ew := cx.wd
    have z1 : ((1 : Int32) = 0) = False := eq_false (by decide)
    have ym10 : ((-10 : Int32) = 0) = False := eq_false (by decide)
    have ym11 : ((-11 : Int32) = 0) = False := eq_false (by decide)
    have t43 : ¬ sgn n T b = 43 := fun z => by have := sgn_b (by decide) z; omega
    have t45 : ¬ sgn n T b = 45 := fun z => by have := sgn_b (by decide) z; omega
    refine Or.inr ⟨h, g, b, l, c, V, ?_, rfl, p, ⟨E.1, E.2, t43, t45⟩, sc, sm⟩
    rw [q_X6_sum_12]
    by_cases q : i < 1000
    · have lt : (nI i < (1000 : Int32)) = True := eq_true (nI_lt (b := 1000) q (by decide))
      simp only [am_kd, k3, k1, f600, lt, if_true, bR_s, es, eq_false t43, eq_false t45, if_false, am_nar4_1]
    · have lt : (nI i < (1000 : Int32)) = False := eq_false (nI_nlt (b := 1000) (by omega) (by have := cx.le; omega))
      simp only [lt, if_false, am_nar4_1]
  | succ j ih =>
    intro i b l c h g V hj hi p E sc sm
    have S := p.2.2.1
    obtain ⟨cx, mx, e1, e2, hl, hc⟩ := S
    have hn : n ≤ 1000 := cx.ff.2.2.2.2.2.2.2
    obtain ⟨k3, k1, ka, k14, k17, kr2, kr4, kr5, kr6, kr7, kr8, kr9, kr10, kr11, kr12, kr13, kr18, kr21, kr22, kr24, nr2, nr4, nr5, nr6, nr7, nr8, nr9, nr10, nr11, nr12, nr13, nr18, nr21, nr22, nr24⟩ := cx.kl
    obtain ⟨f600, f601, f500, f506, f508, f509, f510, f511, f512, f513, f514, f515, f516, f517, f518, f519, f701, f704, f705, f707⟩ := cx.fr
    have es := cx.ff.2.2.2.2.2.2.1
    have ew := cx.wd
    have z1 : ((1 : Int32) = 0) = False := eq_false (by decide)
    have ym10 : ((-10 : Int32) = 0) = False := eq_false (by decide)
    have ym11 : ((-11 : Int32) = 0) = False := eq_false (by decide)
    by_cases t43 : sgn n T b = 43
    · have hb := sgn_b (by decide) t43
      have lt : (nI i < (1000 : Int32)) = True := eq_true (nI_lt (b := 1000) (by omega) (by decide))
      obtain ⟨h1, a1, a2, a3⟩ := r_adv (d := d + K + 2) cx
      obtain ⟨g1, b1, b2, b3⟩ := m_h43 (d := d2) (w := w) mx e2 (by omega) t43
      have o1 : ∀ i, i ≤ w → hAI g1 373 i = hAI g0 373 i := fun i hi => by rw [b2.2.2.2.1, rd_hAI_sFI, sEI_ne _ _ _ (by decide)]; exact p.2.2.2.2.2.2.2.2.2.2.1 i hi
      have r1 : Opn (hAI g1 373) w := by
        rcases hO with z | z
        · exact Or.inl z
        · exact Or.inr (by rw [o1 w (Nat.le_refl _)]; exact z)
      rw [b1]
      have kC : am_R PG (d + K + 6) 97 12 [some (.ref 3), some (.int (nI w)), some (.int (nI i)), none] [] h = bI (am_C PG (d + K + 5) 98 [.ref 3, .int (nI w)] h1) (fun v h2 => if v = 0 then some (some (.int 0), h2) else am_kd h2 3 7 (bR (hFR h2 601 3) fun r5 => am_kd h2 r5 6 (bR (hFR h2 518 r5) fun r6 => am_kd h2 r6 5 (bV (am_C PG (d + K + 5) 44 [.ref r6, .int (-10)] h2) fun h7 => am_R PG (d + K + 6) 97 12 [some (.ref 3), some (.int (nI w)), some (.int (nI (i + 1))), none] [] h7)))) := by
        have k3' : hK h1 3 = 7 := by rw [a2.1]; exact k3
        rw [q_X6_sum_12]
        simp only [am_kd, k3, k1, f600, lt, if_true, bR_s, es, eq_true t43, ym10, if_false, a1, bV_s, k3', nI_1, am_nar4_0]
      rw [kC]
      rcases op_step (d := d) (d2 := d2) ha ha2 Sub p hl0 hb (-10) 20 a2 a3 (ML.put g c 20) (by exact sFI_at _ _ _ _) (fun i hi => by rw [rd_hAI_sFI, sEI_at, pk_un (by omega)]) (fun i hi => by rw [rd_hAI_sFI, sEI_ne _ _ _ (by decide)]) (fun i hi => by rw [rd_hAI_sFI, sEI_ne _ _ _ (by decide)]) (by rw [rd_hAI_sFI, sEI_at, pk_us]) b2 b3 r1 with F | ⟨h2, g2, b2', l2, c2, V2, u1, u2, u3, u4, u5, u6, u7, u8, u9, u10, u11, u12, u13, u14, u15, u16, u17⟩
      · obtain ⟨f, h', g', f0, q1, q2, q3, q4⟩ := F
        have q1 : am_C PG (d + K + 5) 98 [.ref 3, .int (nI w)] h1 = _ := q1
        exact Or.inl ⟨f, h', g', f0, by rw [q1, bI_s, if_pos rfl], q2, q3, q4⟩
      · have u1 : am_C PG (d + K + 5) 98 [.ref 3, .int (nI w)] h1 = _ := u1
        rw [u1, bI_s, u2]
        obtain ⟨k3, k1, ka, k14, k17, kr2, kr4, kr5, kr6, kr7, kr8, kr9, kr10, kr11, kr12, kr13, kr18, kr21, kr22, kr24, nr2, nr4, nr5, nr6, nr7, nr8, nr9, nr10, nr11, nr12, nr13, nr18, nr21, nr22, nr24⟩ := u3.kl
        obtain ⟨f600, f601, f500, f506, f508, f509, f510, f511, f512, f513, f514, f515, f516, f517, f518, f519, f701, f704, f705, f707⟩ := u3.fr
        have ka2 := c_ladd (d := d + K + 4) u3 u4 u5 (-10)
        have ka2 : am_C PG (d + K + 5) 44 [.ref (a + 14), .int (-10)] h2 = some (none, sFI (sEI h2 (a + 15) l2 (-10)) 401 (a + 14) (nI (l2 + 1))) := ka2
        simp only [am_kd, am_let_e, bR_s, am_nar4_0, am_nar4_1, if_true, if_false, z1, rd_hK_sEI, rd_hFR_sEI, rd_hLN_sEI, rd_hFI_sEI, rd_hFJ_sEI, rd_hK_sEJ, rd_hFR_sEJ, rd_hLN_sEJ, rd_hFI_sEJ, rd_hAI_sEJ, rd_hK_sFI, rd_hFR_sFI, rd_hLN_sFI, rd_hAI_sFI, k3, k1, ka, k14, k17, kr2, kr4, kr5, kr6, kr7, kr8, kr9, kr10, kr11, kr12, kr13, kr18, kr21, kr22, kr24, nr2, nr4, nr5, nr6, nr7, nr8, nr9, nr10, nr11, nr12, nr13, nr18, nr21, nr22, nr24, f600, f601, f500, f506, f508, f509, f510, f511, f512, f513, f514, f515, f516, f517, f518, f519, f701, f704, f705, f707, ka2, bV_s]
        have sc2 := SemC.bin (c := -10) u10 (by decide) u11 (sc.mono u9) u12
        have sm2 := (SemM.add (O := hAI g0 373) (cs0 := fun i => hAI g2 372 (1000 + i)) (x := 20) (by omega) u14 (by decide) u15 (sm.mono u13) (u16.pre (fun τ z => ⟨MO.cg u17 z.1, z.2⟩))).val (fun b o k s => if_neg (by decide))
        refine ih (i + 1) b2' (l2 + 1) c2 _ g2 _ (by omega) (by omega) u6 ?_ (sc2.val (fun b o k s => jn_10 _ _)) sm2
        exact ⟨by rw [u8.1, b2.2.2.2.1, rd_hAI_sFI, sEI_ne _ _ _ (by decide)]; exact E.1, u8.2⟩
    by_cases t45 : sgn n T b = 45
    · have hb := sgn_b (by decide) t45
      have lt : (nI i < (1000 : Int32)) = True := eq_true (nI_lt (b := 1000) (by omega) (by decide))
      obtain ⟨h1, a1, a2, a3⟩ := r_adv (d := d + K + 2) cx
      obtain ⟨g1, b1, b2, b3⟩ := m_h45 (d := d2) (w := w) mx e2 (by omega) t45
      have o1 : ∀ i, i ≤ w → hAI g1 373 i = hAI g0 373 i := fun i hi => by rw [b2.2.2.2.1, rd_hAI_sFI, sEI_ne _ _ _ (by decide)]; exact p.2.2.2.2.2.2.2.2.2.2.1 i hi
      have r1 : Opn (hAI g1 373) w := by
        rcases hO with z | z
        · exact Or.inl z
        · exact Or.inr (by rw [o1 w (Nat.le_refl _)]; exact z)
      rw [b1]
      have kC : am_R PG (d + K + 6) 97 12 [some (.ref 3), some (.int (nI w)), some (.int (nI i)), none] [] h = bI (am_C PG (d + K + 5) 98 [.ref 3, .int (nI w)] h1) (fun v h2 => if v = 0 then some (some (.int 0), h2) else am_kd h2 3 7 (bR (hFR h2 601 3) fun r5 => am_kd h2 r5 6 (bR (hFR h2 518 r5) fun r6 => am_kd h2 r6 5 (bV (am_C PG (d + K + 5) 44 [.ref r6, .int (-11)] h2) fun h7 => am_R PG (d + K + 6) 97 12 [some (.ref 3), some (.int (nI w)), some (.int (nI (i + 1))), none] [] h7)))) := by
        have k3' : hK h1 3 = 7 := by rw [a2.1]; exact k3
        rw [q_X6_sum_12]
        simp only [am_kd, k3, k1, f600, lt, if_true, bR_s, es, eq_false t43, eq_true t45, ym11, if_false, a1, bV_s, k3', nI_1, am_nar4_0]
      rw [kC]
      rcases op_step (d := d) (d2 := d2) ha ha2 Sub p hl0 hb (-11) 21 a2 a3 (ML.put g c 21) (by exact sFI_at _ _ _ _) (fun i hi => by rw [rd_hAI_sFI, sEI_at, pk_un (by omega)]) (fun i hi => by rw [rd_hAI_sFI, sEI_ne _ _ _ (by decide)]) (fun i hi => by rw [rd_hAI_sFI, sEI_ne _ _ _ (by decide)]) (by rw [rd_hAI_sFI, sEI_at, pk_us]) b2 b3 r1 with F | ⟨h2, g2, b2', l2, c2, V2, u1, u2, u3, u4, u5, u6, u7, u8, u9, u10, u11, u12, u13, u14, u15, u16, u17⟩
      · obtain ⟨f, h', g', f0, q1, q2, q3, q4⟩ := F
        have q1 : am_C PG (d + K + 5) 98 [.ref 3, .int (nI w)] h1 = _ := q1
        exact Or.inl ⟨f, h', g', f0, by rw [q1, bI_s, if_pos rfl], q2, q3, q4⟩
      · have u1 : am_C PG (d + K + 5) 98 [.ref 3, .int (nI w)] h1 = _ := u1
        rw [u1, bI_s, u2]
        obtain ⟨k3, k1, ka, k14, k17, kr2, kr4, kr5, kr6, kr7, kr8, kr9, kr10, kr11, kr12, kr13, kr18, kr21, kr22, kr24, nr2, nr4, nr5, nr6, nr7, nr8, nr9, nr10, nr11, nr12, nr13, nr18, nr21, nr22, nr24⟩ := u3.kl
        obtain ⟨f600, f601, f500, f506, f508, f509, f510, f511, f512, f513, f514, f515, f516, f517, f518, f519, f701, f704, f705, f707⟩ := u3.fr
        have ka2 := c_ladd (d := d + K + 4) u3 u4 u5 (-11)
        have ka2 : am_C PG (d + K + 5) 44 [.ref (a + 14), .int (-11)] h2 = some (none, sFI (sEI h2 (a + 15) l2 (-11)) 401 (a + 14) (nI (l2 + 1))) := ka2
        simp only [am_kd, am_let_e, bR_s, am_nar4_0, am_nar4_1, if_true, if_false, z1, rd_hK_sEI, rd_hFR_sEI, rd_hLN_sEI, rd_hFI_sEI, rd_hFJ_sEI, rd_hK_sEJ, rd_hFR_sEJ, rd_hLN_sEJ, rd_hFI_sEJ, rd_hAI_sEJ, rd_hK_sFI, rd_hFR_sFI, rd_hLN_sFI, rd_hAI_sFI, k3, k1, ka, k14, k17, kr2, kr4, kr5, kr6, kr7, kr8, kr9, kr10, kr11, kr12, kr13, kr18, kr21, kr22, kr24, nr2, nr4, nr5, nr6, nr7, nr8, nr9, nr10, nr11, nr12, nr13, nr18, nr21, nr22, nr24, f600, f601, f500, f506, f508, f509, f510, f511, f512, f513, f514, f515, f516, f517, f518, f519, f701, f704, f705, f707, ka2, bV_s]
        have sc2 := SemC.bin (c := -11) u10 (by decide) u11 (sc.mono u9) u12
        have sm2 := (SemM.add (O := hAI g0 373) (cs0 := fun i => hAI g2 372 (1000 + i)) (x := 21) (by omega) u14 (by decide) u15 (sm.mono u13) (u16.pre (fun τ z => ⟨MO.cg u17 z.1, z.2⟩))).val (fun b o k s => if_pos rfl)
        refine ih (i + 1) b2' (l2 + 1) c2 _ g2 _ (by omega) (by omega) u6 ?_ (sc2.val (fun b o k s => jn_11 _ _)) sm2
        exact ⟨by rw [u8.1, b2.2.2.2.1, rd_hAI_sFI, sEI_ne _ _ _ (by decide)]; exact E.1, u8.2⟩
    refine Or.inr ⟨h, g, b, l, c, V, ?_, rfl, p, ⟨E.1, E.2, t43, t45⟩, sc, sm⟩
    rw [q_X6_sum_12]
    by_cases q : i < 1000
    · have lt : (nI i < (1000 : Int32)) = True := eq_true (nI_lt (b := 1000) q (by decide))
      simp only [am_kd, k3, k1, f600, lt, if_true, bR_s, es, eq_false t43, eq_false t45, if_false, am_nar4_1]
    · have lt : (nI i < (1000 : Int32)) = False := eq_false (nI_nlt (b := 1000) (by omega) (by have := cx.le; omega))
      simp only [lt, if_false, am_nar4_1]
theorem sum_of {a n w K : Nat} {T : Nat → Nat} (ha : 3 < a) (ha2 : a ≤ 30) (hw : w ≤ 5) (Sub : SubC a n T 98 (K + 5) w (4 * w + 3) (RqO w) (fun O => PrProd O w) (PoProd w) (fun g b' g' => hAI g' 374 w = hAI g 374 w ∧ sgn n T b' ≠ 42)) : SubC a n T 97 (K + 6) w (4 * w + 2) (RqO w) (fun O => PrSum O w) (PoSum w) (fun g b' g' => hAI g' 374 w = hAI g 374 w ∧ sgn n T b' ≠ 42 ∧ sgn n T b' ≠ 43 ∧ sgn n T b' ≠ 45) := by
  intro d d2 b l c h g S R
  have cx := S.1
  have k3 := cx.1
  have z1 : ((1 : Int32) = 0) = False := eq_false (by decide)
  have kC : am_C PG (d + K + 6) 97 [.ref 3, .int (nI w)] h = bI (am_C PG (d + K + 5) 98 [.ref 3, .int (nI w)] h) (fun v h1 => if v = 0 then some (some (.int 0), h1) else am_R PG (d + K + 6) 97 12 [some (.ref 3), some (.int (nI w)), some (.int (0)), none] [] h1) := by
    rw [q_X6_sum]
    simp only [am_kd, k3, if_true, am_nar4_0]
  show Out a n T w b l c h g (am_C PG (d + K + 6) 97 [.ref 3, .int (nI w)] h) (Hd d2 w 1 g) d2 (4 * w + 2) (PrSum (hAI g 373) w) (PoSum w) _
  rw [kC]
  rcases Sub d d2 b l c h g S R with F | ⟨h', g', b', l', c', V, p1, p2, p3, p4, p5, p6⟩
  · obtain ⟨f, h', g', f0, q1, q2, q3, q4⟩ := F
    have q1 : am_C PG (d + K + 5) 98 [.ref 3, .int (nI w)] h = _ := q1
    exact Or.inl ⟨f, h', g', f0, by rw [q1, bI_s, if_pos rfl], q2, q3, q4⟩
  · have p1 : am_C PG (d + K + 5) 98 [.ref 3, .int (nI w)] h = _ := p1
    rw [p1, bI_s, if_neg (by decide), p2]
    have e := sum_loop (d := d) (d2 := d2) ha ha2 hw Sub S.2.2.2.2.1 R n 0 b' l' c' h' g' V (by omega) (by omega) p3 p4 (p5.le (by omega)) (SemM.sum p6)
    rw [nI_0] at e
    exact e
def RqT (w : Nat) (g : AH) : Prop := Opn (hAI g 373) w ∧ hAI g 374 w = 0
/-- behind a test -/
def ExT (n : Nat) (T : Nat → Nat) (w b' : Nat) (g' : AH) : Prop := sgn n T b' ≠ 42 ∧ sgn n T b' ≠ 43 ∧ sgn n T b' ≠ 45 ∧ ((sgn n T b' ≠ 60 ∧ sgn n T b' ≠ 61) ∨ hAI g' 374 w ≠ 0)
theorem test_of {a n w K : Nat} {T : Nat → Nat} (ha : 3 < a) (ha2 : a ≤ 30) (hw : w ≤ 5) (Sub : SubC a n T 97 (K + 6) w (4 * w + 2) (RqO w) (fun O => PrSum O w) (PoSum w) (fun g b' g' => hAI g' 374 w = hAI g 374 w ∧ sgn n T b' ≠ 42 ∧ sgn n T b' ≠ 43 ∧ sgn n T b' ≠ 45)) : SubC a n T 96 (K + 7) w (4 * w + 1) (RqT w) (fun O => PrTest O w) (PoTest w) (fun _ b' g' => ExT n T w b' g') := by
  intro d d2 b l c h g S R
  have cx := S.1
  have k3 := cx.1
  have z1 : ((1 : Int32) = 0) = False := eq_false (by decide)
  have z8 : ((-8 : Int32) = 0) = False := eq_false (by decide)
  have z9 : ((-9 : Int32) = 0) = False := eq_false (by decide)
  show Out a n T w b l c h g (am_C PG (d + K + 7) 96 [.ref 3, .int (nI w)] h) (Hd d2 w 1 g) d2 (4 * w + 1) (PrTest (hAI g 373) w) (PoTest w) _
  rw [q_X6_test]
  simp only [am_kd, k3, if_true]
  rcases Sub d d2 b l c h g S R.1 with F | ⟨h', g', b', l', c', V, p1, p2, p3, p4, p5, p6⟩
  · obtain ⟨f, h', g', f0, q1, q2, q3, q4⟩ := F
    have q1 : am_C PG (d + K + 6) 97 [.ref 3, .int (nI w)] h = _ := q1
    exact Or.inl ⟨f, h', g', f0, by rw [q1, bI_s, if_pos rfl, am_nar4_0], q2, q3, q4⟩
  · have p1 : am_C PG (d + K + 6) 97 [.ref 3, .int (nI w)] h = _ := p1
    rw [p1, bI_s, if_neg (by decide), p2]
    obtain ⟨cx2, mx2, e1, e2, hl, hc⟩ := p3.2.2.1
    have hn : n ≤ 1000 := cx2.ff.2.2.2.2.2.2.2
    obtain ⟨k3, k1, ka, k14, k17, kr2, kr4, kr5, kr6, kr7, kr8, kr9, kr10, kr11, kr12, kr13, kr18, kr21, kr22, kr24, nr2, nr4, nr5, nr6, nr7, nr8, nr9, nr10, nr11, nr12, nr13, nr18, nr21, nr22, nr24⟩ := cx2.kl
    obtain ⟨f600, f601, f500, f506, f508, f509, f510, f511, f512, f513, f514, f515, f516, f517, f518, f519, f701, f704, f705, f707⟩ := cx2.fr
    have es := cx2.ff.2.2.2.2.2.2.1
    have c0 : hAI g' 374 w = 0 := p4.1.trans R.2
    simp only [am_kd, k3, k1, f600, if_true, bR_s, es]
    by_cases t60 : sgn n T b' = 60
    · have hb := sgn_b (by decide) t60
      obtain ⟨h1, a1, a2, a3⟩ := r_adv (d := d + K + 3) cx2
      obtain ⟨g1, b1, b2, b3⟩ := m_h60 (d := d2) (w := w) mx2 e2 (by omega) (by omega) t60 c0
      have o1 : ∀ i, i ≤ w → hAI g1 373 i = hAI g 373 i := fun i hi => by rw [b2.2.2.2.1, sEI_ne _ _ _ (by decide), rd_hAI_sFI, sEI_ne _ _ _ (by decide)]; exact p3.2.2.2.2.2.2.2.2.2.2.1 i hi
      have r1 : Opn (hAI g1 373) w := by
        rcases R.1 with z | z
        · exact Or.inl z
        · exact Or.inr (by rw [o1 w (Nat.le_refl _)]; exact z)
      have r2 : hAI g1 374 w = 1 := by rw [b2.2.2.2.1, sEI_at, pk_us]
      have k3' : hK h1 3 = 7 := by rw [a2.1]; exact k3
      rw [b1]
      simp only [eq_true t60, if_true, z8, z9, if_false, a1, bV_s, k3']
      rcases op_step (d := d) (d2 := d2) ha ha2 Sub p3 S.2.2.2.2.1 hb (-8) 24 a2 a3 ((ML.put g' c' 24).tr (ML.op _ w 1 (Or.inr rfl))) (by rw [rd_hFI_sEI]; exact sFI_at _ _ _ _) (fun i hi => by rw [sEI_ne _ _ _ (by decide), rd_hAI_sFI, sEI_at, pk_un (by omega)]) (fun i hi => by rw [sEI_ne _ _ _ (by decide), rd_hAI_sFI, sEI_ne _ _ _ (by decide)]) (fun i hi => by rw [sEI_at, pk_un (by omega), rd_hAI_sFI, sEI_ne _ _ _ (by decide)]) (by rw [sEI_ne _ _ _ (by decide), rd_hAI_sFI, sEI_at, pk_us]) b2 b3 r1 with F | ⟨h2, g2, b2', l2, c2, V2, u1, u2, u3, u4, u5, u6, u7, u8, u9, u10, u11, u12, u13, u14, u15, u16, u17⟩
      · obtain ⟨f, h', g', f0, q1, q2, q3, q4⟩ := F
        have q1 : am_C PG (d + K + 6) 97 [.ref 3, .int (nI w)] h1 = _ := q1
        exact Or.inl ⟨f, h', g', f0, by rw [q1, bI_s, if_pos rfl, am_nar4_0], q2, q3, q4⟩
      · have u1 : am_C PG (d + K + 6) 97 [.ref 3, .int (nI w)] h1 = _ := u1
        rw [u1, bI_s, u2]
        obtain ⟨k3, k1, ka, k14, k17, kr2, kr4, kr5, kr6, kr7, kr8, kr9, kr10, kr11, kr12, kr13, kr18, kr21, kr22, kr24, nr2, nr4, nr5, nr6, nr7, nr8, nr9, nr10, nr11, nr12, nr13, nr18, nr21, nr22, nr24⟩ := u3.kl
        obtain ⟨f600, f601, f500, f506, f508, f509, f510, f511, f512, f513, f514, f515, f516, f517, f518, f519, f701, f704, f705, f707⟩ := u3.fr
        have ka2 : am_C PG (d + K + 6) 44 [.ref (a + 14), .int (-8)] h2 = some (none, sFI (sEI h2 (a + 15) l2 (-8)) 401 (a + 14) (nI (l2 + 1))) := c_ladd (d := d + K + 5) u3 u4 u5 (-8)
        simp only [am_kd, am_let_e, bR_s, am_nar4_0, am_nar4_1, if_true, if_false, z1, rd_hK_sEI, rd_hFR_sEI, rd_hLN_sEI, rd_hFI_sEI, rd_hFJ_sEI, rd_hK_sEJ, rd_hFR_sEJ, rd_hLN_sEJ, rd_hFI_sEJ, rd_hAI_sEJ, rd_hK_sFI, rd_hFR_sFI, rd_hLN_sFI, rd_hAI_sFI, k3, k1, ka, k14, k17, kr2, kr4, kr5, kr6, kr7, kr8, kr9, kr10, kr11, kr12, kr13, kr18, kr21, kr22, kr24, nr2, nr4, nr5, nr6, nr7, nr8, nr9, nr10, nr11, nr12, nr13, nr18, nr21, nr22, nr24, f600, f601, f500, f506, f508, f509, f510, f511, f512, f513, f514, f515, f516, f517, f518, f519, f701, f704, f705, f707, ka2, bV_s]
        have sc2 := SemC.bin (c := -8) u10 (by decide) u11 ((p5.le (m' := 4 * w + 1) (by omega)).mono u9) u12
        have sm2 := (SemM.cmp (O := hAI g 373) (cs0 := fun i => hAI g2 372 (1000 + i)) (x := 24) (by omega) u14 (by decide) u15 (p6.mono u13) (u16.pre (fun τ z => ⟨MO.cg u17 z.1, z.2⟩))).val (fun b o k s => if_pos rfl)
        exact Or.inr ⟨_, g2, b2', l2 + 1, c2, _, rfl, rfl, u6, ⟨u8.2.1, u8.2.2.1, u8.2.2.2, Or.inr (by rw [u8.1, r2]; decide)⟩, sc2.val (fun b o k s => jn_8 _ _), sm2⟩
    by_cases t61 : sgn n T b' = 61
    · have hb := sgn_b (by decide) t61
      obtain ⟨h1, a1, a2, a3⟩ := r_adv (d := d + K + 3) cx2
      obtain ⟨g1, b1, b2, b3⟩ := m_h61 (d := d2) (w := w) mx2 e2 (by omega) (by omega) t61 c0
      have o1 : ∀ i, i ≤ w → hAI g1 373 i = hAI g 373 i := fun i hi => by rw [b2.2.2.2.1, sEI_ne _ _ _ (by decide), rd_hAI_sFI, sEI_ne _ _ _ (by decide)]; exact p3.2.2.2.2.2.2.2.2.2.2.1 i hi
      have r1 : Opn (hAI g1 373) w := by
        rcases R.1 with z | z
        · exact Or.inl z
        · exact Or.inr (by rw [o1 w (Nat.le_refl _)]; exact z)
      have r2 : hAI g1 374 w = 1 := by rw [b2.2.2.2.1, sEI_at, pk_us]
      have k3' : hK h1 3 = 7 := by rw [a2.1]; exact k3
      rw [b1]
      simp only [eq_true t61, eq_false t60, if_true, z8, z9, if_false, a1, bV_s, k3']
      rcases op_step (d := d) (d2 := d2) ha ha2 Sub p3 S.2.2.2.2.1 hb (-9) 25 a2 a3 ((ML.put g' c' 25).tr (ML.op _ w 1 (Or.inr rfl))) (by rw [rd_hFI_sEI]; exact sFI_at _ _ _ _) (fun i hi => by rw [sEI_ne _ _ _ (by decide), rd_hAI_sFI, sEI_at, pk_un (by omega)]) (fun i hi => by rw [sEI_ne _ _ _ (by decide), rd_hAI_sFI, sEI_ne _ _ _ (by decide)]) (fun i hi => by rw [sEI_at, pk_un (by omega), rd_hAI_sFI, sEI_ne _ _ _ (by decide)]) (by rw [sEI_ne _ _ _ (by decide), rd_hAI_sFI, sEI_at, pk_us]) b2 b3 r1 with F | ⟨h2, g2, b2', l2, c2, V2, u1, u2, u3, u4, u5, u6, u7, u8, u9, u10, u11, u12, u13, u14, u15, u16, u17⟩
      · obtain ⟨f, h', g', f0, q1, q2, q3, q4⟩ := F
        have q1 : am_C PG (d + K + 6) 97 [.ref 3, .int (nI w)] h1 = _ := q1
        exact Or.inl ⟨f, h', g', f0, by rw [q1, bI_s, if_pos rfl, am_nar4_0], q2, q3, q4⟩
      · have u1 : am_C PG (d + K + 6) 97 [.ref 3, .int (nI w)] h1 = _ := u1
        rw [u1, bI_s, u2]
        obtain ⟨k3, k1, ka, k14, k17, kr2, kr4, kr5, kr6, kr7, kr8, kr9, kr10, kr11, kr12, kr13, kr18, kr21, kr22, kr24, nr2, nr4, nr5, nr6, nr7, nr8, nr9, nr10, nr11, nr12, nr13, nr18, nr21, nr22, nr24⟩ := u3.kl
        obtain ⟨f600, f601, f500, f506, f508, f509, f510, f511, f512, f513, f514, f515, f516, f517, f518, f519, f701, f704, f705, f707⟩ := u3.fr
        have ka2 : am_C PG (d + K + 6) 44 [.ref (a + 14), .int (-9)] h2 = some (none, sFI (sEI h2 (a + 15) l2 (-9)) 401 (a + 14) (nI (l2 + 1))) := c_ladd (d := d + K + 5) u3 u4 u5 (-9)
        simp only [am_kd, am_let_e, bR_s, am_nar4_0, am_nar4_1, if_true, if_false, z1, rd_hK_sEI, rd_hFR_sEI, rd_hLN_sEI, rd_hFI_sEI, rd_hFJ_sEI, rd_hK_sEJ, rd_hFR_sEJ, rd_hLN_sEJ, rd_hFI_sEJ, rd_hAI_sEJ, rd_hK_sFI, rd_hFR_sFI, rd_hLN_sFI, rd_hAI_sFI, k3, k1, ka, k14, k17, kr2, kr4, kr5, kr6, kr7, kr8, kr9, kr10, kr11, kr12, kr13, kr18, kr21, kr22, kr24, nr2, nr4, nr5, nr6, nr7, nr8, nr9, nr10, nr11, nr12, nr13, nr18, nr21, nr22, nr24, f600, f601, f500, f506, f508, f509, f510, f511, f512, f513, f514, f515, f516, f517, f518, f519, f701, f704, f705, f707, ka2, bV_s]
        have sc2 := SemC.bin (c := -9) u10 (by decide) u11 ((p5.le (m' := 4 * w + 1) (by omega)).mono u9) u12
        have sm2 := (SemM.cmp (O := hAI g 373) (cs0 := fun i => hAI g2 372 (1000 + i)) (x := 25) (by omega) u14 (by decide) u15 (p6.mono u13) (u16.pre (fun τ z => ⟨MO.cg u17 z.1, z.2⟩))).val (fun b o k s => if_neg (by decide))
        exact Or.inr ⟨_, g2, b2', l2 + 1, c2, _, rfl, rfl, u6, ⟨u8.2.1, u8.2.2.1, u8.2.2.2, Or.inr (by rw [u8.1, r2]; decide)⟩, sc2.val (fun b o k s => jn_9 _ _), sm2⟩
    simp only [eq_false t60, eq_false t61, if_false, if_true, am_nar4_1]
    exact Or.inr ⟨h', g', b', l', c', V, rfl, rfl, p3, ⟨p4.2.1, p4.2.2.1, p4.2.2.2, Or.inl ⟨t60, t61⟩⟩, p5.le (by omega), SemM.test p6⟩
theorem expr_loop {a n w K d d2 b0 l0 c0 : Nat} {T : Nat → Nat} {h0 g0 : AH} (ha : 3 < a) (ha2 : a ≤ 30) (hw : w ≤ 5) (Sub : SubC a n T 96 (K + 7) w (4 * w + 1) (RqT w) (fun O => PrTest O w) (PoTest w) (fun _ b' g' => ExT n T w b' g')) (hl0 : l0 ≤ b0) (hO : Opn (hAI g0 373) w) : ∀ (j i b l c : Nat) (h g : AH) (V : Int32 → Int32 → Int32 → Int32 → Int32), n ≤ b + j → i ≤ b → PQ a n T w b0 l0 c0 h0 g0 b l c h g → ExT n T w b g → SemC (hAI h (a + 15)) l0 l (4 * w + 0) V → SemM (fun i => hAI g 372 (1000 + i)) c0 c w w (PrExpr (hAI g0 373) w) (PoExpr w) V → Out a n T w b0 l0 c0 h0 g0 (am_R PG (d + K + 8) 95 12 [some (.ref 3), some (.int (nI w)), some (.int (nI i)), none] [] h) (Hd d2 w 0 g) d2 (4 * w + 0) (PrExpr (hAI g0 373) w) (PoExpr w) ((fun _ b' g' => NoOp n T w b' g') g0) := by
  intro j
  induction j with
  | zero =>
    intro i b l c h g V hj hi p E sc sm
    have S := p.2.2.1
    obtain ⟨cx, mx, e1, e2, hl, hc⟩ := S
    have hn : n ≤ 1000 := cx.ff.2.2.2.2.2.2.2
    obtain ⟨k3, k1, ka, k14, k17, kr2, kr4, kr5, kr6, kr7, kr8, kr9, kr10, kr11, kr12, kr13, kr18, kr21, kr22, kr24, nr2, nr4, nr5, nr6, nr7, nr8, nr9, nr10, nr11, nr12, nr13, nr18, nr21, nr22, nr24⟩ := cx.kl
    obtain ⟨f600, f601, f500, f506, f508, f509, f510, f511, f512, f513, f514, f515, f516, f517, f518, f519, f701, f704, f705, f707⟩ := cx.fr
    have es := cx.ff.2.2.2.2.2.2.1
    have ew := cx.wd
    have z1 : ((1 : Int32) = 0) = False := eq_false (by decide)
    have ym6 : ((-6 : Int32) = 0) = False := eq_false (by decide)
    have ym7 : ((-7 : Int32) = 0) = False := eq_false (by decide)
    have t1111 : ¬ wrd n T b = 1111 := fun z => by have := wrd_b (by decide) z; omega
    have t423 : ¬ wrd n T b = 423 := fun z => by have := wrd_b (by decide) z; omega
    refine Or.inr ⟨h, g, b, l, c, V, ?_, rfl, p, ⟨E.2.1, E.2.2.1, E.1, E.2.2.2, t1111, t423⟩, sc, sm⟩
    rw [q_X6_expression_12]
    by_cases q : i < 1000
    · have lt : (nI i < (1000 : Int32)) = True := eq_true (nI_lt (b := 1000) q (by decide))
      simp only [am_kd, k3, k1, f600, lt, if_true, bR_s, ew, am_wd_w, am_wd_25, am_wd_26, wd_25, wd_26, eq_false t1111, eq_false t423, if_false, am_nar4_1]
    · have lt : (nI i < (1000 : Int32)) = False := eq_false (nI_nlt (b := 1000) (by omega) (by have := cx.le; omega))
      simp only [lt, if_false, am_nar4_1]
  | succ j ih =>
    intro i b l c h g V hj hi p E sc sm
    have S := p.2.2.1
    obtain ⟨cx, mx, e1, e2, hl, hc⟩ := S
    have hn : n ≤ 1000 := cx.ff.2.2.2.2.2.2.2
    obtain ⟨k3, k1, ka, k14, k17, kr2, kr4, kr5, kr6, kr7, kr8, kr9, kr10, kr11, kr12, kr13, kr18, kr21, kr22, kr24, nr2, nr4, nr5, nr6, nr7, nr8, nr9, nr10, nr11, nr12, nr13, nr18, nr21, nr22, nr24⟩ := cx.kl
    obtain ⟨f600, f601, f500, f506, f508, f509, f510, f511, f512, f513, f514, f515, f516, f517, f518, f519, f701, f704, f705, f707⟩ := cx.fr
    have es := cx.ff.2.2.2.2.2.2.1
    have ew := cx.wd
    have z1 : ((1 : Int32) = 0) = False := eq_false (by decide)
    have ym6 : ((-6 : Int32) = 0) = False := eq_false (by decide)
    have ym7 : ((-7 : Int32) = 0) = False := eq_false (by decide)
    by_cases t1111 : wrd n T b = 1111
    · have hb := wrd_b (by decide) t1111
      have lt : (nI i < (1000 : Int32)) = True := eq_true (nI_lt (b := 1000) (by omega) (by decide))
      obtain ⟨h1, a1, a2, a3⟩ := r_adv (d := d + K + 4) cx
      obtain ⟨g1, b1, b2, b3⟩ := m_w1111 (d := d2) (w := w) mx e2 (by omega) (by omega) t1111
      have o1 : ∀ i, i ≤ w → hAI g1 373 i = hAI g0 373 i := fun i hi => by rw [b2.2.2.2.1, sEI_ne _ _ _ (by decide), rd_hAI_sFI, sEI_ne _ _ _ (by decide)]; exact p.2.2.2.2.2.2.2.2.2.2.1 i hi
      have r1 : Opn (hAI g1 373) w := by
        rcases hO with z | z
        · exact Or.inl z
        · exact Or.inr (by rw [o1 w (Nat.le_refl _)]; exact z)
      have r2 : hAI g1 374 w = 0 := by rw [b2.2.2.2.1, sEI_at, pk_us]
      rw [b1]
      have kC : am_R PG (d + K + 8) 95 12 [some (.ref 3), some (.int (nI w)), some (.int (nI i)), none] [] h = bI (am_C PG (d + K + 7) 96 [.ref 3, .int (nI w)] h1) (fun v h2 => if v = 0 then some (some (.int 0), h2) else am_kd h2 3 7 (bR (hFR h2 601 3) fun r5 => am_kd h2 r5 6 (bR (hFR h2 518 r5) fun r6 => am_kd h2 r6 5 (bV (am_C PG (d + K + 7) 44 [.ref r6, .int (-6)] h2) fun h7 => am_R PG (d + K + 8) 95 12 [some (.ref 3), some (.int (nI w)), some (.int (nI (i + 1))), none] [] h7)))) := by
        have k3' : hK h1 3 = 7 := by rw [a2.1]; exact k3
        rw [q_X6_expression_12]
        simp only [am_kd, k3, k1, f600, lt, if_true, bR_s, ew, am_wd_w, am_wd_25, am_wd_26, wd_25, wd_26, eq_true t1111, ym6, if_false, a1, bV_s, k3', nI_1, am_nar4_0]
      rw [kC]
      rcases op_step (d := d) (d2 := d2) ha ha2 Sub p hl0 hb (-6) 26 a2 a3 ((ML.put g c 26).tr (ML.op _ w 0 (Or.inr rfl))) (by rw [rd_hFI_sEI]; exact sFI_at _ _ _ _) (fun i hi => by rw [sEI_ne _ _ _ (by decide), rd_hAI_sFI, sEI_at, pk_un (by omega)]) (fun i hi => by rw [sEI_ne _ _ _ (by decide), rd_hAI_sFI, sEI_ne _ _ _ (by decide)]) (fun i hi => by rw [sEI_at, pk_un (by omega), rd_hAI_sFI, sEI_ne _ _ _ (by decide)]) (by rw [sEI_ne _ _ _ (by decide), rd_hAI_sFI, sEI_at, pk_us]) b2 b3 ⟨r1, r2⟩ with F | ⟨h2, g2, b2', l2, c2, V2, u1, u2, u3, u4, u5, u6, u7, u8, u9, u10, u11, u12, u13, u14, u15, u16, u17⟩
      · obtain ⟨f, h', g', f0, q1, q2, q3, q4⟩ := F
        have q1 : am_C PG (d + K + 7) 96 [.ref 3, .int (nI w)] h1 = _ := q1
        exact Or.inl ⟨f, h', g', f0, by rw [q1, bI_s, if_pos rfl], q2, q3, q4⟩
      · have u1 : am_C PG (d + K + 7) 96 [.ref 3, .int (nI w)] h1 = _ := u1
        rw [u1, bI_s, u2]
        obtain ⟨k3, k1, ka, k14, k17, kr2, kr4, kr5, kr6, kr7, kr8, kr9, kr10, kr11, kr12, kr13, kr18, kr21, kr22, kr24, nr2, nr4, nr5, nr6, nr7, nr8, nr9, nr10, nr11, nr12, nr13, nr18, nr21, nr22, nr24⟩ := u3.kl
        obtain ⟨f600, f601, f500, f506, f508, f509, f510, f511, f512, f513, f514, f515, f516, f517, f518, f519, f701, f704, f705, f707⟩ := u3.fr
        have ka2 := c_ladd (d := d + K + 6) u3 u4 u5 (-6)
        have ka2 : am_C PG (d + K + 7) 44 [.ref (a + 14), .int (-6)] h2 = some (none, sFI (sEI h2 (a + 15) l2 (-6)) 401 (a + 14) (nI (l2 + 1))) := ka2
        simp only [am_kd, am_let_e, bR_s, am_nar4_0, am_nar4_1, if_true, if_false, z1, rd_hK_sEI, rd_hFR_sEI, rd_hLN_sEI, rd_hFI_sEI, rd_hFJ_sEI, rd_hK_sEJ, rd_hFR_sEJ, rd_hLN_sEJ, rd_hFI_sEJ, rd_hAI_sEJ, rd_hK_sFI, rd_hFR_sFI, rd_hLN_sFI, rd_hAI_sFI, k3, k1, ka, k14, k17, kr2, kr4, kr5, kr6, kr7, kr8, kr9, kr10, kr11, kr12, kr13, kr18, kr21, kr22, kr24, nr2, nr4, nr5, nr6, nr7, nr8, nr9, nr10, nr11, nr12, nr13, nr18, nr21, nr22, nr24, f600, f601, f500, f506, f508, f509, f510, f511, f512, f513, f514, f515, f516, f517, f518, f519, f701, f704, f705, f707, ka2, bV_s]
        have sc2 := SemC.bin (c := -6) u10 (by decide) u11 (sc.mono u9) u12
        have sm2 := (SemM.join (O := hAI g0 373) (cs0 := fun i => hAI g2 372 (1000 + i)) (x := 26) (by omega) u14 (by decide) u15 (sm.mono u13) (u16.pre (fun τ z => ⟨MO.cg u17 z.1, z.2⟩))).val (fun b o k s => if_pos rfl)
        refine ih (i + 1) b2' (l2 + 1) c2 _ g2 _ (by omega) (by omega) u6 ?_ (sc2.val (fun b o k s => jn_6 _ _)) sm2
        exact u8
    by_cases t423 : wrd n T b = 423
    · have hb := wrd_b (by decide) t423
      have lt : (nI i < (1000 : Int32)) = True := eq_true (nI_lt (b := 1000) (by omega) (by decide))
      obtain ⟨h1, a1, a2, a3⟩ := r_adv (d := d + K + 4) cx
      obtain ⟨g1, b1, b2, b3⟩ := m_w423 (d := d2) (w := w) mx e2 (by omega) (by omega) t423
      have o1 : ∀ i, i ≤ w → hAI g1 373 i = hAI g0 373 i := fun i hi => by rw [b2.2.2.2.1, sEI_ne _ _ _ (by decide), rd_hAI_sFI, sEI_ne _ _ _ (by decide)]; exact p.2.2.2.2.2.2.2.2.2.2.1 i hi
      have r1 : Opn (hAI g1 373) w := by
        rcases hO with z | z
        · exact Or.inl z
        · exact Or.inr (by rw [o1 w (Nat.le_refl _)]; exact z)
      have r2 : hAI g1 374 w = 0 := by rw [b2.2.2.2.1, sEI_at, pk_us]
      rw [b1]
      have kC : am_R PG (d + K + 8) 95 12 [some (.ref 3), some (.int (nI w)), some (.int (nI i)), none] [] h = bI (am_C PG (d + K + 7) 96 [.ref 3, .int (nI w)] h1) (fun v h2 => if v = 0 then some (some (.int 0), h2) else am_kd h2 3 7 (bR (hFR h2 601 3) fun r5 => am_kd h2 r5 6 (bR (hFR h2 518 r5) fun r6 => am_kd h2 r6 5 (bV (am_C PG (d + K + 7) 44 [.ref r6, .int (-7)] h2) fun h7 => am_R PG (d + K + 8) 95 12 [some (.ref 3), some (.int (nI w)), some (.int (nI (i + 1))), none] [] h7)))) := by
        have k3' : hK h1 3 = 7 := by rw [a2.1]; exact k3
        rw [q_X6_expression_12]
        simp only [am_kd, k3, k1, f600, lt, if_true, bR_s, ew, am_wd_w, am_wd_25, am_wd_26, wd_25, wd_26, eq_false t1111, eq_true t423, ym7, if_false, a1, bV_s, k3', nI_1, am_nar4_0]
      rw [kC]
      rcases op_step (d := d) (d2 := d2) ha ha2 Sub p hl0 hb (-7) 27 a2 a3 ((ML.put g c 27).tr (ML.op _ w 0 (Or.inr rfl))) (by rw [rd_hFI_sEI]; exact sFI_at _ _ _ _) (fun i hi => by rw [sEI_ne _ _ _ (by decide), rd_hAI_sFI, sEI_at, pk_un (by omega)]) (fun i hi => by rw [sEI_ne _ _ _ (by decide), rd_hAI_sFI, sEI_ne _ _ _ (by decide)]) (fun i hi => by rw [sEI_at, pk_un (by omega), rd_hAI_sFI, sEI_ne _ _ _ (by decide)]) (by rw [sEI_ne _ _ _ (by decide), rd_hAI_sFI, sEI_at, pk_us]) b2 b3 ⟨r1, r2⟩ with F | ⟨h2, g2, b2', l2, c2, V2, u1, u2, u3, u4, u5, u6, u7, u8, u9, u10, u11, u12, u13, u14, u15, u16, u17⟩
      · obtain ⟨f, h', g', f0, q1, q2, q3, q4⟩ := F
        have q1 : am_C PG (d + K + 7) 96 [.ref 3, .int (nI w)] h1 = _ := q1
        exact Or.inl ⟨f, h', g', f0, by rw [q1, bI_s, if_pos rfl], q2, q3, q4⟩
      · have u1 : am_C PG (d + K + 7) 96 [.ref 3, .int (nI w)] h1 = _ := u1
        rw [u1, bI_s, u2]
        obtain ⟨k3, k1, ka, k14, k17, kr2, kr4, kr5, kr6, kr7, kr8, kr9, kr10, kr11, kr12, kr13, kr18, kr21, kr22, kr24, nr2, nr4, nr5, nr6, nr7, nr8, nr9, nr10, nr11, nr12, nr13, nr18, nr21, nr22, nr24⟩ := u3.kl
        obtain ⟨f600, f601, f500, f506, f508, f509, f510, f511, f512, f513, f514, f515, f516, f517, f518, f519, f701, f704, f705, f707⟩ := u3.fr
        have ka2 := c_ladd (d := d + K + 6) u3 u4 u5 (-7)
        have ka2 : am_C PG (d + K + 7) 44 [.ref (a + 14), .int (-7)] h2 = some (none, sFI (sEI h2 (a + 15) l2 (-7)) 401 (a + 14) (nI (l2 + 1))) := ka2
        simp only [am_kd, am_let_e, bR_s, am_nar4_0, am_nar4_1, if_true, if_false, z1, rd_hK_sEI, rd_hFR_sEI, rd_hLN_sEI, rd_hFI_sEI, rd_hFJ_sEI, rd_hK_sEJ, rd_hFR_sEJ, rd_hLN_sEJ, rd_hFI_sEJ, rd_hAI_sEJ, rd_hK_sFI, rd_hFR_sFI, rd_hLN_sFI, rd_hAI_sFI, k3, k1, ka, k14, k17, kr2, kr4, kr5, kr6, kr7, kr8, kr9, kr10, kr11, kr12, kr13, kr18, kr21, kr22, kr24, nr2, nr4, nr5, nr6, nr7, nr8, nr9, nr10, nr11, nr12, nr13, nr18, nr21, nr22, nr24, f600, f601, f500, f506, f508, f509, f510, f511, f512, f513, f514, f515, f516, f517, f518, f519, f701, f704, f705, f707, ka2, bV_s]
        have sc2 := SemC.bin (c := -7) u10 (by decide) u11 (sc.mono u9) u12
        have sm2 := (SemM.join (O := hAI g0 373) (cs0 := fun i => hAI g2 372 (1000 + i)) (x := 27) (by omega) u14 (by decide) u15 (sm.mono u13) (u16.pre (fun τ z => ⟨MO.cg u17 z.1, z.2⟩))).val (fun b o k s => if_neg (by decide))
        refine ih (i + 1) b2' (l2 + 1) c2 _ g2 _ (by omega) (by omega) u6 ?_ (sc2.val (fun b o k s => jn_7 _ _)) sm2
        exact u8
    refine Or.inr ⟨h, g, b, l, c, V, ?_, rfl, p, ⟨E.2.1, E.2.2.1, E.1, E.2.2.2, t1111, t423⟩, sc, sm⟩
    rw [q_X6_expression_12]
    by_cases q : i < 1000
    · have lt : (nI i < (1000 : Int32)) = True := eq_true (nI_lt (b := 1000) q (by decide))
      simp only [am_kd, k3, k1, f600, lt, if_true, bR_s, ew, am_wd_w, am_wd_25, am_wd_26, wd_25, wd_26, eq_false t1111, eq_false t423, if_false, am_nar4_1]
    · have lt : (nI i < (1000 : Int32)) = False := eq_false (nI_nlt (b := 1000) (by omega) (by have := cx.le; omega))
      simp only [lt, if_false, am_nar4_1]
theorem expr_of {a n w K : Nat} {T : Nat → Nat} (ha : 3 < a) (ha2 : a ≤ 30) (hw : w ≤ 5) (Sub : SubC a n T 96 (K + 7) w (4 * w + 1) (RqT w) (fun O => PrTest O w) (PoTest w) (fun _ b' g' => ExT n T w b' g')) : SubC a n T 95 (K + 8) w (4 * w + 0) (RqT w) (fun O => PrExpr O w) (PoExpr w) (fun _ b' g' => NoOp n T w b' g') := by
  intro d d2 b l c h g S R
  have cx := S.1
  have k3 := cx.1
  have z1 : ((1 : Int32) = 0) = False := eq_false (by decide)
  have kC : am_C PG (d + K + 8) 95 [.ref 3, .int (nI w)] h = bI (am_C PG (d + K + 7) 96 [.ref 3, .int (nI w)] h) (fun v h1 => if v = 0 then some (some (.int 0), h1) else am_R PG (d + K + 8) 95 12 [some (.ref 3), some (.int (nI w)), some (.int (0)), none] [] h1) := by
    rw [q_X6_expression]
    simp only [am_kd, k3, if_true, am_nar4_0]
  show Out a n T w b l c h g (am_C PG (d + K + 8) 95 [.ref 3, .int (nI w)] h) (Hd d2 w 1 g) d2 (4 * w + 0) (PrExpr (hAI g 373) w) (PoExpr w) _
  rw [kC]
  rcases Sub d d2 b l c h g S R with F | ⟨h', g', b', l', c', V, p1, p2, p3, p4, p5, p6⟩
  · obtain ⟨f, h', g', f0, q1, q2, q3, q4⟩ := F
    have q1 : am_C PG (d + K + 7) 96 [.ref 3, .int (nI w)] h = _ := q1
    exact Or.inl ⟨f, h', g', f0, by rw [q1, bI_s, if_pos rfl], q2, q3, q4⟩
  · have p1 : am_C PG (d + K + 7) 96 [.ref 3, .int (nI w)] h = _ := p1
    rw [p1, bI_s, if_neg (by decide), p2]
    have e := expr_loop (d := d) (d2 := d2) ha ha2 hw Sub S.2.2.2.2.1 R.1 n 0 b' l' c' h' g' V (by omega) (by omega) p3 p4 (p5.le (by omega)) (SemM.expr p6)
    rw [nI_0] at e
    exact e
theorem ExprC.of {a n w K : Nat} {T : Nat → Nat} (ha : 3 < a) (ha2 : a ≤ 30) (hw : w ≤ 5) (P : PartC a n T w K) : ExprC a n T w K := by
  have E := expr_of ha ha2 hw (test_of ha ha2 hw (sum_of ha ha2 hw (PartC.prod ha ha2 hw P.sub)))
  intro d d2 b l c h g S R1 R2
  exact E d d2 b l c h g S ⟨R1, R2⟩
/-- every level -/
theorem level_all {a n : Nat} {T : Nat → Nat} (ha : 3 < a) (ha2 : a ≤ 30) : ∀ k, k ≤ 5 → PartC a n T (5 - k) (5 * k)
  | 0, _ => PartC.five a n T 0
  | k + 1, hk => by
    have P := level_all (n := n) (T := T) ha ha2 k (by omega)
    have e : 5 - k = (5 - (k + 1)) + 1 := by omega
    rw [e] at P
    exact PartC.of ha ha2 (by omega) P (ExprC.of ha ha2 (by omega) P)
theorem expr_0 {a n : Nat} {T : Nat → Nat} (ha : 3 < a) (ha2 : a ≤ 30) : ExprC a n T 0 25 := ExprC.of ha ha2 (by decide) (level_all ha ha2 5 (Nat.le_refl _))
