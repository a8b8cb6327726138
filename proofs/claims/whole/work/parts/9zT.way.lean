/-! The reader: the line way. -/
theorem st_other {d d2 a n b np ny nc ne nw i : Nat} {h g : AH} {T : Nat → Nat} (hi : i < np) (P : PR h g a np ny nc ne nw) (c : CX h a n T b) (m : MX g n T b) :
    Fb h g (am_C PG (d + 5) 89 [.ref 3, .int (nI i)] h) (am_C PG (d2 + 3) 187 [.ref 348, .int 1, .int 0] g) ∨
    (∃ j k, j < np ∧ k ≤ 9 ∧ hAI g 356 (25 + (5 * i + j)) = nI k ∧ (j = i ∨ k ≠ 0) ∧ am_C PG (d + 5) 89 [.ref 3, .int (nI i)] h = some (some (.int 0), sFI h 603 3 (3 + 16 * nI b)) ∧ am_C PG (d2 + 3) 187 [.ref 348, .int 1, .int 0] g = some (some (.int 1), sFI g 1246 348 (nI j))) ∨
    ∃ j h' g', j < np ∧ j ≠ i ∧ hAI g 356 (25 + (5 * i + j)) = nI 0 ∧ am_C PG (d + 5) 89 [.ref 3, .int (nI i)] h = some (some (.int 1), h') ∧ am_C PG (d2 + 3) 187 [.ref 348, .int 1, .int 0] g = some (some (.int 1), sFI g 1246 348 (nI j)) ∧ am_C PG (d2 + 3) 166 [.ref 348] (sFI g 1246 348 (nI j)) = some (none, g') ∧ hFI h' 605 3 = nI j ∧ CT h h' ∧ MT g g' ∧ CX h' a n T (nxt n T b) ∧ MX g' n T (nxt n T b) := by
  obtain ⟨kc1, kc2, kc3, kc4, kc5, j1, j2, j3, j4, j5, l1, l2, l3, l4⟩ := P.1
  have N := P.2.1
  have hb : b ≤ 1000 := by have := c.le; have := c.ff.2.2.2.2.2.2.2; omega
  have z1 : ((1 : Int32) = 0) = False := eq_false (by decide)
  have kn := r_isName (d := d + 3) c
  have kx : am_C PG (d + 3 + 1) 84 [.ref 3, .int (0 : Int32), .int (nI np)] h = _ := r_index (d := d + 3) c (f := 0) (m := np) (by omega)
  obtain ⟨m1, m2, m3⟩ := m_told0 (d := d2) (r := 1) (rr := 1) m (by decide) j1 l1 rfl
  have ef : fdx (fun j => hAJ h (a + 1) (0 + j)) (wrd n T b) np 0 = fdx (fun j => hAJ g 351 (5 * 1 + j)) (wrd n T b) np 0 := fdx_congr np 0 (fun j _ j2 => by rw [Nat.zero_add]; exact N.1.1 j (by omega))
  obtain ⟨k3, k1, ka, k14, k17, kr2, kr4, kr5, kr6, kr7, kr8, kr9, kr10, kr11, kr12, kr13, kr18, kr21, kr22, kr24, nr2, nr4, nr5, nr6, nr7, nr8, nr9, nr10, nr11, nr12, nr13, nr18, nr21, nr22, nr24⟩ := c.kl
  obtain ⟨f600, f601, f500, f506, f508, f509, f510, f511, f512, f513, f514, f515, f516, f517, f518, f519, f701, f704, f705, f707⟩ := c.fr
  rcases hz : nam n T b with _ | _
  · left
    rw [hz, if_neg (by decide)] at kn
    refine ⟨_, h, g, fz_ne (k := 1) (b := b) (by decide) (by decide) hb, ?_, m1 hz, CT.rfl' h, MT.rfl' g⟩
    rw [q_X6_otherEnd]
    simp only [am_kd, am_let_e, bR_s, am_nar4_0, am_nar4_1, if_true, if_false, z1, rd_hK_sEI, rd_hFR_sEI, rd_hLN_sEI, rd_hFI_sEI, rd_hFJ_sEI, rd_hK_sEJ, rd_hFR_sEJ, rd_hLN_sEJ, rd_hFI_sEJ, rd_hAI_sEJ, rd_hK_sFI, rd_hFR_sFI, rd_hLN_sFI, rd_hAI_sFI, k3, k1, ka, k14, k17, kr2, kr4, kr5, kr6, kr7, kr8, kr9, kr10, kr11, kr12, kr13, kr18, kr21, kr22, kr24, nr2, nr4, nr5, nr6, nr7, nr8, nr9, nr10, nr11, nr12, nr13, nr18, nr21, nr22, nr24, f600, f601, f500, f506, f508, f509, f510, f511, f512, f513, f514, f515, f516, f517, f518, f519, f701, f704, f705, f707, kn, bI_s, r_wrong c]
    rfl
  · rw [hz, if_pos rfl] at kn
    rw [c.spelt (nam_1 hz), ef] at kx
    rcases fdx_lt (f := fun j => hAJ g 351 (5 * 1 + j)) (s := wrd n T b) (k := np) (by omega) with ⟨q1, q2⟩ | ⟨q1, j, i1, i2, i3⟩
    · left
      refine ⟨_, h, _, fz_ne (k := 2) (b := b) (by decide) (by decide) hb, ?_, m2 hz q1, CT.rfl' h, MT.fi _ _⟩
      have q1 : (fdx (fun j => hAJ g 351 (5 * 1 + j)) (wrd n T b) np 0 < 0) = True := eq_true q1
      generalize fdx (fun j => hAJ g 351 (5 * 1 + j)) (wrd n T b) np 0 = v at kx q1
      rw [q_X6_otherEnd]
      simp only [am_kd, am_let_e, bR_s, am_nar4_0, am_nar4_1, if_true, if_false, z1, rd_hK_sEI, rd_hFR_sEI, rd_hLN_sEI, rd_hFI_sEI, rd_hFJ_sEI, rd_hK_sEJ, rd_hFR_sEJ, rd_hLN_sEJ, rd_hFI_sEJ, rd_hAI_sEJ, rd_hK_sFI, rd_hFR_sFI, rd_hLN_sFI, rd_hAI_sFI, k3, k1, ka, k14, k17, kr2, kr4, kr5, kr6, kr7, kr8, kr9, kr10, kr11, kr12, kr13, kr18, kr21, kr22, kr24, nr2, nr4, nr5, nr6, nr7, nr8, nr9, nr10, nr11, nr12, nr13, nr18, nr21, nr22, nr24, f600, f601, f500, f506, f508, f509, f510, f511, f512, f513, f514, f515, f516, f517, f518, f519, f701, f704, f705, f707, kn, bI_s, kc1, kx, q1, r_wrong c]
      rfl
    · right
      have e2 := m3 hz q1
      rw [i2] at kx e2
      have p0 : (nI j < 0) = False := eq_false (nI_pos (by omega))
      have x5 : nI i * (5 : Int32) = nI (5 * i) := by rw [show (5 : Int32) = nI 5 from rfl, pk_mul, Nat.mul_comm]
      have ei : ∀ x, am_in (nI (5 * i + j)) 25 x = x := am_inN (by omega) (by decide)
      have ti : Int32.toNatClampNeg (nI (5 * i + j)) = 5 * i + j := nI_clamp (by omega)
      obtain ⟨k, hk, s1, s2, s3⟩ := P.2.2.2.2.2.2.1 i j (by omega) (by omega)
      have ks : am_C PG (d + 4) 52 [.ref a, .int (nI i), .int (nI j)] h = some (some (.int (nI k)), h) := by
        rw [q_X5_step]
        simp only [am_kd, am_let_e, bR_s, am_nar4_0, am_nar4_1, if_true, if_false, z1, rd_hK_sEI, rd_hFR_sEI, rd_hLN_sEI, rd_hFI_sEI, rd_hFJ_sEI, rd_hK_sEJ, rd_hFR_sEJ, rd_hLN_sEJ, rd_hFI_sEJ, rd_hAI_sEJ, rd_hK_sFI, rd_hFR_sFI, rd_hLN_sFI, rd_hAI_sFI, k3, k1, ka, k14, k17, kr2, kr4, kr5, kr6, kr7, kr8, kr9, kr10, kr11, kr12, kr13, kr18, kr21, kr22, kr24, nr2, nr4, nr5, nr6, nr7, nr8, nr9, nr10, nr11, nr12, nr13, nr18, nr21, nr22, nr24, f600, f601, f500, f506, f508, f509, f510, f511, f512, f513, f514, f515, f516, f517, f518, f519, f701, f704, f705, f707, x5, nI_add, ei, ti, s1]
      by_cases e : j = i
      · left
        have e' : (nI j = nI i) = True := eq_true (by rw [e])
        refine ⟨j, k, i1, hk, s2, Or.inl e, ?_, e2⟩
        rw [q_X6_otherEnd]
        simp only [am_kd, am_let_e, bR_s, am_nar4_0, am_nar4_1, if_true, if_false, z1, rd_hK_sEI, rd_hFR_sEI, rd_hLN_sEI, rd_hFI_sEI, rd_hFJ_sEI, rd_hK_sEJ, rd_hFR_sEJ, rd_hLN_sEJ, rd_hFI_sEJ, rd_hAI_sEJ, rd_hK_sFI, rd_hFR_sFI, rd_hLN_sFI, rd_hAI_sFI, k3, k1, ka, k14, k17, kr2, kr4, kr5, kr6, kr7, kr8, kr9, kr10, kr11, kr12, kr13, kr18, kr21, kr22, kr24, nr2, nr4, nr5, nr6, nr7, nr8, nr9, nr10, nr11, nr12, nr13, nr18, nr21, nr22, nr24, f600, f601, f500, f506, f508, f509, f510, f511, f512, f513, f514, f515, f516, f517, f518, f519, f701, f704, f705, f707, kn, bI_s, kc1, kx, p0, e', r_wrong c]
      · have e' : (nI j = nI i) = False := eq_false (fun z => e ((nI_eq (by omega) (by omega)).1 z))
        by_cases ek : k = 0
        · right
          subst ek
          obtain ⟨h', g1, g2, g3⟩ := r_adv (d := d + 1) (c.fi 605 (nI j))
          obtain ⟨g', b1, b2, b3⟩ := m_adv (d := d2 + 1) (m.fi (k := 1246) (nI j) (by omega))
          have z0 : (nI 0 = 0) = True := eq_true rfl
          refine ⟨j, h', g', i1, e, s2, ?_, e2, b1, ?_, (CT.fi _ _).tr g2.ct, (MT.fi _ _).tr b2.mt, g3, b3⟩
          · rw [q_X6_otherEnd]
            simp only [am_kd, am_let_e, bR_s, am_nar4_0, am_nar4_1, if_true, if_false, z1, rd_hK_sEI, rd_hFR_sEI, rd_hLN_sEI, rd_hFI_sEI, rd_hFJ_sEI, rd_hK_sEJ, rd_hFR_sEJ, rd_hLN_sEJ, rd_hFI_sEJ, rd_hAI_sEJ, rd_hK_sFI, rd_hFR_sFI, rd_hLN_sFI, rd_hAI_sFI, k3, k1, ka, k14, k17, kr2, kr4, kr5, kr6, kr7, kr8, kr9, kr10, kr11, kr12, kr13, kr18, kr21, kr22, kr24, nr2, nr4, nr5, nr6, nr7, nr8, nr9, nr10, nr11, nr12, nr13, nr18, nr21, nr22, nr24, f600, f601, f500, f506, f508, f509, f510, f511, f512, f513, f514, f515, f516, f517, f518, f519, f701, f704, f705, f707, kn, bI_s, kc1, kx, p0, e', ks, z0, g1, bV_s]
          · rw [g2.2.2.2.2.2.2.2.2 _ _ (by omega)]
            exact sFI_at _ _ _ _
        · left
          have z0 : (nI k = 0) = False := eq_false (nI_ne0 (by omega) (by omega))
          refine ⟨j, k, i1, hk, s2, Or.inr ek, ?_, e2⟩
          rw [q_X6_otherEnd]
          simp only [am_kd, am_let_e, bR_s, am_nar4_0, am_nar4_1, if_true, if_false, z1, rd_hK_sEI, rd_hFR_sEI, rd_hLN_sEI, rd_hFI_sEI, rd_hFJ_sEI, rd_hK_sEJ, rd_hFR_sEJ, rd_hLN_sEJ, rd_hFI_sEJ, rd_hAI_sEJ, rd_hK_sFI, rd_hFR_sFI, rd_hLN_sFI, rd_hAI_sFI, k3, k1, ka, k14, k17, kr2, kr4, kr5, kr6, kr7, kr8, kr9, kr10, kr11, kr12, kr13, kr18, kr21, kr22, kr24, nr2, nr4, nr5, nr6, nr7, nr8, nr9, nr10, nr11, nr12, nr13, nr18, nr21, nr22, nr24, f600, f601, f500, f506, f508, f509, f510, f511, f512, f513, f514, f515, f516, f517, f518, f519, f701, f704, f705, f707, kn, bI_s, kc1, kx, p0, e', ks, z0, r_wrong c]
theorem PR.way {h g h' g' : AH} {a np ny nc ne nw i j v : Nat} (P : PR h g a np ny nc ne nw) (hi : i < np) (hj : j < np) (hv : v ≤ 9) (e0 : hAI h' (a + 2) = upd (upd (hAI h (a + 2)) (5 * i + j) (nI v)) (5 * j + i) (nI v)) (eo : ∀ k, 3 ≤ k → k ≤ 24 → hAI h' (a + k) = hAI h (a + k)) (en : hAJ h' (a + 1) = hAJ h (a + 1))
    (ec : hFI h' 502 a = nI (ny + 1)) (eC : ∀ k, 501 ≤ k → k ≤ 505 → k ≠ 502 → hFI h' k a = hFI h k a) (eT : hFI h' 604 3 = hFI h 604 3) (eL : hFI h' 401 (a + 14) = hFI h 401 (a + 14))
    (f0 : hAI g' 356 = upd (upd (hAI g 356) (25 + (5 * i + j)) (nI v)) (25 + (5 * j + i)) (nI v)) (fo : ∀ r, 355 ≤ r → r ≤ 372 → r ≠ 356 → hAI g' r = hAI g r) (fN : ∀ r, 351 ≤ r → r ≤ 354 → hAJ g' r = hAJ g r) (fc : hAI g' 350 = upd (hAI g 350) 6 (nI (ny + 1))) (fL : hFI g' 1233 348 = hFI g 1233 348) : PR h' g' a np (ny + 1) nc ne nw := by
  obtain ⟨⟨k1, k2, k3, k4, k5, j1, j2, j3, j4, j5, l1, l2, l3, l4⟩, n1, s3, s4, s5, s6, s7, s8, s9⟩ := P
  refine ⟨⟨by rw [eC 501 (by decide) (by decide) (by decide)]; exact k1, ec, by rw [eC 503 (by decide) (by decide) (by decide)]; exact k3, by rw [eC 504 (by decide) (by decide) (by decide)]; exact k4, by rw [eC 505 (by decide) (by decide) (by decide)]; exact k5, by rw [fc, pk_un (by decide)]; exact j1, by rw [fc, pk_us], by rw [fc, pk_un (by decide)]; exact j3, by rw [fc, pk_un (by decide)]; exact j4, by rw [fc, pk_un (by decide)]; exact j5, l1, l2, l3, l4⟩, n1.fr en fN, ?_, ?_, ?_, ?_, ?_, ?_, ?_⟩
  · exact fun q hq => (s3 q hq).fr (by rw [eo 24 (by decide) (by decide)]) (by rw [fo 355 (by decide) (by decide) (by decide)])
  · exact fun q hq => (s4 q hq).fr (fun k hk => by rw [eo k (by omega) (by omega)]) (fun r h1 h2 => by rw [fo r (by omega) (by omega) (by omega)])
  · exact fun q hq => (s5 q hq).fr (fun k hk => by rw [eo k (by omega) (by omega)]) (fun r h1 h2 => by rw [fo r (by omega) (by omega) (by omega)])
  · exact fun q hq => (s6 q hq).fr (fun k h1 h2 => by rw [eo k (by omega) (by omega)]) (fun r h1 h2 => by rw [fo r (by omega) (by omega) (by omega)])
  · intro x y hx hy
    rw [e0, f0]
    by_cases c1 : 5 * x + y = 5 * j + i
    · refine ⟨v, hv, by rw [c1, pk_us], by rw [c1, pk_us], fun z => by omega⟩
    · rw [pk_un c1, pk_un (show 25 + (5 * x + y) ≠ 25 + (5 * j + i) by omega)]
      by_cases c2 : 5 * x + y = 5 * i + j
      · refine ⟨v, hv, by rw [c2, pk_us], by rw [c2, pk_us], fun z => by omega⟩
      · rw [pk_un c2, pk_un (show 25 + (5 * x + y) ≠ 25 + (5 * i + j) by omega)]
        exact s7 x y hx hy
  · exact s8.fr (by rw [eo 13 (by decide) (by decide)]) (by rw [fo 369 (by decide) (by decide) (by decide)])
  · exact s9.fr eT eL (by rw [eo 15 (by decide) (by decide)]) (fun r h1 h2 => by rw [fo r (by omega) (by omega) (by omega)]) fL
theorem ln_way {d d2 a n b np ny nc ne nw : Nat} {h g : AH} {T : Nat → Nat} (ha : a = 4 ∨ a = 30) (c : CX h a n T b) (m : MX g n T b) (P : PR h g a np ny nc ne nw) (hb : b < n) : Ln a n T b h g (am_C PG (d + 6) 88 [.ref 3] h) (am_C PG (d2 + 5) 190 [.ref 348] g) := by
  have ha3 : 3 < a := by omega
  have ha30 : a ≤ 30 := by omega
  have N := P.2.1
  obtain ⟨kc1, kc2, kc3, kc4, kc5, j1, j2, j3, j4, j5, l1, l2, l3, l4⟩ := P.1
  obtain ⟨k3, k1, ka, k14, k17, kr2, kr4, kr5, kr6, kr7, kr8, kr9, kr10, kr11, kr12, kr13, kr18, kr21, kr22, kr24, nr2, nr4, nr5, nr6, nr7, nr8, nr9, nr10, nr11, nr12, nr13, nr18, nr21, nr22, nr24⟩ := c.kl
  obtain ⟨f600, f601, f500, f506, f508, f509, f510, f511, f512, f513, f514, f515, f516, f517, f518, f519, f701, f704, f705, f707⟩ := c.fr
  have hm := m.1.1
  have m0 := hm.1
  have f1210 : hFR _ 1210 348 = some 350 := (hm.2 1 (by decide)).1
  have k350 : hK _ 350 = 50 := (hm.2 1 (by decide)).2.1
  have n350 : hLN _ 350 = 10 := (hm.2 1 (by decide)).2.2
  have f1216 : hFR _ 1216 348 = some 356 := (hm.2 7 (by decide)).1
  have k356 : hK _ 356 = 50 := (hm.2 7 (by decide)).2.1
  have n356 : hLN _ 356 = 50 := (hm.2 7 (by decide)).2.2
  have z1 : ((1 : Int32) = 0) = False := eq_false (by decide)
  rw [q_X6_wayLine, q_X12_readsWay]
  simp only [am_kd, am_let_e, bR_s, am_nar4_0, am_nar4_1, if_true, if_false, z1, rd_hK_sEI, rd_hFR_sEI, rd_hLN_sEI, rd_hFI_sEI, rd_hFJ_sEI, rd_hK_sEJ, rd_hFR_sEJ, rd_hLN_sEJ, rd_hFI_sEJ, rd_hAI_sEJ, rd_hK_sFI, rd_hFR_sFI, rd_hLN_sFI, rd_hAI_sFI, k3, k1, ka, k14, k17, kr2, kr4, kr5, kr6, kr7, kr8, kr9, kr10, kr11, kr12, kr13, kr18, kr21, kr22, kr24, nr2, nr4, nr5, nr6, nr7, nr8, nr9, nr10, nr11, nr12, nr13, nr18, nr21, nr22, nr24, f600, f601, f500, f506, f508, f509, f510, f511, f512, f513, f514, f515, f516, f517, f518, f519, f701, f704, f705, f707, m0, f1210, k350, n350, f1216, k356, n356]
  obtain ⟨h1, g1, x1, y1, q1, r1, c1, m1⟩ := st_adv (d := d + 2) (d2 := d2 + 2) c m
  rw [x1, y1, bV_s, bV_s]
  refine Ln.go (q1.cs a) r1.mz ?_
  have P1 := P.ct ha3 ha30 q1 r1
  have D1 := P1.1.1
  obtain ⟨k3, k1, ka, k14, k17, kr2, kr4, kr5, kr6, kr7, kr8, kr9, kr10, kr11, kr12, kr13, kr18, kr21, kr22, kr24, nr2, nr4, nr5, nr6, nr7, nr8, nr9, nr10, nr11, nr12, nr13, nr18, nr21, nr22, nr24⟩ := c1.kl
  obtain ⟨f600, f601, f500, f506, f508, f509, f510, f511, f512, f513, f514, f515, f516, f517, f518, f519, f701, f704, f705, f707⟩ := c1.fr
  have hm := m1.1.1
  have m0 := hm.1
  have f1210 : hFR _ 1210 348 = some 350 := (hm.2 1 (by decide)).1
  have k350 : hK _ 350 = 50 := (hm.2 1 (by decide)).2.1
  have n350 : hLN _ 350 = 10 := (hm.2 1 (by decide)).2.2
  have f1216 : hFR _ 1216 348 = some 356 := (hm.2 7 (by decide)).1
  have k356 : hK _ 356 = 50 := (hm.2 7 (by decide)).2.1
  have n356 : hLN _ 356 = 50 := (hm.2 7 (by decide)).2.2
  simp only [am_kd, am_let_e, bR_s, am_nar4_0, am_nar4_1, if_true, if_false, z1, rd_hK_sEI, rd_hFR_sEI, rd_hLN_sEI, rd_hFI_sEI, rd_hFJ_sEI, rd_hK_sEJ, rd_hFR_sEJ, rd_hLN_sEJ, rd_hFI_sEJ, rd_hAI_sEJ, rd_hK_sFI, rd_hFR_sFI, rd_hLN_sFI, rd_hAI_sFI, k3, k1, ka, k14, k17, kr2, kr4, kr5, kr6, kr7, kr8, kr9, kr10, kr11, kr12, kr13, kr18, kr21, kr22, kr24, nr2, nr4, nr5, nr6, nr7, nr8, nr9, nr10, nr11, nr12, nr13, nr18, nr21, nr22, nr24, f600, f601, f500, f506, f508, f509, f510, f511, f512, f513, f514, f515, f516, f517, f518, f519, f701, f704, f705, f707, m0, f1210, k350, n350, f1216, k356, n356, D1]
  rcases st_told0 (d := d + 1) (d2 := d2 + 1) (r := 1) (rr := 1) (ff := 0) (mm := nI np) rfl rfl rfl (by decide) P1.1.2.2.2.2.2.1 l1 (fun j hj => by rw [Nat.zero_add]; exact P1.2.1.1.1 j hj) c1 m1 with F | ⟨i, h2, gg2, g2, hi, x2, y2, w2, kg, e1246b, e605, -, q2, r2, c2, m2, -⟩
  · exact Ln.no (fun _ => rfl) (fun _ => rfl) F
  rw [x2, y2, bI_s, bI_s]
  simp only [am_kd, am_let_e, bR_s, am_nar4_0, am_nar4_1, if_true, if_false, z1, rd_hK_sEI, rd_hFR_sEI, rd_hLN_sEI, rd_hFI_sEI, rd_hFJ_sEI, rd_hK_sEJ, rd_hFR_sEJ, rd_hLN_sEJ, rd_hFI_sEJ, rd_hAI_sEJ, rd_hK_sFI, rd_hFR_sFI, rd_hLN_sFI, rd_hAI_sFI, k3, k1, ka, k14, k17, kr2, kr4, kr5, kr6, kr7, kr8, kr9, kr10, kr11, kr12, kr13, kr18, kr21, kr22, kr24, nr2, nr4, nr5, nr6, nr7, nr8, nr9, nr10, nr11, nr12, nr13, nr18, nr21, nr22, nr24, f600, f601, f500, f506, f508, f509, f510, f511, f512, f513, f514, f515, f516, f517, f518, f519, f701, f704, f705, f707, m0, f1210, k350, n350, f1216, k356, n356, kg, w2, bV_s, e605, e1246b]
  refine Ln.go (q2.cs a) r2.mz ?_
  have P2 := P1.ct ha3 ha30 q2 r2
  obtain ⟨k3, k1, ka, k14, k17, kr2, kr4, kr5, kr6, kr7, kr8, kr9, kr10, kr11, kr12, kr13, kr18, kr21, kr22, kr24, nr2, nr4, nr5, nr6, nr7, nr8, nr9, nr10, nr11, nr12, nr13, nr18, nr21, nr22, nr24⟩ := c2.kl
  obtain ⟨f600, f601, f500, f506, f508, f509, f510, f511, f512, f513, f514, f515, f516, f517, f518, f519, f701, f704, f705, f707⟩ := c2.fr
  have hm := m2.1.1
  have m0 := hm.1
  have f1210 : hFR _ 1210 348 = some 350 := (hm.2 1 (by decide)).1
  have k350 : hK _ 350 = 50 := (hm.2 1 (by decide)).2.1
  have n350 : hLN _ 350 = 10 := (hm.2 1 (by decide)).2.2
  have f1216 : hFR _ 1216 348 = some 356 := (hm.2 7 (by decide)).1
  have k356 : hK _ 356 = 50 := (hm.2 7 (by decide)).2.1
  have n356 : hLN _ 356 = 50 := (hm.2 7 (by decide)).2.2
  simp only [am_kd, am_let_e, bR_s, am_nar4_0, am_nar4_1, if_true, if_false, z1, rd_hK_sEI, rd_hFR_sEI, rd_hLN_sEI, rd_hFI_sEI, rd_hFJ_sEI, rd_hK_sEJ, rd_hFR_sEJ, rd_hLN_sEJ, rd_hFI_sEJ, rd_hAI_sEJ, rd_hK_sFI, rd_hFR_sFI, rd_hLN_sFI, rd_hAI_sFI, k3, k1, ka, k14, k17, kr2, kr4, kr5, kr6, kr7, kr8, kr9, kr10, kr11, kr12, kr13, kr18, kr21, kr22, kr24, nr2, nr4, nr5, nr6, nr7, nr8, nr9, nr10, nr11, nr12, nr13, nr18, nr21, nr22, nr24, f600, f601, f500, f506, f508, f509, f510, f511, f512, f513, f514, f515, f516, f517, f518, f519, f701, f704, f705, f707, m0, f1210, k350, n350, f1216, k356, n356]
  have x5 : (5 : Int32) * nI i = nI (5 * i) := pk_mul 5 i
  have x25 : (25 : Int32) + nI (5 * i) = nI (25 + 5 * i) := nI_add 25 (5 * i)
  rcases st_other (d := d) (d2 := d2 + 1) hi P2 c2 m2 with F | ⟨j, k, hj, hk, s1, s2, x3, y3⟩ | ⟨j, h3, g3, hj, hij, s1, x3, y3, w3, e605b, q3, r3, c3, m3⟩
  · exact Ln.no (fun _ => rfl) (fun _ => rfl) F
  · -- refused: told already
    have b3 : nxt n T (nxt n T b) ≤ 1000 := by have := c2.le; have := c2.ff.2.2.2.2.2.2.2; omega
    rw [x3, y3, bI_s, bI_s]
    have w5 : hFI (sFI g2 1246 348 (nI j)) 1246 348 = nI j := sFI_at _ _ _ _
    have ei : ∀ x, am_in (nI (25 + 5 * i + j)) 50 x = x := am_inN (by omega) (by decide)
    have ti : Int32.toNatClampNeg (nI (25 + 5 * i + j)) = 25 + (5 * i + j) := by rw [nI_clamp (by omega)]; omega
    have mf := m_fails (d := d2 + 3) (m2.fi (k := 1246) (nI j) (by omega)) 3
    refine Or.inl ⟨_, h2, sFI g2 1246 348 (nI j), fz_ne (k := 3) (by decide) (by decide) b3, rfl, ?_, CQ.rfl' _ _, MZ.fi _ _ (by omega)⟩
    by_cases e : j = i
    · have e' : (nI i = nI j) = True := eq_true (by rw [e])
      simp only [am_kd, am_let_e, bR_s, am_nar4_0, am_nar4_1, if_true, if_false, z1, rd_hK_sEI, rd_hFR_sEI, rd_hLN_sEI, rd_hFI_sEI, rd_hFJ_sEI, rd_hK_sEJ, rd_hFR_sEJ, rd_hLN_sEJ, rd_hFI_sEJ, rd_hAI_sEJ, rd_hK_sFI, rd_hFR_sFI, rd_hLN_sFI, rd_hAI_sFI, k3, k1, ka, k14, k17, kr2, kr4, kr5, kr6, kr7, kr8, kr9, kr10, kr11, kr12, kr13, kr18, kr21, kr22, kr24, nr2, nr4, nr5, nr6, nr7, nr8, nr9, nr10, nr11, nr12, nr13, nr18, nr21, nr22, nr24, f600, f601, f500, f506, f508, f509, f510, f511, f512, f513, f514, f515, f516, f517, f518, f519, f701, f704, f705, f707, m0, f1210, k350, n350, f1216, k356, n356, w5, e', mf, bI_s]
      rfl
    · have e' : (nI i = nI j) = False := eq_false (fun z => e ((nI_eq (by omega) (by omega)).1 z).symm)
      have k0 : k ≠ 0 := s2.resolve_left e
      have kp : ((0 : Int32) < nI k) = True := eq_true (nI_lt (a := 0) (by omega) (by omega))
      simp only [am_kd, am_let_e, bR_s, am_nar4_0, am_nar4_1, if_true, if_false, z1, rd_hK_sEI, rd_hFR_sEI, rd_hLN_sEI, rd_hFI_sEI, rd_hFJ_sEI, rd_hK_sEJ, rd_hFR_sEJ, rd_hLN_sEJ, rd_hFI_sEJ, rd_hAI_sEJ, rd_hK_sFI, rd_hFR_sFI, rd_hLN_sFI, rd_hAI_sFI, k3, k1, ka, k14, k17, kr2, kr4, kr5, kr6, kr7, kr8, kr9, kr10, kr11, kr12, kr13, kr18, kr21, kr22, kr24, nr2, nr4, nr5, nr6, nr7, nr8, nr9, nr10, nr11, nr12, nr13, nr18, nr21, nr22, nr24, f600, f601, f500, f506, f508, f509, f510, f511, f512, f513, f514, f515, f516, f517, f518, f519, f701, f704, f705, f707, m0, f1210, k350, n350, f1216, k356, n356, w5, e', x5, x25, nI_add, ei, ti, s1, kp, mf, bI_s]
      rfl
  rw [x3, y3, bI_s, bI_s]
  have w5 : hFI (sFI g2 1246 348 (nI j)) 1246 348 = nI j := sFI_at _ _ _ _
  have ei : ∀ x, am_in (nI (25 + 5 * i + j)) 50 x = x := am_inN (by omega) (by decide)
  have ti : Int32.toNatClampNeg (nI (25 + 5 * i + j)) = 25 + (5 * i + j) := by rw [nI_clamp (by omega)]; omega
  have e' : (nI i = nI j) = False := eq_false (fun z => hij ((nI_eq (by omega) (by omega)).1 z).symm)
  have kp : ((0 : Int32) < nI 0) = False := eq_false (by decide)
  simp only [am_kd, am_let_e, bR_s, am_nar4_0, am_nar4_1, if_true, if_false, z1, rd_hK_sEI, rd_hFR_sEI, rd_hLN_sEI, rd_hFI_sEI, rd_hFJ_sEI, rd_hK_sEJ, rd_hFR_sEJ, rd_hLN_sEJ, rd_hFI_sEJ, rd_hAI_sEJ, rd_hK_sFI, rd_hFR_sFI, rd_hLN_sFI, rd_hAI_sFI, k3, k1, ka, k14, k17, kr2, kr4, kr5, kr6, kr7, kr8, kr9, kr10, kr11, kr12, kr13, kr18, kr21, kr22, kr24, nr2, nr4, nr5, nr6, nr7, nr8, nr9, nr10, nr11, nr12, nr13, nr18, nr21, nr22, nr24, f600, f601, f500, f506, f508, f509, f510, f511, f512, f513, f514, f515, f516, f517, f518, f519, f701, f704, f705, f707, m0, f1210, k350, n350, f1216, k356, n356, w5, e', x5, x25, nI_add, ei, ti, s1, kp, w3, bV_s, e605b]
  refine Ln.go (q3.cs a) r3.mz ?_
  have P3 := P2.ct ha3 ha30 q3 r3
  obtain ⟨k3, k1, ka, k14, k17, kr2, kr4, kr5, kr6, kr7, kr8, kr9, kr10, kr11, kr12, kr13, kr18, kr21, kr22, kr24, nr2, nr4, nr5, nr6, nr7, nr8, nr9, nr10, nr11, nr12, nr13, nr18, nr21, nr22, nr24⟩ := c3.kl
  obtain ⟨f600, f601, f500, f506, f508, f509, f510, f511, f512, f513, f514, f515, f516, f517, f518, f519, f701, f704, f705, f707⟩ := c3.fr
  have hm := m3.1.1
  have m0 := hm.1
  have f1210 : hFR _ 1210 348 = some 350 := (hm.2 1 (by decide)).1
  have k350 : hK _ 350 = 50 := (hm.2 1 (by decide)).2.1
  have n350 : hLN _ 350 = 10 := (hm.2 1 (by decide)).2.2
  have f1216 : hFR _ 1216 348 = some 356 := (hm.2 7 (by decide)).1
  have k356 : hK _ 356 = 50 := (hm.2 7 (by decide)).2.1
  have n356 : hLN _ 356 = 50 := (hm.2 7 (by decide)).2.2
  simp only [am_kd, am_let_e, bR_s, am_nar4_0, am_nar4_1, if_true, if_false, z1, rd_hK_sEI, rd_hFR_sEI, rd_hLN_sEI, rd_hFI_sEI, rd_hFJ_sEI, rd_hK_sEJ, rd_hFR_sEJ, rd_hLN_sEJ, rd_hFI_sEJ, rd_hAI_sEJ, rd_hK_sFI, rd_hFR_sFI, rd_hLN_sFI, rd_hAI_sFI, k3, k1, ka, k14, k17, kr2, kr4, kr5, kr6, kr7, kr8, kr9, kr10, kr11, kr12, kr13, kr18, kr21, kr22, kr24, nr2, nr4, nr5, nr6, nr7, nr8, nr9, nr10, nr11, nr12, nr13, nr18, nr21, nr22, nr24, f600, f601, f500, f506, f508, f509, f510, f511, f512, f513, f514, f515, f516, f517, f518, f519, f701, f704, f705, f707, m0, f1210, k350, n350, f1216, k356, n356]
  rcases st_number (d := d + 1) (d2 := d2 + 1) (lo := 1) (hi := 9) (l := 1) (u := 9) rfl rfl (by decide) (by decide) c3 m3 with F | ⟨v, h4, g4, v4, u4, x4, y4, e605c, e1246, q4, r4, c4, m4, b4⟩
  · exact Ln.no (fun _ => rfl) (fun _ => rfl) F
  rw [x4, y4, bI_s, bI_s]
  refine Ln.go (q4.cs a) r4.mz ?_
  have P4 := P3.ct ha3 ha30 q4 r4
  have D4 := P4.1.2.1
  have J4 := P4.1.2.2.2.2.2.2.1
  obtain ⟨k3, k1, ka, k14, k17, kr2, kr4, kr5, kr6, kr7, kr8, kr9, kr10, kr11, kr12, kr13, kr18, kr21, kr22, kr24, nr2, nr4, nr5, nr6, nr7, nr8, nr9, nr10, nr11, nr12, nr13, nr18, nr21, nr22, nr24⟩ := c4.kl
  obtain ⟨f600, f601, f500, f506, f508, f509, f510, f511, f512, f513, f514, f515, f516, f517, f518, f519, f701, f704, f705, f707⟩ := c4.fr
  have hm := m4.1.1
  have m0 := hm.1
  have f1210 : hFR _ 1210 348 = some 350 := (hm.2 1 (by decide)).1
  have k350 : hK _ 350 = 50 := (hm.2 1 (by decide)).2.1
  have n350 : hLN _ 350 = 10 := (hm.2 1 (by decide)).2.2
  have f1216 : hFR _ 1216 348 = some 356 := (hm.2 7 (by decide)).1
  have k356 : hK _ 356 = 50 := (hm.2 7 (by decide)).2.1
  have n356 : hLN _ 356 = 50 := (hm.2 7 (by decide)).2.2
  have ym : (5 : Int32) * nI j = nI (5 * j) := pk_mul 5 j
  have y25 : (25 : Int32) + nI (5 * j) = nI (25 + 5 * j) := nI_add 25 (5 * j)
  have fi : ∀ x, am_in (nI (25 + 5 * j + i)) 50 x = x := am_inN (by omega) (by decide)
  have ui : Int32.toNatClampNeg (nI (25 + 5 * j + i)) = 25 + (5 * j + i) := by rw [nI_clamp (by omega)]; omega
  have xi : nI i * (5 : Int32) = nI (5 * i) := by rw [show (5 : Int32) = nI 5 from rfl, pk_mul, Nat.mul_comm]
  have xj : nI j * (5 : Int32) = nI (5 * j) := by rw [show (5 : Int32) = nI 5 from rfl, pk_mul, Nat.mul_comm]
  have gi : ∀ x, am_in (nI (5 * i + j)) 25 x = x := am_inN (by omega) (by decide)
  have vi : Int32.toNatClampNeg (nI (5 * i + j)) = 5 * i + j := nI_clamp (by omega)
  have gj : ∀ x, am_in (nI (5 * j + i)) 25 x = x := am_inN (by omega) (by decide)
  have vj : Int32.toNatClampNeg (nI (5 * j + i)) = 5 * j + i := nI_clamp (by omega)
  have ep : ∀ x, am_in (6 : Int32) 10 x = x := am_inN (i := 6) (by decide) (by decide)
  have tp : Int32.toNatClampNeg (6 : Int32) = 6 := by decide
  have kw : am_C PG (d + 5) 51 [.ref a, .int (nI i), .int (nI j), .int (nI v)] h4 = some (none, sFI (sEI (sEI h4 (a + 2) (5 * i + j) (nI v)) (a + 2) (5 * j + i) (nI v)) 502 a (nI (ny + 1))) := by
    rw [q_X5_addWay]
    simp only [am_kd, am_let_e, bR_s, am_nar4_0, am_nar4_1, if_true, if_false, z1, rd_hK_sEI, rd_hFR_sEI, rd_hLN_sEI, rd_hFI_sEI, rd_hFJ_sEI, rd_hK_sEJ, rd_hFR_sEJ, rd_hLN_sEJ, rd_hFI_sEJ, rd_hAI_sEJ, rd_hK_sFI, rd_hFR_sFI, rd_hLN_sFI, rd_hAI_sFI, k3, k1, ka, k14, k17, kr2, kr4, kr5, kr6, kr7, kr8, kr9, kr10, kr11, kr12, kr13, kr18, kr21, kr22, kr24, nr2, nr4, nr5, nr6, nr7, nr8, nr9, nr10, nr11, nr12, nr13, nr18, nr21, nr22, nr24, f600, f601, f500, f506, f508, f509, f510, f511, f512, f513, f514, f515, f516, f517, f518, f519, f701, f704, f705, f707, xi, xj, nI_add, gi, vi, gj, vj, D4, nI_1]
  have g350 : hAI (sEI (sEI g4 356 (25 + (5 * i + j)) (nI v)) 356 (25 + (5 * j + i)) (nI v)) 350 = hAI g4 350 := by rw [sEI_ne _ _ _ (by decide), sEI_ne _ _ _ (by decide)]
  simp only [am_kd, am_let_e, bR_s, am_nar4_0, am_nar4_1, if_true, if_false, z1, rd_hK_sEI, rd_hFR_sEI, rd_hLN_sEI, rd_hFI_sEI, rd_hFJ_sEI, rd_hK_sEJ, rd_hFR_sEJ, rd_hLN_sEJ, rd_hFI_sEJ, rd_hAI_sEJ, rd_hK_sFI, rd_hFR_sFI, rd_hLN_sFI, rd_hAI_sFI, k3, k1, ka, k14, k17, kr2, kr4, kr5, kr6, kr7, kr8, kr9, kr10, kr11, kr12, kr13, kr18, kr21, kr22, kr24, nr2, nr4, nr5, nr6, nr7, nr8, nr9, nr10, nr11, nr12, nr13, nr18, nr21, nr22, nr24, f600, f601, f500, f506, f508, f509, f510, f511, f512, f513, f514, f515, f516, f517, f518, f519, f701, f704, f705, f707, m0, f1210, k350, n350, f1216, k356, n356, kw, bV_s, x5, x25, ym, y25, nI_add, ei, ti, fi, ui, e605c, e1246, ep, tp, g350, J4, nI_1]
  have cH : CX (sFI (sEI (sEI h4 (a + 2) (5 * i + j) (nI v)) (a + 2) (5 * j + i) (nI v)) 502 a (nI (ny + 1))) a n T _ := ((c4.ei (r := a + 2) (5 * i + j) (nI v) (by omega)).ei (r := a + 2) (5 * j + i) (nI v) (by omega)).fa 502 (nI (ny + 1)) (by omega)
  have mG : MX (sEI (sEI (sEI g4 356 (25 + (5 * i + j)) (nI v)) 356 (25 + (5 * j + i)) (nI v)) 350 6 (nI (ny + 1))) n T _ := ((m4.ei (r := 356) (25 + (5 * i + j)) (nI v) (by decide)).ei (r := 356) (25 + (5 * j + i)) (nI v) (by decide)).ei (r := 350) 6 (nI (ny + 1)) (by decide)
  have h56 : hf 356 = 25 := rfl
  refine Ln.go (((CS.ei h4 (5 * i + j) (nI v) (r := a + 2) (by omega)).tr (CS.ei _ (5 * j + i) (nI v) (r := a + 2) (by omega))).tr (CS.fi _ (nI (ny + 1)) (k := 502) (x := a) (by omega) ha3)) (((MZ.ei g4 (r := 356) (i := 25 + (5 * i + j)) (nI v) (by decide) (by omega)).tr (MZ.ei _ (r := 356) (i := 25 + (5 * j + i)) (nI v) (by decide) (by omega))).tr (MZ.ei _ (r := 350) (i := 6) (nI (ny + 1)) (by decide) (by decide))) ?_
  rcases st_close (d := d + 1) (d2 := d2 + 1) cH mG with F | ⟨h5, g5, x6, y6, q5, r5, c5, m5, -⟩
  · exact Ln.no (fun _ => rfl) (fun _ => rfl) F
  rw [x6, y6, bI_s, bI_s, am_nar4_1, am_nar4_1]
  refine Or.inr ⟨h5, g5, _, np, ny + 1, nc, ne, nw, rfl, rfl, q5.cs a, r5.mz, c5, m5, ?_, ?_⟩
  · have le0 := nxt_le (T := T) c.le
    have le1 := nxt_le (T := T) c1.le
    have le2 := nxt_le (T := T) c2.le
    have le3 := nxt_le (T := T) c3.le
    have le4 := nxt_le (T := T) c4.le
    omega
  · refine (PR.way (h' := sFI (sEI (sEI h4 (a + 2) (5 * i + j) (nI v)) (a + 2) (5 * j + i) (nI v)) 502 a (nI (ny + 1))) (g' := sEI (sEI (sEI g4 356 (25 + (5 * i + j)) (nI v)) 356 (25 + (5 * j + i)) (nI v)) 350 6 (nI (ny + 1))) P4 hi hj u4 ?_ ?_ rfl (sFI_at _ _ _ _) (fun k z0 z1 z2 => sFI_o _ _ (Or.inl z2)) (sFI_o _ _ (by omega)) (sFI_o _ _ (by omega)) ?_ ?_ (fun _ _ _ => rfl) ?_ rfl).ct ha3 ha30 q5 r5
    · rw [rd_hAI_sFI, sEI_at, sEI_at]
    · intro k k1 k2
      rw [rd_hAI_sFI, sEI_ne _ _ _ (by omega), sEI_ne _ _ _ (by omega)]
    · rw [sEI_ne _ _ _ (by decide), sEI_at, sEI_at]
    · intro r k1 k2 k3
      rw [sEI_ne _ _ _ (by omega), sEI_ne _ _ _ k3, sEI_ne _ _ _ k3]
    · rw [sEI_at, g350]
