/-! The reader: the line clock. -/
/-- the kind of a CLOCK that a WORD says -/
def kdn (s : Int64) : Int32 := if s = 8740238 then 0 else if s = 11263 then 1 else if s = 262775 then 2 else if s = 3074 then 3 else -1
theorem kdn_c (s : Int64) : kdn s = -1 ∨ ∃ kd, kd ≤ 3 ∧ kdn s = nI kd := by
  unfold kdn
  repeat' split
  · exact Or.inr ⟨0, by decide, rfl⟩
  · exact Or.inr ⟨1, by decide, rfl⟩
  · exact Or.inr ⟨2, by decide, rfl⟩
  · exact Or.inr ⟨3, by decide, rfl⟩
  · exact Or.inl rfl
theorem kdn_k (s : Int64) (K : Int32 → Option Res) : (if (if s = 8740238 then (1 : Int32) else 0) = 0 then (if (if s = 11263 then (1 : Int32) else 0) = 0 then (if (if s = 262775 then (1 : Int32) else 0) = 0 then (if (if s = 3074 then (1 : Int32) else 0) = 0 then K (-1) else K 3) else K 2) else K 1) else K 0) = K (kdn s) := by
  have z1 : ¬ (1 : Int32) = 0 := by decide
  unfold kdn
  by_cases c0 : s = 8740238
  · simp only [c0, if_true, if_neg z1]
  by_cases c1 : s = 11263
  · simp only [if_neg c0, if_pos c1, if_neg z1, if_true]
  by_cases c2 : s = 262775
  · simp only [if_neg c0, if_neg c1, if_pos c2, if_neg z1, if_true]
  by_cases c3 : s = 3074
  · simp only [if_neg c0, if_neg c1, if_neg c2, if_pos c3, if_neg z1, if_true]
  · simp only [if_neg c0, if_neg c1, if_neg c2, if_neg c3, if_true]
theorem r_kind {d a n b : Nat} {h : AH} {T : Nat → Nat} (c : CX h a n T b) :
    (kdn (wrd n T b) < 0 → am_C PG (d + 4) 85 [.ref 3] h = some (some (.int 0), sFI h 603 3 (1 + 16 * nI b))) ∧
    (∀ kd : Nat, kd ≤ 3 → kdn (wrd n T b) = nI kd → ∃ g, am_C PG (d + 4) 85 [.ref 3] h = some (some (.int 1), g) ∧ CT h g ∧ CX g a n T (nxt n T b) ∧ hFI g 605 3 = nI kd ∧ b < n) := by
  obtain ⟨k3, f6, f61, k1, e3, -⟩ := c.ff
  have ew := c.wd
  have n0 : ((-1 : Int32) < 0) = True := eq_true (by decide)
  have p0 : ((0 : Int32) < 0) = False := eq_false (by decide)
  have p1 : ((1 : Int32) < 0) = False := eq_false (by decide)
  have p2 : ((2 : Int32) < 0) = False := eq_false (by decide)
  have p3 : ((3 : Int32) < 0) = False := eq_false (by decide)
  have hb : wrd n T b ≠ 0 → b < n := fun w => by
    refine (tkS_1 (T := T) (n := n) (b := b) (Classical.byContradiction fun z => w (wrd_0.2 z))).1
  have go : ∀ v : Int32, ∃ g, am_C PG (d + 3) 115 [.ref 1] (sFI h 605 3 v) = some (none, g) ∧ CT h g ∧ CX g a n T (nxt n T b) ∧ hFI g 605 3 = v := fun v => by
    obtain ⟨g, g1, g2, g3⟩ := r_adv (d := d) (c.fi 605 v)
    refine ⟨g, g1, (CT.fi _ _).tr g2.ct, g3, ?_⟩
    rw [g2.2.2.2.2.2.2.2.2 _ _ (by omega)]
    exact sFI_at _ _ _ _
  unfold kdn
  rw [q_X6_kindOfClock]
  by_cases c0 : wrd n T b = 8740238
  · obtain ⟨g, g1, g2, g3, g4⟩ := go 0
    rw [if_pos c0]
    refine ⟨fun z => absurd z (by decide), fun kd h3 e => ⟨g, ?_, g2, g3, by rw [g4, e], hb (by rw [c0]; decide)⟩⟩
    simp only [am_kd, k3, k1, if_true, f6, bR_s, ew, am_wd_w, am_wd_20, wd_20, c0, p0, if_false, am_let_e, rd_hK_sFI, rd_hFR_sFI, g1, bV_s, am_nar4_1]
  by_cases c1 : wrd n T b = 11263
  · obtain ⟨g, g1, g2, g3, g4⟩ := go 1
    rw [if_neg c0, if_pos c1]
    refine ⟨fun z => absurd z (by decide), fun kd h3 e => ⟨g, ?_, g2, g3, by rw [g4, e], hb (by rw [c1]; decide)⟩⟩
    simp only [am_kd, k3, k1, if_true, f6, bR_s, ew, am_wd_w, am_wd_20, wd_20, am_wd_21, wd_21, eq_false c0, eq_true c1, p1, if_false, am_let_e, rd_hK_sFI, rd_hFR_sFI, g1, bV_s, am_nar4_1]
  by_cases c2 : wrd n T b = 262775
  · obtain ⟨g, g1, g2, g3, g4⟩ := go 2
    rw [if_neg c0, if_neg c1, if_pos c2]
    refine ⟨fun z => absurd z (by decide), fun kd h3 e => ⟨g, ?_, g2, g3, by rw [g4, e], hb (by rw [c2]; decide)⟩⟩
    simp only [am_kd, k3, k1, if_true, f6, bR_s, ew, am_wd_w, am_wd_20, wd_20, am_wd_21, wd_21, am_wd_22, wd_22, eq_false c0, eq_false c1, eq_true c2, p2, if_false, am_let_e, rd_hK_sFI, rd_hFR_sFI, g1, bV_s, am_nar4_1]
  by_cases c3 : wrd n T b = 3074
  · obtain ⟨g, g1, g2, g3, g4⟩ := go 3
    rw [if_neg c0, if_neg c1, if_neg c2, if_pos c3]
    refine ⟨fun z => absurd z (by decide), fun kd h3 e => ⟨g, ?_, g2, g3, by rw [g4, e], hb (by rw [c3]; decide)⟩⟩
    simp only [am_kd, k3, k1, if_true, f6, bR_s, ew, am_wd_w, am_wd_20, wd_20, am_wd_21, wd_21, am_wd_22, wd_22, am_wd_23, wd_23, eq_false c0, eq_false c1, eq_false c2, eq_true c3, p3, if_false, am_let_e, rd_hK_sFI, rd_hFR_sFI, g1, bV_s, am_nar4_1]
  · rw [if_neg c0, if_neg c1, if_neg c2, if_neg c3]
    refine ⟨fun _ => ?_, fun kd h3 e => absurd (e ▸ (by decide : (-1 : Int32) < 0)) (nI_pos (by omega))⟩
    simp only [am_kd, k3, k1, if_true, f6, bR_s, ew, am_wd_w, am_wd_20, wd_20, am_wd_21, wd_21, am_wd_22, wd_22, am_wd_23, wd_23, eq_false c0, eq_false c1, eq_false c2, eq_false c3, n0, if_false, r_wrong c, bI_s, am_nar4_0]
theorem ln_clock {d d2 a n b np ny nc ne nw : Nat} {h g : AH} {T : Nat → Nat} (ha : a = 4 ∨ a = 30) (c : CX h a n T b) (m : MX g n T b) (P : PR h g a np ny nc ne nw) (hb : b < n) : Ln a n T b h g (am_C PG (d + 5) 90 [.ref 3] h) (am_C PG (d2 + 5) 191 [.ref 348] g) := by
  have ha3 : 3 < a := by omega
  have ha30 : a ≤ 30 := by omega
  have N := P.2.1
  obtain ⟨kc1, kc2, kc3, kc4, kc5, j1, j2, j3, j4, j5, l1, l2, l3, l4⟩ := P.1
  obtain ⟨k3, k1, ka, k14, k17, kr2, kr4, kr5, kr6, kr7, kr8, kr9, kr10, kr11, kr12, kr13, kr18, kr21, kr22, kr24, nr2, nr4, nr5, nr6, nr7, nr8, nr9, nr10, nr11, nr12, nr13, nr18, nr21, nr22, nr24⟩ := c.kl
  obtain ⟨f600, f601, f500, f506, f508, f509, f510, f511, f512, f513, f514, f515, f516, f517, f518, f519, f701, f704, f705, f707⟩ := c.fr
  have hm := m.1.1
  have m0 := hm.1
  have f1210 : hFR _ 1210 348 = some 350 := (hm.2 1 (by decide)).1
  have k350 : hK _ 350 = 50 := (hm.2 1 (by decide)).2.1
  have n350 : hLN _ 350 = 10 := (hm.2 1 (by decide)).2.2
  have f1212 : hFR _ 1212 348 = some 352 := (hm.2 3 (by decide)).1
  have k352 : hK _ 352 = 53 := (hm.2 3 (by decide)).2.1
  have n352 : hLN _ 352 = 12 := (hm.2 3 (by decide)).2.2
  have f1217 : hFR _ 1217 348 = some 357 := (hm.2 8 (by decide)).1
  have k357 : hK _ 357 = 50 := (hm.2 8 (by decide)).2.1
  have n357 : hLN _ 357 = 12 := (hm.2 8 (by decide)).2.2
  have f1218 : hFR _ 1218 348 = some 358 := (hm.2 9 (by decide)).1
  have k358 : hK _ 358 = 50 := (hm.2 9 (by decide)).2.1
  have n358 : hLN _ 358 = 12 := (hm.2 9 (by decide)).2.2
  have f1219 : hFR _ 1219 348 = some 359 := (hm.2 10 (by decide)).1
  have k359 : hK _ 359 = 50 := (hm.2 10 (by decide)).2.1
  have n359 : hLN _ 359 = 12 := (hm.2 10 (by decide)).2.2
  have f1220 : hFR _ 1220 348 = some 360 := (hm.2 11 (by decide)).1
  have k360 : hK _ 360 = 50 := (hm.2 11 (by decide)).2.1
  have n360 : hLN _ 360 = 12 := (hm.2 11 (by decide)).2.2
  have f1221 : hFR _ 1221 348 = some 361 := (hm.2 12 (by decide)).1
  have k361 : hK _ 361 = 50 := (hm.2 12 (by decide)).2.1
  have n361 : hLN _ 361 = 12 := (hm.2 12 (by decide)).2.2
  have z1 : ((1 : Int32) = 0) = False := eq_false (by decide)
  have ti : Int32.toNatClampNeg (nI nc) = nc := nI_clamp (by omega)
  have tm : Int32.toNatClampNeg (nI (6 + nc)) = 6 + nc := nI_clamp (by omega)
  have xm : (6 : Int32) + nI nc = nI (6 + nc) := nI_add 6 nc
  have xc : (5 : Int32) + nI nc = nI (5 + nc) := nI_add 5 nc
  have ep : ∀ x, am_in (7 : Int32) 10 x = x := am_inN (i := 7) (by decide) (by decide)
  have tp : Int32.toNatClampNeg (7 : Int32) = 7 := by decide
  rw [q_X6_clockLine, q_X12_readsTimer]
  by_cases hc : nc < 6
  · have ei : ∀ x, am_in (nI nc) 6 x = x := am_inN hc (by decide)
    have em : ∀ x, am_in (nI (6 + nc)) 12 x = x := am_inN (by omega) (by decide)
    have hlt : (nI nc < (6 : Int32)) = True := eq_true (nI_lt (b := 6) hc (by decide))
    have hne : (nI (6 + nc) = (12 : Int32)) = False := eq_false (fun z => by have := (nI_eq (b := 12) (by omega) (by decide)).1 z; omega)
    simp only [am_kd, am_let_e, bR_s, am_nar4_0, am_nar4_1, if_true, if_false, z1, rd_hK_sEI, rd_hFR_sEI, rd_hLN_sEI, rd_hFI_sEI, rd_hFJ_sEI, rd_hK_sEJ, rd_hFR_sEJ, rd_hLN_sEJ, rd_hFI_sEJ, rd_hAI_sEJ, rd_hK_sFI, rd_hFR_sFI, rd_hLN_sFI, rd_hAI_sFI, k3, k1, ka, k14, k17, kr2, kr4, kr5, kr6, kr7, kr8, kr9, kr10, kr11, kr12, kr13, kr18, kr21, kr22, kr24, nr2, nr4, nr5, nr6, nr7, nr8, nr9, nr10, nr11, nr12, nr13, nr18, nr21, nr22, nr24, f600, f601, f500, f506, f508, f509, f510, f511, f512, f513, f514, f515, f516, f517, f518, f519, f701, f704, f705, f707, m0, f1210, k350, n350, f1212, k352, n352, f1217, k357, n357, f1218, k358, n358, f1219, k359, n359, f1220, k360, n360, f1221, k361, n361, ep, tp, kc3, j3, xm, xc, hlt, hne]
    obtain ⟨h1, g1, x1, y1, q1, r1, c1, m1⟩ := st_adv (d := d + 1) (d2 := d2 + 2) c m
    rw [x1, y1, bV_s, bV_s]
    refine Ln.go (q1.cs a) r1.mz ?_
    obtain ⟨k3, k1, ka, k14, k17, kr2, kr4, kr5, kr6, kr7, kr8, kr9, kr10, kr11, kr12, kr13, kr18, kr21, kr22, kr24, nr2, nr4, nr5, nr6, nr7, nr8, nr9, nr10, nr11, nr12, nr13, nr18, nr21, nr22, nr24⟩ := c1.kl
    obtain ⟨f600, f601, f500, f506, f508, f509, f510, f511, f512, f513, f514, f515, f516, f517, f518, f519, f701, f704, f705, f707⟩ := c1.fr
    have hm := m1.1.1
    have m0 := hm.1
    have f1210 : hFR _ 1210 348 = some 350 := (hm.2 1 (by decide)).1
    have k350 : hK _ 350 = 50 := (hm.2 1 (by decide)).2.1
    have n350 : hLN _ 350 = 10 := (hm.2 1 (by decide)).2.2
    have f1212 : hFR _ 1212 348 = some 352 := (hm.2 3 (by decide)).1
    have k352 : hK _ 352 = 53 := (hm.2 3 (by decide)).2.1
    have n352 : hLN _ 352 = 12 := (hm.2 3 (by decide)).2.2
    have f1217 : hFR _ 1217 348 = some 357 := (hm.2 8 (by decide)).1
    have k357 : hK _ 357 = 50 := (hm.2 8 (by decide)).2.1
    have n357 : hLN _ 357 = 12 := (hm.2 8 (by decide)).2.2
    have f1218 : hFR _ 1218 348 = some 358 := (hm.2 9 (by decide)).1
    have k358 : hK _ 358 = 50 := (hm.2 9 (by decide)).2.1
    have n358 : hLN _ 358 = 12 := (hm.2 9 (by decide)).2.2
    have f1219 : hFR _ 1219 348 = some 359 := (hm.2 10 (by decide)).1
    have k359 : hK _ 359 = 50 := (hm.2 10 (by decide)).2.1
    have n359 : hLN _ 359 = 12 := (hm.2 10 (by decide)).2.2
    have f1220 : hFR _ 1220 348 = some 360 := (hm.2 11 (by decide)).1
    have k360 : hK _ 360 = 50 := (hm.2 11 (by decide)).2.1
    have n360 : hLN _ 360 = 12 := (hm.2 11 (by decide)).2.2
    have f1221 : hFR _ 1221 348 = some 361 := (hm.2 12 (by decide)).1
    have k361 : hK _ 361 = 50 := (hm.2 12 (by decide)).2.1
    have n361 : hLN _ 361 = 12 := (hm.2 12 (by decide)).2.2
    have P1 := P.ct ha3 ha30 q1 r1
    simp only [am_kd, am_let_e, bR_s, am_nar4_0, am_nar4_1, if_true, if_false, z1, rd_hK_sEI, rd_hFR_sEI, rd_hLN_sEI, rd_hFI_sEI, rd_hFJ_sEI, rd_hK_sEJ, rd_hFR_sEJ, rd_hLN_sEJ, rd_hFI_sEJ, rd_hAI_sEJ, rd_hK_sFI, rd_hFR_sFI, rd_hLN_sFI, rd_hAI_sFI, k3, k1, ka, k14, k17, kr2, kr4, kr5, kr6, kr7, kr8, kr9, kr10, kr11, kr12, kr13, kr18, kr21, kr22, kr24, nr2, nr4, nr5, nr6, nr7, nr8, nr9, nr10, nr11, nr12, nr13, nr18, nr21, nr22, nr24, f600, f601, f500, f506, f508, f509, f510, f511, f512, f513, f514, f515, f516, f517, f518, f519, f701, f704, f705, f707, m0, f1210, k350, n350, f1212, k352, n352, f1217, k357, n357, f1218, k358, n358, f1219, k359, n359, f1220, k360, n360, f1221, k361, n361]
    rcases st_new (d := d) (d2 := d2 + 1) (at' := 5 + nc) (av := nI (5 + nc)) (by omega) rfl P1.2.1 P1.1 c1 m1 with F | ⟨h2, g2, x2, y2, z2, s2, w0, q2, r2, c2, m2, -⟩
    · exact Ln.no (fun _ => rfl) (fun _ => rfl) F
    rw [x2, y2, bI_s, bI_s]
    simp only [am_kd, am_let_e, bR_s, am_nar4_0, am_nar4_1, if_true, if_false, z1, rd_hK_sEI, rd_hFR_sEI, rd_hLN_sEI, rd_hFI_sEI, rd_hFJ_sEI, rd_hK_sEJ, rd_hFR_sEJ, rd_hLN_sEJ, rd_hFI_sEJ, rd_hAI_sEJ, rd_hK_sFI, rd_hFR_sFI, rd_hLN_sFI, rd_hAI_sFI, k3, k1, ka, k14, k17, kr2, kr4, kr5, kr6, kr7, kr8, kr9, kr10, kr11, kr12, kr13, kr18, kr21, kr22, kr24, nr2, nr4, nr5, nr6, nr7, nr8, nr9, nr10, nr11, nr12, nr13, nr18, nr21, nr22, nr24, f600, f601, f500, f506, f508, f509, f510, f511, f512, f513, f514, f515, f516, f517, f518, f519, f701, f704, f705, f707, m0, f1210, k350, n350, f1212, k352, n352, f1217, k357, n357, f1218, k358, n358, f1219, k359, n359, f1220, k360, n360, f1221, k361, n361, z2, bV_s, s2]
    refine Ln.go ((CS.ej h1 (5 + nc) (wrd n T (nxt n T b))).tr (q2.cs a)) r2.mz ?_
    have S : WS h g h2 g2 a (hAI h) (hAI g) (vp_updL (hAJ h (a + 1)) (5 + nc) (wrd n T (nxt n T b))) := WS.new ha3 ha30 q1 r1 q2 r2
    obtain ⟨k3, k1, ka, k14, k17, kr2, kr4, kr5, kr6, kr7, kr8, kr9, kr10, kr11, kr12, kr13, kr18, kr21, kr22, kr24, nr2, nr4, nr5, nr6, nr7, nr8, nr9, nr10, nr11, nr12, nr13, nr18, nr21, nr22, nr24⟩ := c2.kl
    obtain ⟨f600, f601, f500, f506, f508, f509, f510, f511, f512, f513, f514, f515, f516, f517, f518, f519, f701, f704, f705, f707⟩ := c2.fr
    have hm := m2.1.1
    have m0 := hm.1
    have f1210 : hFR _ 1210 348 = some 350 := (hm.2 1 (by decide)).1
    have k350 : hK _ 350 = 50 := (hm.2 1 (by decide)).2.1
    have n350 : hLN _ 350 = 10 := (hm.2 1 (by decide)).2.2
    have f1212 : hFR _ 1212 348 = some 352 := (hm.2 3 (by decide)).1
    have k352 : hK _ 352 = 53 := (hm.2 3 (by decide)).2.1
    have n352 : hLN _ 352 = 12 := (hm.2 3 (by decide)).2.2
    have f1217 : hFR _ 1217 348 = some 357 := (hm.2 8 (by decide)).1
    have k357 : hK _ 357 = 50 := (hm.2 8 (by decide)).2.1
    have n357 : hLN _ 357 = 12 := (hm.2 8 (by decide)).2.2
    have f1218 : hFR _ 1218 348 = some 358 := (hm.2 9 (by decide)).1
    have k358 : hK _ 358 = 50 := (hm.2 9 (by decide)).2.1
    have n358 : hLN _ 358 = 12 := (hm.2 9 (by decide)).2.2
    have f1219 : hFR _ 1219 348 = some 359 := (hm.2 10 (by decide)).1
    have k359 : hK _ 359 = 50 := (hm.2 10 (by decide)).2.1
    have n359 : hLN _ 359 = 12 := (hm.2 10 (by decide)).2.2
    have f1220 : hFR _ 1220 348 = some 360 := (hm.2 11 (by decide)).1
    have k360 : hK _ 360 = 50 := (hm.2 11 (by decide)).2.1
    have n360 : hLN _ 360 = 12 := (hm.2 11 (by decide)).2.2
    have f1221 : hFR _ 1221 348 = some 361 := (hm.2 12 (by decide)).1
    have k361 : hK _ 361 = 50 := (hm.2 12 (by decide)).2.1
    have n361 : hLN _ 361 = 12 := (hm.2 12 (by decide)).2.2
    have w1 := m_isWord (d := d2 + 3) m2 (w := 8740238) (by decide)
    have w2 := m_isWord (d := d2 + 3) m2 (w := 11263) (by decide)
    have w3 := m_isWord (d := d2 + 3) m2 (w := 262775) (by decide)
    have w4 := m_isWord (d := d2 + 3) m2 (w := 3074) (by decide)
    have kz := fun s0 => q_X12_readsTimer_107 (d2 + 4) 348 (nI (6 + nc)) (wrd n T (nxt n T b)) s0 (nI (6 + nc)) 357 g2
    simp only [am_kd, am_let_e, bR_s, am_nar4_0, am_nar4_1, if_true, if_false, z1, rd_hK_sEI, rd_hFR_sEI, rd_hLN_sEI, rd_hFI_sEI, rd_hFJ_sEI, rd_hK_sEJ, rd_hFR_sEJ, rd_hLN_sEJ, rd_hFI_sEJ, rd_hAI_sEJ, rd_hK_sFI, rd_hFR_sFI, rd_hLN_sFI, rd_hAI_sFI, k3, k1, ka, k14, k17, kr2, kr4, kr5, kr6, kr7, kr8, kr9, kr10, kr11, kr12, kr13, kr18, kr21, kr22, kr24, nr2, nr4, nr5, nr6, nr7, nr8, nr9, nr10, nr11, nr12, nr13, nr18, nr21, nr22, nr24, f600, f601, f500, f506, f508, f509, f510, f511, f512, f513, f514, f515, f516, f517, f518, f519, f701, f704, f705, f707, m0, f1210, k350, n350, f1212, k352, n352, f1217, k357, n357, f1218, k358, n358, f1219, k359, n359, f1220, k360, n360, f1221, k361, n361, w1, w2, w3, w4, bI_s]
    rw [kdn_k (wrd n T (nxt n T (nxt n T b))) (fun s0 => am_R PG (d2 + 4 + 1) 191 107 [some (.ref 348), some (.int (nI (6 + nc))), some (.long (wrd n T (nxt n T b))), none] [.int s0, .int (nI (6 + nc)), .ref 357] g2), kz]
    have n0 : ((-1 : Int32) < 0) = True := eq_true (by decide)
    have D := S.2.2.1
    rcases kdn_c (wrd n T (nxt n T (nxt n T b))) with ek | ⟨kd, hk3, ek⟩
    · have e57 : hAI (sEI g2 357 (6 + nc) (-1)) 357 (6 + nc) = -1 := by rw [sEI_at, pk_us]
      simp only [am_kd, am_let_e, bR_s, am_nar4_0, am_nar4_1, if_true, if_false, z1, rd_hK_sEI, rd_hFR_sEI, rd_hLN_sEI, rd_hFI_sEI, rd_hFJ_sEI, rd_hK_sEJ, rd_hFR_sEJ, rd_hLN_sEJ, rd_hFI_sEJ, rd_hAI_sEJ, rd_hK_sFI, rd_hFR_sFI, rd_hLN_sFI, rd_hAI_sFI, k3, k1, ka, k14, k17, kr2, kr4, kr5, kr6, kr7, kr8, kr9, kr10, kr11, kr12, kr13, kr18, kr21, kr22, kr24, nr2, nr4, nr5, nr6, nr7, nr8, nr9, nr10, nr11, nr12, nr13, nr18, nr21, nr22, nr24, f600, f601, f500, f506, f508, f509, f510, f511, f512, f513, f514, f515, f516, f517, f518, f519, f701, f704, f705, f707, m0, f1210, k350, n350, f1212, k352, n352, f1217, k357, n357, f1218, k358, n358, f1219, k359, n359, f1220, k360, n360, f1221, k361, n361, em, tm, ek, e57, n0]
      refine Ln.go (CS.rfl' a _) (MZ.ei g2 (r := 357) (i := 6 + nc) (-1) (by decide) (by have : hf 357 = 6 := rfl; omega)) ?_
      refine Ln.no (fun _ => rfl) (fun _ => rfl) ⟨_, h2, _, fz_ne (k := 1) (by decide) (by decide) ?_, (r_kind (d := d) c2).1 (by rw [ek]; decide), m_fails (d := d2 + 3) (m2.ei (r := 357) (6 + nc) (-1) (by decide)) 1, CT.rfl' _, MT.rfl' _⟩
      have := c2.le; have := c2.ff.2.2.2.2.2.2.2; omega
    obtain ⟨h3, x3, q3, c3, e605, -⟩ := (r_kind (d := d) c2).2 kd hk3 ek
    have e57 : hAI (sEI g2 357 (6 + nc) (nI kd)) 357 (6 + nc) = nI kd := by rw [sEI_at, pk_us]
    have n1 : (nI kd < 0) = False := eq_false (nI_pos (by omega))
    obtain ⟨g3, yk, rk, mk⟩ := m_adv (d := d2 + 2) (m2.ei (r := 357) (6 + nc) (nI kd) (by decide))
    rw [x3, bI_s]
    obtain ⟨k3, k1, ka, k14, k17, kr2, kr4, kr5, kr6, kr7, kr8, kr9, kr10, kr11, kr12, kr13, kr18, kr21, kr22, kr24, nr2, nr4, nr5, nr6, nr7, nr8, nr9, nr10, nr11, nr12, nr13, nr18, nr21, nr22, nr24⟩ := c3.kl
    obtain ⟨f600, f601, f500, f506, f508, f509, f510, f511, f512, f513, f514, f515, f516, f517, f518, f519, f701, f704, f705, f707⟩ := c3.fr
    have S := S.ct ha3 ha30 q3 (MT.rfl' _)
    have D := S.2.2.1
    simp only [am_kd, am_let_e, bR_s, am_nar4_0, am_nar4_1, if_true, if_false, z1, rd_hK_sEI, rd_hFR_sEI, rd_hLN_sEI, rd_hFI_sEI, rd_hFJ_sEI, rd_hK_sEJ, rd_hFR_sEJ, rd_hLN_sEJ, rd_hFI_sEJ, rd_hAI_sEJ, rd_hK_sFI, rd_hFR_sFI, rd_hLN_sFI, rd_hAI_sFI, k3, k1, ka, k14, k17, kr2, kr4, kr5, kr6, kr7, kr8, kr9, kr10, kr11, kr12, kr13, kr18, kr21, kr22, kr24, nr2, nr4, nr5, nr6, nr7, nr8, nr9, nr10, nr11, nr12, nr13, nr18, nr21, nr22, nr24, f600, f601, f500, f506, f508, f509, f510, f511, f512, f513, f514, f515, f516, f517, f518, f519, f701, f704, f705, f707, m0, f1210, k350, n350, f1212, k352, n352, f1217, k357, n357, f1218, k358, n358, f1219, k359, n359, f1220, k360, n360, f1221, k361, n361, em, tm, ek, e57, n1, ei, ti, e605, yk, bV_s]
    refine Ln.go ((q3.cs a).tr (CS.ei h3 nc (nI kd) (r := a + 4) (by omega))) ((MZ.ei g2 (nI kd) (by decide) (by have : hf 357 = 6 := rfl; omega)).tr rk.mt.mz) ?_
    have S := (S.ew (a + 4) nc (nI kd) 357 (6 + nc) (nI kd)).ct ha3 ha30 (CT.rfl' _) rk.mt
    have ck := c3.ei (r := a + 4) nc (nI kd) (by omega)
    obtain ⟨k3, k1, ka, k14, k17, kr2, kr4, kr5, kr6, kr7, kr8, kr9, kr10, kr11, kr12, kr13, kr18, kr21, kr22, kr24, nr2, nr4, nr5, nr6, nr7, nr8, nr9, nr10, nr11, nr12, nr13, nr18, nr21, nr22, nr24⟩ := ck.kl
    obtain ⟨f600, f601, f500, f506, f508, f509, f510, f511, f512, f513, f514, f515, f516, f517, f518, f519, f701, f704, f705, f707⟩ := ck.fr
    have hm := mk.1.1
    have m0 := hm.1
    have f1210 : hFR _ 1210 348 = some 350 := (hm.2 1 (by decide)).1
    have k350 : hK _ 350 = 50 := (hm.2 1 (by decide)).2.1
    have n350 : hLN _ 350 = 10 := (hm.2 1 (by decide)).2.2
    have f1212 : hFR _ 1212 348 = some 352 := (hm.2 3 (by decide)).1
    have k352 : hK _ 352 = 53 := (hm.2 3 (by decide)).2.1
    have n352 : hLN _ 352 = 12 := (hm.2 3 (by decide)).2.2
    have f1217 : hFR _ 1217 348 = some 357 := (hm.2 8 (by decide)).1
    have k357 : hK _ 357 = 50 := (hm.2 8 (by decide)).2.1
    have n357 : hLN _ 357 = 12 := (hm.2 8 (by decide)).2.2
    have f1218 : hFR _ 1218 348 = some 358 := (hm.2 9 (by decide)).1
    have k358 : hK _ 358 = 50 := (hm.2 9 (by decide)).2.1
    have n358 : hLN _ 358 = 12 := (hm.2 9 (by decide)).2.2
    have f1219 : hFR _ 1219 348 = some 359 := (hm.2 10 (by decide)).1
    have k359 : hK _ 359 = 50 := (hm.2 10 (by decide)).2.1
    have n359 : hLN _ 359 = 12 := (hm.2 10 (by decide)).2.2
    have f1220 : hFR _ 1220 348 = some 360 := (hm.2 11 (by decide)).1
    have k360 : hK _ 360 = 50 := (hm.2 11 (by decide)).2.1
    have n360 : hLN _ 360 = 12 := (hm.2 11 (by decide)).2.2
    have f1221 : hFR _ 1221 348 = some 361 := (hm.2 12 (by decide)).1
    have k361 : hK _ 361 = 50 := (hm.2 12 (by decide)).2.1
    have n361 : hLN _ 361 = 12 := (hm.2 12 (by decide)).2.2
    rw [m_takes_e]
    have D := S.2.2.1
    simp only [am_kd, am_let_e, bR_s, am_nar4_0, am_nar4_1, if_true, if_false, z1, rd_hK_sEI, rd_hFR_sEI, rd_hLN_sEI, rd_hFI_sEI, rd_hFJ_sEI, rd_hK_sEJ, rd_hFR_sEJ, rd_hLN_sEJ, rd_hFI_sEJ, rd_hAI_sEJ, rd_hK_sFI, rd_hFR_sFI, rd_hLN_sFI, rd_hAI_sFI, k3, k1, ka, k14, k17, kr2, kr4, kr5, kr6, kr7, kr8, kr9, kr10, kr11, kr12, kr13, kr18, kr21, kr22, kr24, nr2, nr4, nr5, nr6, nr7, nr8, nr9, nr10, nr11, nr12, nr13, nr18, nr21, nr22, nr24, f600, f601, f500, f506, f508, f509, f510, f511, f512, f513, f514, f515, f516, f517, f518, f519, f701, f704, f705, f707, m0, f1210, k350, n350, f1212, k352, n352, f1217, k357, n357, f1218, k358, n358, f1219, k359, n359, f1220, k360, n360, f1221, k361, n361, D, kc1, kc2, kc3, kc4, kc5]
    rcases st_word (d := d) (d2 := d2) (w := 47) (r := 1000004) (k := 4) rfl rfl (by decide) ck mk with ⟨-, F⟩ | ⟨-, h4, g4, x4, y4, q4, r4, c4, m4, -⟩
    · exact Ln.no (fun _ => rfl) (fun _ => rfl) F
    rw [x4, y4, bI_s, bI_s]
    have S := S.ct ha3 ha30 q4 r4
    have D := S.2.2.1
    refine Ln.go (q4.cs a) r4.mz ?_
    obtain ⟨k3, k1, ka, k14, k17, kr2, kr4, kr5, kr6, kr7, kr8, kr9, kr10, kr11, kr12, kr13, kr18, kr21, kr22, kr24, nr2, nr4, nr5, nr6, nr7, nr8, nr9, nr10, nr11, nr12, nr13, nr18, nr21, nr22, nr24⟩ := c4.kl
    obtain ⟨f600, f601, f500, f506, f508, f509, f510, f511, f512, f513, f514, f515, f516, f517, f518, f519, f701, f704, f705, f707⟩ := c4.fr
    have hm := m4.1.1
    have m0 := hm.1
    have f1210 : hFR _ 1210 348 = some 350 := (hm.2 1 (by decide)).1
    have k350 : hK _ 350 = 50 := (hm.2 1 (by decide)).2.1
    have n350 : hLN _ 350 = 10 := (hm.2 1 (by decide)).2.2
    have f1212 : hFR _ 1212 348 = some 352 := (hm.2 3 (by decide)).1
    have k352 : hK _ 352 = 53 := (hm.2 3 (by decide)).2.1
    have n352 : hLN _ 352 = 12 := (hm.2 3 (by decide)).2.2
    have f1217 : hFR _ 1217 348 = some 357 := (hm.2 8 (by decide)).1
    have k357 : hK _ 357 = 50 := (hm.2 8 (by decide)).2.1
    have n357 : hLN _ 357 = 12 := (hm.2 8 (by decide)).2.2
    have f1218 : hFR _ 1218 348 = some 358 := (hm.2 9 (by decide)).1
    have k358 : hK _ 358 = 50 := (hm.2 9 (by decide)).2.1
    have n358 : hLN _ 358 = 12 := (hm.2 9 (by decide)).2.2
    have f1219 : hFR _ 1219 348 = some 359 := (hm.2 10 (by decide)).1
    have k359 : hK _ 359 = 50 := (hm.2 10 (by decide)).2.1
    have n359 : hLN _ 359 = 12 := (hm.2 10 (by decide)).2.2
    have f1220 : hFR _ 1220 348 = some 360 := (hm.2 11 (by decide)).1
    have k360 : hK _ 360 = 50 := (hm.2 11 (by decide)).2.1
    have n360 : hLN _ 360 = 12 := (hm.2 11 (by decide)).2.2
    have f1221 : hFR _ 1221 348 = some 361 := (hm.2 12 (by decide)).1
    have k361 : hK _ 361 = 50 := (hm.2 12 (by decide)).2.1
    have n361 : hLN _ 361 = 12 := (hm.2 12 (by decide)).2.2
    simp only [am_kd, am_let_e, bR_s, am_nar4_0, am_nar4_1, if_true, if_false, z1, rd_hK_sEI, rd_hFR_sEI, rd_hLN_sEI, rd_hFI_sEI, rd_hFJ_sEI, rd_hK_sEJ, rd_hFR_sEJ, rd_hLN_sEJ, rd_hFI_sEJ, rd_hAI_sEJ, rd_hK_sFI, rd_hFR_sFI, rd_hLN_sFI, rd_hAI_sFI, k3, k1, ka, k14, k17, kr2, kr4, kr5, kr6, kr7, kr8, kr9, kr10, kr11, kr12, kr13, kr18, kr21, kr22, kr24, nr2, nr4, nr5, nr6, nr7, nr8, nr9, nr10, nr11, nr12, nr13, nr18, nr21, nr22, nr24, f600, f601, f500, f506, f508, f509, f510, f511, f512, f513, f514, f515, f516, f517, f518, f519, f701, f704, f705, f707, m0, f1210, k350, n350, f1212, k352, n352, f1217, k357, n357, f1218, k358, n358, f1219, k359, n359, f1220, k360, n360, f1221, k361, n361, D, kc1, kc2, kc3, kc4, kc5]
    rcases st_told0 (d := d) (d2 := d2) (r := 1) (rr := 1) (ff := 0) (mm := nI np) rfl rfl rfl (by decide) (by rw [S.2.2.2.2.2.1, am_up_ne (by decide)]; exact j1) l1 (fun j hj => by rw [S.2.1, S.2.2.2.2.2.2.1, pk_uLn (by omega)]; rw [Nat.zero_add]; exact N.1.1 j hj) c4 m4 with F | ⟨st, h5, gg5, g5, v5, x5, y5, z5, kg, -, e605, e1246, q5, r5, c5, m5, -⟩
    · exact Ln.no (fun _ => rfl) (fun _ => rfl) F
    rw [x5, y5, bI_s, bI_s]
    simp only [am_kd, am_let_e, bR_s, am_nar4_0, am_nar4_1, if_true, if_false, z1, rd_hK_sEI, rd_hFR_sEI, rd_hLN_sEI, rd_hFI_sEI, rd_hFJ_sEI, rd_hK_sEJ, rd_hFR_sEJ, rd_hLN_sEJ, rd_hFI_sEJ, rd_hAI_sEJ, rd_hK_sFI, rd_hFR_sFI, rd_hLN_sFI, rd_hAI_sFI, k3, k1, ka, k14, k17, kr2, kr4, kr5, kr6, kr7, kr8, kr9, kr10, kr11, kr12, kr13, kr18, kr21, kr22, kr24, nr2, nr4, nr5, nr6, nr7, nr8, nr9, nr10, nr11, nr12, nr13, nr18, nr21, nr22, nr24, f600, f601, f500, f506, f508, f509, f510, f511, f512, f513, f514, f515, f516, f517, f518, f519, f701, f704, f705, f707, m0, f1210, k350, n350, f1212, k352, n352, f1217, k357, n357, f1218, k358, n358, f1219, k359, n359, f1220, k360, n360, f1221, k361, n361, kg, z5, bV_s]
    have S := S.ct ha3 ha30 q5 r5
    have D := S.2.2.1
    refine Ln.go (q5.cs a) r5.mz ?_
    obtain ⟨k3, k1, ka, k14, k17, kr2, kr4, kr5, kr6, kr7, kr8, kr9, kr10, kr11, kr12, kr13, kr18, kr21, kr22, kr24, nr2, nr4, nr5, nr6, nr7, nr8, nr9, nr10, nr11, nr12, nr13, nr18, nr21, nr22, nr24⟩ := c5.kl
    obtain ⟨f600, f601, f500, f506, f508, f509, f510, f511, f512, f513, f514, f515, f516, f517, f518, f519, f701, f704, f705, f707⟩ := c5.fr
    have hm := m5.1.1
    have m0 := hm.1
    have f1210 : hFR _ 1210 348 = some 350 := (hm.2 1 (by decide)).1
    have k350 : hK _ 350 = 50 := (hm.2 1 (by decide)).2.1
    have n350 : hLN _ 350 = 10 := (hm.2 1 (by decide)).2.2
    have f1212 : hFR _ 1212 348 = some 352 := (hm.2 3 (by decide)).1
    have k352 : hK _ 352 = 53 := (hm.2 3 (by decide)).2.1
    have n352 : hLN _ 352 = 12 := (hm.2 3 (by decide)).2.2
    have f1217 : hFR _ 1217 348 = some 357 := (hm.2 8 (by decide)).1
    have k357 : hK _ 357 = 50 := (hm.2 8 (by decide)).2.1
    have n357 : hLN _ 357 = 12 := (hm.2 8 (by decide)).2.2
    have f1218 : hFR _ 1218 348 = some 358 := (hm.2 9 (by decide)).1
    have k358 : hK _ 358 = 50 := (hm.2 9 (by decide)).2.1
    have n358 : hLN _ 358 = 12 := (hm.2 9 (by decide)).2.2
    have f1219 : hFR _ 1219 348 = some 359 := (hm.2 10 (by decide)).1
    have k359 : hK _ 359 = 50 := (hm.2 10 (by decide)).2.1
    have n359 : hLN _ 359 = 12 := (hm.2 10 (by decide)).2.2
    have f1220 : hFR _ 1220 348 = some 360 := (hm.2 11 (by decide)).1
    have k360 : hK _ 360 = 50 := (hm.2 11 (by decide)).2.1
    have n360 : hLN _ 360 = 12 := (hm.2 11 (by decide)).2.2
    have f1221 : hFR _ 1221 348 = some 361 := (hm.2 12 (by decide)).1
    have k361 : hK _ 361 = 50 := (hm.2 12 (by decide)).2.1
    have n361 : hLN _ 361 = 12 := (hm.2 12 (by decide)).2.2
    simp only [am_kd, am_let_e, bR_s, am_nar4_0, am_nar4_1, if_true, if_false, z1, rd_hK_sEI, rd_hFR_sEI, rd_hLN_sEI, rd_hFI_sEI, rd_hFJ_sEI, rd_hK_sEJ, rd_hFR_sEJ, rd_hLN_sEJ, rd_hFI_sEJ, rd_hAI_sEJ, rd_hK_sFI, rd_hFR_sFI, rd_hLN_sFI, rd_hAI_sFI, k3, k1, ka, k14, k17, kr2, kr4, kr5, kr6, kr7, kr8, kr9, kr10, kr11, kr12, kr13, kr18, kr21, kr22, kr24, nr2, nr4, nr5, nr6, nr7, nr8, nr9, nr10, nr11, nr12, nr13, nr18, nr21, nr22, nr24, f600, f601, f500, f506, f508, f509, f510, f511, f512, f513, f514, f515, f516, f517, f518, f519, f701, f704, f705, f707, m0, f1210, k350, n350, f1212, k352, n352, f1217, k357, n357, f1218, k358, n358, f1219, k359, n359, f1220, k360, n360, f1221, k361, n361, ei, ti, em, tm, e605, e1246]
    refine Ln.go (CS.ei h5 nc (nI st) (r := a + 5) (by omega)) (MZ.ei g5 (r := 358) (i := 6 + nc) (nI st) (by decide) (by have : hf 358 = 6 := rfl; omega)) ?_
    have S := S.ew (a + 5) nc (nI st) 358 (6 + nc) (nI st)
    have c5w := c5.ei (r := a + 5) nc (nI st) (by omega)
    have m5w := m5.ei (r := 358) (6 + nc) (nI st) (by decide)
    obtain ⟨k3, k1, ka, k14, k17, kr2, kr4, kr5, kr6, kr7, kr8, kr9, kr10, kr11, kr12, kr13, kr18, kr21, kr22, kr24, nr2, nr4, nr5, nr6, nr7, nr8, nr9, nr10, nr11, nr12, nr13, nr18, nr21, nr22, nr24⟩ := c5w.kl
    obtain ⟨f600, f601, f500, f506, f508, f509, f510, f511, f512, f513, f514, f515, f516, f517, f518, f519, f701, f704, f705, f707⟩ := c5w.fr
    have hm := m5w.1.1
    have m0 := hm.1
    have f1210 : hFR _ 1210 348 = some 350 := (hm.2 1 (by decide)).1
    have k350 : hK _ 350 = 50 := (hm.2 1 (by decide)).2.1
    have n350 : hLN _ 350 = 10 := (hm.2 1 (by decide)).2.2
    have f1212 : hFR _ 1212 348 = some 352 := (hm.2 3 (by decide)).1
    have k352 : hK _ 352 = 53 := (hm.2 3 (by decide)).2.1
    have n352 : hLN _ 352 = 12 := (hm.2 3 (by decide)).2.2
    have f1217 : hFR _ 1217 348 = some 357 := (hm.2 8 (by decide)).1
    have k357 : hK _ 357 = 50 := (hm.2 8 (by decide)).2.1
    have n357 : hLN _ 357 = 12 := (hm.2 8 (by decide)).2.2
    have f1218 : hFR _ 1218 348 = some 358 := (hm.2 9 (by decide)).1
    have k358 : hK _ 358 = 50 := (hm.2 9 (by decide)).2.1
    have n358 : hLN _ 358 = 12 := (hm.2 9 (by decide)).2.2
    have f1219 : hFR _ 1219 348 = some 359 := (hm.2 10 (by decide)).1
    have k359 : hK _ 359 = 50 := (hm.2 10 (by decide)).2.1
    have n359 : hLN _ 359 = 12 := (hm.2 10 (by decide)).2.2
    have f1220 : hFR _ 1220 348 = some 360 := (hm.2 11 (by decide)).1
    have k360 : hK _ 360 = 50 := (hm.2 11 (by decide)).2.1
    have n360 : hLN _ 360 = 12 := (hm.2 11 (by decide)).2.2
    have f1221 : hFR _ 1221 348 = some 361 := (hm.2 12 (by decide)).1
    have k361 : hK _ 361 = 50 := (hm.2 12 (by decide)).2.1
    have n361 : hLN _ 361 = 12 := (hm.2 12 (by decide)).2.2
    rw [m_both_e]
    have D := S.2.2.1
    simp only [am_kd, am_let_e, bR_s, am_nar4_0, am_nar4_1, if_true, if_false, z1, rd_hK_sEI, rd_hFR_sEI, rd_hLN_sEI, rd_hFI_sEI, rd_hFJ_sEI, rd_hK_sEJ, rd_hFR_sEJ, rd_hLN_sEJ, rd_hFI_sEJ, rd_hAI_sEJ, rd_hK_sFI, rd_hFR_sFI, rd_hLN_sFI, rd_hAI_sFI, k3, k1, ka, k14, k17, kr2, kr4, kr5, kr6, kr7, kr8, kr9, kr10, kr11, kr12, kr13, kr18, kr21, kr22, kr24, nr2, nr4, nr5, nr6, nr7, nr8, nr9, nr10, nr11, nr12, nr13, nr18, nr21, nr22, nr24, f600, f601, f500, f506, f508, f509, f510, f511, f512, f513, f514, f515, f516, f517, f518, f519, f701, f704, f705, f707, m0, f1210, k350, n350, f1212, k352, n352, f1217, k357, n357, f1218, k358, n358, f1219, k359, n359, f1220, k360, n360, f1221, k361, n361, D, kc1, kc2, kc3, kc4, kc5]
    rcases st_word (d := d) (d2 := d2) (w := 4555648) (r := 1000005) (k := 5) rfl rfl (by decide) c5w m5w with ⟨-, F⟩ | ⟨-, h6, g6, x6, y6, q6, r6, c6, m6, -⟩
    · exact Ln.no (fun _ => rfl) (fun _ => rfl) F
    rw [x6, y6, bI_s, bI_s]
    have S := S.ct ha3 ha30 q6 r6
    have D := S.2.2.1
    refine Ln.go (q6.cs a) r6.mz ?_
    obtain ⟨k3, k1, ka, k14, k17, kr2, kr4, kr5, kr6, kr7, kr8, kr9, kr10, kr11, kr12, kr13, kr18, kr21, kr22, kr24, nr2, nr4, nr5, nr6, nr7, nr8, nr9, nr10, nr11, nr12, nr13, nr18, nr21, nr22, nr24⟩ := c6.kl
    obtain ⟨f600, f601, f500, f506, f508, f509, f510, f511, f512, f513, f514, f515, f516, f517, f518, f519, f701, f704, f705, f707⟩ := c6.fr
    have hm := m6.1.1
    have m0 := hm.1
    have f1210 : hFR _ 1210 348 = some 350 := (hm.2 1 (by decide)).1
    have k350 : hK _ 350 = 50 := (hm.2 1 (by decide)).2.1
    have n350 : hLN _ 350 = 10 := (hm.2 1 (by decide)).2.2
    have f1212 : hFR _ 1212 348 = some 352 := (hm.2 3 (by decide)).1
    have k352 : hK _ 352 = 53 := (hm.2 3 (by decide)).2.1
    have n352 : hLN _ 352 = 12 := (hm.2 3 (by decide)).2.2
    have f1217 : hFR _ 1217 348 = some 357 := (hm.2 8 (by decide)).1
    have k357 : hK _ 357 = 50 := (hm.2 8 (by decide)).2.1
    have n357 : hLN _ 357 = 12 := (hm.2 8 (by decide)).2.2
    have f1218 : hFR _ 1218 348 = some 358 := (hm.2 9 (by decide)).1
    have k358 : hK _ 358 = 50 := (hm.2 9 (by decide)).2.1
    have n358 : hLN _ 358 = 12 := (hm.2 9 (by decide)).2.2
    have f1219 : hFR _ 1219 348 = some 359 := (hm.2 10 (by decide)).1
    have k359 : hK _ 359 = 50 := (hm.2 10 (by decide)).2.1
    have n359 : hLN _ 359 = 12 := (hm.2 10 (by decide)).2.2
    have f1220 : hFR _ 1220 348 = some 360 := (hm.2 11 (by decide)).1
    have k360 : hK _ 360 = 50 := (hm.2 11 (by decide)).2.1
    have n360 : hLN _ 360 = 12 := (hm.2 11 (by decide)).2.2
    have f1221 : hFR _ 1221 348 = some 361 := (hm.2 12 (by decide)).1
    have k361 : hK _ 361 = 50 := (hm.2 12 (by decide)).2.1
    have n361 : hLN _ 361 = 12 := (hm.2 12 (by decide)).2.2
    simp only [am_kd, am_let_e, bR_s, am_nar4_0, am_nar4_1, if_true, if_false, z1, rd_hK_sEI, rd_hFR_sEI, rd_hLN_sEI, rd_hFI_sEI, rd_hFJ_sEI, rd_hK_sEJ, rd_hFR_sEJ, rd_hLN_sEJ, rd_hFI_sEJ, rd_hAI_sEJ, rd_hK_sFI, rd_hFR_sFI, rd_hLN_sFI, rd_hAI_sFI, k3, k1, ka, k14, k17, kr2, kr4, kr5, kr6, kr7, kr8, kr9, kr10, kr11, kr12, kr13, kr18, kr21, kr22, kr24, nr2, nr4, nr5, nr6, nr7, nr8, nr9, nr10, nr11, nr12, nr13, nr18, nr21, nr22, nr24, f600, f601, f500, f506, f508, f509, f510, f511, f512, f513, f514, f515, f516, f517, f518, f519, f701, f704, f705, f707, m0, f1210, k350, n350, f1212, k352, n352, f1217, k357, n357, f1218, k358, n358, f1219, k359, n359, f1220, k360, n360, f1221, k361, n361, D, kc1, kc2, kc3, kc4, kc5]
    rcases st_number (d := d) (d2 := d2) (lo := 1) (hi := 999) (l := 1) (u := 999) rfl rfl (by decide) (by omega) c6 m6 with F | ⟨ho, h7, g7, v7, u7, x7, y7, e605, e1246, q7, r7, c7, m7, b7⟩
    · exact Ln.no (fun _ => rfl) (fun _ => rfl) F
    rw [x7, y7, bI_s, bI_s]
    have S := S.ct ha3 ha30 q7 r7
    have D := S.2.2.1
    refine Ln.go (q7.cs a) r7.mz ?_
    obtain ⟨k3, k1, ka, k14, k17, kr2, kr4, kr5, kr6, kr7, kr8, kr9, kr10, kr11, kr12, kr13, kr18, kr21, kr22, kr24, nr2, nr4, nr5, nr6, nr7, nr8, nr9, nr10, nr11, nr12, nr13, nr18, nr21, nr22, nr24⟩ := c7.kl
    obtain ⟨f600, f601, f500, f506, f508, f509, f510, f511, f512, f513, f514, f515, f516, f517, f518, f519, f701, f704, f705, f707⟩ := c7.fr
    have hm := m7.1.1
    have m0 := hm.1
    have f1210 : hFR _ 1210 348 = some 350 := (hm.2 1 (by decide)).1
    have k350 : hK _ 350 = 50 := (hm.2 1 (by decide)).2.1
    have n350 : hLN _ 350 = 10 := (hm.2 1 (by decide)).2.2
    have f1212 : hFR _ 1212 348 = some 352 := (hm.2 3 (by decide)).1
    have k352 : hK _ 352 = 53 := (hm.2 3 (by decide)).2.1
    have n352 : hLN _ 352 = 12 := (hm.2 3 (by decide)).2.2
    have f1217 : hFR _ 1217 348 = some 357 := (hm.2 8 (by decide)).1
    have k357 : hK _ 357 = 50 := (hm.2 8 (by decide)).2.1
    have n357 : hLN _ 357 = 12 := (hm.2 8 (by decide)).2.2
    have f1218 : hFR _ 1218 348 = some 358 := (hm.2 9 (by decide)).1
    have k358 : hK _ 358 = 50 := (hm.2 9 (by decide)).2.1
    have n358 : hLN _ 358 = 12 := (hm.2 9 (by decide)).2.2
    have f1219 : hFR _ 1219 348 = some 359 := (hm.2 10 (by decide)).1
    have k359 : hK _ 359 = 50 := (hm.2 10 (by decide)).2.1
    have n359 : hLN _ 359 = 12 := (hm.2 10 (by decide)).2.2
    have f1220 : hFR _ 1220 348 = some 360 := (hm.2 11 (by decide)).1
    have k360 : hK _ 360 = 50 := (hm.2 11 (by decide)).2.1
    have n360 : hLN _ 360 = 12 := (hm.2 11 (by decide)).2.2
    have f1221 : hFR _ 1221 348 = some 361 := (hm.2 12 (by decide)).1
    have k361 : hK _ 361 = 50 := (hm.2 12 (by decide)).2.1
    have n361 : hLN _ 361 = 12 := (hm.2 12 (by decide)).2.2
    simp only [am_kd, am_let_e, bR_s, am_nar4_0, am_nar4_1, if_true, if_false, z1, rd_hK_sEI, rd_hFR_sEI, rd_hLN_sEI, rd_hFI_sEI, rd_hFJ_sEI, rd_hK_sEJ, rd_hFR_sEJ, rd_hLN_sEJ, rd_hFI_sEJ, rd_hAI_sEJ, rd_hK_sFI, rd_hFR_sFI, rd_hLN_sFI, rd_hAI_sFI, k3, k1, ka, k14, k17, kr2, kr4, kr5, kr6, kr7, kr8, kr9, kr10, kr11, kr12, kr13, kr18, kr21, kr22, kr24, nr2, nr4, nr5, nr6, nr7, nr8, nr9, nr10, nr11, nr12, nr13, nr18, nr21, nr22, nr24, f600, f601, f500, f506, f508, f509, f510, f511, f512, f513, f514, f515, f516, f517, f518, f519, f701, f704, f705, f707, m0, f1210, k350, n350, f1212, k352, n352, f1217, k357, n357, f1218, k358, n358, f1219, k359, n359, f1220, k360, n360, f1221, k361, n361, ei, ti, em, tm, e605, e1246]
    have eho2 : hAI (sEI g7 359 (6 + nc) (nI ho)) 359 (6 + nc) = nI ho := by rw [sEI_at, pk_us]
    simp only [eho2]
    refine Ln.go (CS.ei h7 nc (nI ho) (r := a + 6) (by omega)) (MZ.ei g7 (r := 359) (i := 6 + nc) (nI ho) (by decide) (by have : hf 359 = 6 := rfl; omega)) ?_
    have S := S.ew (a + 6) nc (nI ho) 359 (6 + nc) (nI ho)
    have c7w := c7.ei (r := a + 6) nc (nI ho) (by omega)
    have m7w := m7.ei (r := 359) (6 + nc) (nI ho) (by decide)
    obtain ⟨k3, k1, ka, k14, k17, kr2, kr4, kr5, kr6, kr7, kr8, kr9, kr10, kr11, kr12, kr13, kr18, kr21, kr22, kr24, nr2, nr4, nr5, nr6, nr7, nr8, nr9, nr10, nr11, nr12, nr13, nr18, nr21, nr22, nr24⟩ := c7w.kl
    obtain ⟨f600, f601, f500, f506, f508, f509, f510, f511, f512, f513, f514, f515, f516, f517, f518, f519, f701, f704, f705, f707⟩ := c7w.fr
    have hm := m7w.1.1
    have m0 := hm.1
    have f1210 : hFR _ 1210 348 = some 350 := (hm.2 1 (by decide)).1
    have k350 : hK _ 350 = 50 := (hm.2 1 (by decide)).2.1
    have n350 : hLN _ 350 = 10 := (hm.2 1 (by decide)).2.2
    have f1212 : hFR _ 1212 348 = some 352 := (hm.2 3 (by decide)).1
    have k352 : hK _ 352 = 53 := (hm.2 3 (by decide)).2.1
    have n352 : hLN _ 352 = 12 := (hm.2 3 (by decide)).2.2
    have f1217 : hFR _ 1217 348 = some 357 := (hm.2 8 (by decide)).1
    have k357 : hK _ 357 = 50 := (hm.2 8 (by decide)).2.1
    have n357 : hLN _ 357 = 12 := (hm.2 8 (by decide)).2.2
    have f1218 : hFR _ 1218 348 = some 358 := (hm.2 9 (by decide)).1
    have k358 : hK _ 358 = 50 := (hm.2 9 (by decide)).2.1
    have n358 : hLN _ 358 = 12 := (hm.2 9 (by decide)).2.2
    have f1219 : hFR _ 1219 348 = some 359 := (hm.2 10 (by decide)).1
    have k359 : hK _ 359 = 50 := (hm.2 10 (by decide)).2.1
    have n359 : hLN _ 359 = 12 := (hm.2 10 (by decide)).2.2
    have f1220 : hFR _ 1220 348 = some 360 := (hm.2 11 (by decide)).1
    have k360 : hK _ 360 = 50 := (hm.2 11 (by decide)).2.1
    have n360 : hLN _ 360 = 12 := (hm.2 11 (by decide)).2.2
    have f1221 : hFR _ 1221 348 = some 361 := (hm.2 12 (by decide)).1
    have k361 : hK _ 361 = 50 := (hm.2 12 (by decide)).2.1
    have n361 : hLN _ 361 = 12 := (hm.2 12 (by decide)).2.2
    rw [m_both_e]
    have D := S.2.2.1
    simp only [am_kd, am_let_e, bR_s, am_nar4_0, am_nar4_1, if_true, if_false, z1, rd_hK_sEI, rd_hFR_sEI, rd_hLN_sEI, rd_hFI_sEI, rd_hFJ_sEI, rd_hK_sEJ, rd_hFR_sEJ, rd_hLN_sEJ, rd_hFI_sEJ, rd_hAI_sEJ, rd_hK_sFI, rd_hFR_sFI, rd_hLN_sFI, rd_hAI_sFI, k3, k1, ka, k14, k17, kr2, kr4, kr5, kr6, kr7, kr8, kr9, kr10, kr11, kr12, kr13, kr18, kr21, kr22, kr24, nr2, nr4, nr5, nr6, nr7, nr8, nr9, nr10, nr11, nr12, nr13, nr18, nr21, nr22, nr24, f600, f601, f500, f506, f508, f509, f510, f511, f512, f513, f514, f515, f516, f517, f518, f519, f701, f704, f705, f707, m0, f1210, k350, n350, f1212, k352, n352, f1217, k357, n357, f1218, k358, n358, f1219, k359, n359, f1220, k360, n360, f1221, k361, n361, D, kc1, kc2, kc3, kc4, kc5]
    rcases st_word (d := d) (d2 := d2) (w := 5878) (r := 1000006) (k := 6) rfl rfl (by decide) c7w m7w with ⟨-, F⟩ | ⟨-, h8, g8, x8, y8, q8, r8, c8, m8, -⟩
    · exact Ln.no (fun _ => rfl) (fun _ => rfl) F
    rw [x8, y8, bI_s, bI_s]
    have S := S.ct ha3 ha30 q8 r8
    have D := S.2.2.1
    refine Ln.go (q8.cs a) r8.mz ?_
    obtain ⟨k3, k1, ka, k14, k17, kr2, kr4, kr5, kr6, kr7, kr8, kr9, kr10, kr11, kr12, kr13, kr18, kr21, kr22, kr24, nr2, nr4, nr5, nr6, nr7, nr8, nr9, nr10, nr11, nr12, nr13, nr18, nr21, nr22, nr24⟩ := c8.kl
    obtain ⟨f600, f601, f500, f506, f508, f509, f510, f511, f512, f513, f514, f515, f516, f517, f518, f519, f701, f704, f705, f707⟩ := c8.fr
    have hm := m8.1.1
    have m0 := hm.1
    have f1210 : hFR _ 1210 348 = some 350 := (hm.2 1 (by decide)).1
    have k350 : hK _ 350 = 50 := (hm.2 1 (by decide)).2.1
    have n350 : hLN _ 350 = 10 := (hm.2 1 (by decide)).2.2
    have f1212 : hFR _ 1212 348 = some 352 := (hm.2 3 (by decide)).1
    have k352 : hK _ 352 = 53 := (hm.2 3 (by decide)).2.1
    have n352 : hLN _ 352 = 12 := (hm.2 3 (by decide)).2.2
    have f1217 : hFR _ 1217 348 = some 357 := (hm.2 8 (by decide)).1
    have k357 : hK _ 357 = 50 := (hm.2 8 (by decide)).2.1
    have n357 : hLN _ 357 = 12 := (hm.2 8 (by decide)).2.2
    have f1218 : hFR _ 1218 348 = some 358 := (hm.2 9 (by decide)).1
    have k358 : hK _ 358 = 50 := (hm.2 9 (by decide)).2.1
    have n358 : hLN _ 358 = 12 := (hm.2 9 (by decide)).2.2
    have f1219 : hFR _ 1219 348 = some 359 := (hm.2 10 (by decide)).1
    have k359 : hK _ 359 = 50 := (hm.2 10 (by decide)).2.1
    have n359 : hLN _ 359 = 12 := (hm.2 10 (by decide)).2.2
    have f1220 : hFR _ 1220 348 = some 360 := (hm.2 11 (by decide)).1
    have k360 : hK _ 360 = 50 := (hm.2 11 (by decide)).2.1
    have n360 : hLN _ 360 = 12 := (hm.2 11 (by decide)).2.2
    have f1221 : hFR _ 1221 348 = some 361 := (hm.2 12 (by decide)).1
    have k361 : hK _ 361 = 50 := (hm.2 12 (by decide)).2.1
    have n361 : hLN _ 361 = 12 := (hm.2 12 (by decide)).2.2
    have eho : hAI h8 (a + 6) nc = nI ho := by rw [S.1, am_up_eq, pk_us]
    have eho2 : hAI (sEI g7 359 (6 + nc) (nI ho)) 359 (6 + nc) = nI ho := by rw [sEI_at, pk_us]
    simp only [am_kd, am_let_e, bR_s, am_nar4_0, am_nar4_1, if_true, if_false, z1, rd_hK_sEI, rd_hFR_sEI, rd_hLN_sEI, rd_hFI_sEI, rd_hFJ_sEI, rd_hK_sEJ, rd_hFR_sEJ, rd_hLN_sEJ, rd_hFI_sEJ, rd_hAI_sEJ, rd_hK_sFI, rd_hFR_sFI, rd_hLN_sFI, rd_hAI_sFI, k3, k1, ka, k14, k17, kr2, kr4, kr5, kr6, kr7, kr8, kr9, kr10, kr11, kr12, kr13, kr18, kr21, kr22, kr24, nr2, nr4, nr5, nr6, nr7, nr8, nr9, nr10, nr11, nr12, nr13, nr18, nr21, nr22, nr24, f600, f601, f500, f506, f508, f509, f510, f511, f512, f513, f514, f515, f516, f517, f518, f519, f701, f704, f705, f707, m0, f1210, k350, n350, f1212, k352, n352, f1217, k357, n357, f1218, k358, n358, f1219, k359, n359, f1220, k360, n360, f1221, k361, n361, D, kc1, kc2, kc3, kc4, kc5, eho, ei, ti, em, tm]
    rcases st_number (d := d) (d2 := d2) (lo := 0) (hi := ho) (l := 0) (u := nI ho) rfl rfl (by decide) (by omega) c8 m8 with F | ⟨ha, h9, g9, v9, u9, x9, y9, e605, e1246, q9, r9, c9, m9, b9⟩
    · exact Ln.no (fun _ => rfl) (fun _ => rfl) F
    rw [x9, y9, bI_s, bI_s]
    have S := S.ct ha3 ha30 q9 r9
    have D := S.2.2.1
    refine Ln.go (q9.cs a) r9.mz ?_
    obtain ⟨k3, k1, ka, k14, k17, kr2, kr4, kr5, kr6, kr7, kr8, kr9, kr10, kr11, kr12, kr13, kr18, kr21, kr22, kr24, nr2, nr4, nr5, nr6, nr7, nr8, nr9, nr10, nr11, nr12, nr13, nr18, nr21, nr22, nr24⟩ := c9.kl
    obtain ⟨f600, f601, f500, f506, f508, f509, f510, f511, f512, f513, f514, f515, f516, f517, f518, f519, f701, f704, f705, f707⟩ := c9.fr
    have hm := m9.1.1
    have m0 := hm.1
    have f1210 : hFR _ 1210 348 = some 350 := (hm.2 1 (by decide)).1
    have k350 : hK _ 350 = 50 := (hm.2 1 (by decide)).2.1
    have n350 : hLN _ 350 = 10 := (hm.2 1 (by decide)).2.2
    have f1212 : hFR _ 1212 348 = some 352 := (hm.2 3 (by decide)).1
    have k352 : hK _ 352 = 53 := (hm.2 3 (by decide)).2.1
    have n352 : hLN _ 352 = 12 := (hm.2 3 (by decide)).2.2
    have f1217 : hFR _ 1217 348 = some 357 := (hm.2 8 (by decide)).1
    have k357 : hK _ 357 = 50 := (hm.2 8 (by decide)).2.1
    have n357 : hLN _ 357 = 12 := (hm.2 8 (by decide)).2.2
    have f1218 : hFR _ 1218 348 = some 358 := (hm.2 9 (by decide)).1
    have k358 : hK _ 358 = 50 := (hm.2 9 (by decide)).2.1
    have n358 : hLN _ 358 = 12 := (hm.2 9 (by decide)).2.2
    have f1219 : hFR _ 1219 348 = some 359 := (hm.2 10 (by decide)).1
    have k359 : hK _ 359 = 50 := (hm.2 10 (by decide)).2.1
    have n359 : hLN _ 359 = 12 := (hm.2 10 (by decide)).2.2
    have f1220 : hFR _ 1220 348 = some 360 := (hm.2 11 (by decide)).1
    have k360 : hK _ 360 = 50 := (hm.2 11 (by decide)).2.1
    have n360 : hLN _ 360 = 12 := (hm.2 11 (by decide)).2.2
    have f1221 : hFR _ 1221 348 = some 361 := (hm.2 12 (by decide)).1
    have k361 : hK _ 361 = 50 := (hm.2 12 (by decide)).2.1
    have n361 : hLN _ 361 = 12 := (hm.2 12 (by decide)).2.2
    simp only [am_kd, am_let_e, bR_s, am_nar4_0, am_nar4_1, if_true, if_false, z1, rd_hK_sEI, rd_hFR_sEI, rd_hLN_sEI, rd_hFI_sEI, rd_hFJ_sEI, rd_hK_sEJ, rd_hFR_sEJ, rd_hLN_sEJ, rd_hFI_sEJ, rd_hAI_sEJ, rd_hK_sFI, rd_hFR_sFI, rd_hLN_sFI, rd_hAI_sFI, k3, k1, ka, k14, k17, kr2, kr4, kr5, kr6, kr7, kr8, kr9, kr10, kr11, kr12, kr13, kr18, kr21, kr22, kr24, nr2, nr4, nr5, nr6, nr7, nr8, nr9, nr10, nr11, nr12, nr13, nr18, nr21, nr22, nr24, f600, f601, f500, f506, f508, f509, f510, f511, f512, f513, f514, f515, f516, f517, f518, f519, f701, f704, f705, f707, m0, f1210, k350, n350, f1212, k352, n352, f1217, k357, n357, f1218, k358, n358, f1219, k359, n359, f1220, k360, n360, f1221, k361, n361, ei, ti, em, tm, e605, e1246]
    refine Ln.go (CS.ei h9 nc (nI ha) (r := a + 18) (by omega)) (MZ.ei g9 (r := 360) (i := 6 + nc) (nI ha) (by decide) (by have : hf 360 = 6 := rfl; omega)) ?_
    have S := S.ew (a + 18) nc (nI ha) 360 (6 + nc) (nI ha)
    have c9w := c9.ei (r := a + 18) nc (nI ha) (by omega)
    have m9w := m9.ei (r := 360) (6 + nc) (nI ha) (by decide)
    obtain ⟨k3, k1, ka, k14, k17, kr2, kr4, kr5, kr6, kr7, kr8, kr9, kr10, kr11, kr12, kr13, kr18, kr21, kr22, kr24, nr2, nr4, nr5, nr6, nr7, nr8, nr9, nr10, nr11, nr12, nr13, nr18, nr21, nr22, nr24⟩ := c9w.kl
    obtain ⟨f600, f601, f500, f506, f508, f509, f510, f511, f512, f513, f514, f515, f516, f517, f518, f519, f701, f704, f705, f707⟩ := c9w.fr
    have hm := m9w.1.1
    have m0 := hm.1
    have f1210 : hFR _ 1210 348 = some 350 := (hm.2 1 (by decide)).1
    have k350 : hK _ 350 = 50 := (hm.2 1 (by decide)).2.1
    have n350 : hLN _ 350 = 10 := (hm.2 1 (by decide)).2.2
    have f1212 : hFR _ 1212 348 = some 352 := (hm.2 3 (by decide)).1
    have k352 : hK _ 352 = 53 := (hm.2 3 (by decide)).2.1
    have n352 : hLN _ 352 = 12 := (hm.2 3 (by decide)).2.2
    have f1217 : hFR _ 1217 348 = some 357 := (hm.2 8 (by decide)).1
    have k357 : hK _ 357 = 50 := (hm.2 8 (by decide)).2.1
    have n357 : hLN _ 357 = 12 := (hm.2 8 (by decide)).2.2
    have f1218 : hFR _ 1218 348 = some 358 := (hm.2 9 (by decide)).1
    have k358 : hK _ 358 = 50 := (hm.2 9 (by decide)).2.1
    have n358 : hLN _ 358 = 12 := (hm.2 9 (by decide)).2.2
    have f1219 : hFR _ 1219 348 = some 359 := (hm.2 10 (by decide)).1
    have k359 : hK _ 359 = 50 := (hm.2 10 (by decide)).2.1
    have n359 : hLN _ 359 = 12 := (hm.2 10 (by decide)).2.2
    have f1220 : hFR _ 1220 348 = some 360 := (hm.2 11 (by decide)).1
    have k360 : hK _ 360 = 50 := (hm.2 11 (by decide)).2.1
    have n360 : hLN _ 360 = 12 := (hm.2 11 (by decide)).2.2
    have f1221 : hFR _ 1221 348 = some 361 := (hm.2 12 (by decide)).1
    have k361 : hK _ 361 = 50 := (hm.2 12 (by decide)).2.1
    have n361 : hLN _ 361 = 12 := (hm.2 12 (by decide)).2.2
    rw [m_both_e]
    have D := S.2.2.1
    simp only [am_kd, am_let_e, bR_s, am_nar4_0, am_nar4_1, if_true, if_false, z1, rd_hK_sEI, rd_hFR_sEI, rd_hLN_sEI, rd_hFI_sEI, rd_hFJ_sEI, rd_hK_sEJ, rd_hFR_sEJ, rd_hLN_sEJ, rd_hFI_sEJ, rd_hAI_sEJ, rd_hK_sFI, rd_hFR_sFI, rd_hLN_sFI, rd_hAI_sFI, k3, k1, ka, k14, k17, kr2, kr4, kr5, kr6, kr7, kr8, kr9, kr10, kr11, kr12, kr13, kr18, kr21, kr22, kr24, nr2, nr4, nr5, nr6, nr7, nr8, nr9, nr10, nr11, nr12, nr13, nr18, nr21, nr22, nr24, f600, f601, f500, f506, f508, f509, f510, f511, f512, f513, f514, f515, f516, f517, f518, f519, f701, f704, f705, f707, m0, f1210, k350, n350, f1212, k352, n352, f1217, k357, n357, f1218, k358, n358, f1219, k359, n359, f1220, k360, n360, f1221, k361, n361, D, kc1, kc2, kc3, kc4, kc5]
    rcases st_word (d := d) (d2 := d2) (w := 380989) (r := 1000007) (k := 7) rfl rfl (by decide) c9w m9w with ⟨-, F⟩ | ⟨-, h10, g10, x10, y10, q10, r10, c10, m10, -⟩
    · exact Ln.no (fun _ => rfl) (fun _ => rfl) F
    rw [x10, y10, bI_s, bI_s]
    have S := S.ct ha3 ha30 q10 r10
    have D := S.2.2.1
    refine Ln.go (q10.cs a) r10.mz ?_
    obtain ⟨k3, k1, ka, k14, k17, kr2, kr4, kr5, kr6, kr7, kr8, kr9, kr10, kr11, kr12, kr13, kr18, kr21, kr22, kr24, nr2, nr4, nr5, nr6, nr7, nr8, nr9, nr10, nr11, nr12, nr13, nr18, nr21, nr22, nr24⟩ := c10.kl
    obtain ⟨f600, f601, f500, f506, f508, f509, f510, f511, f512, f513, f514, f515, f516, f517, f518, f519, f701, f704, f705, f707⟩ := c10.fr
    have hm := m10.1.1
    have m0 := hm.1
    have f1210 : hFR _ 1210 348 = some 350 := (hm.2 1 (by decide)).1
    have k350 : hK _ 350 = 50 := (hm.2 1 (by decide)).2.1
    have n350 : hLN _ 350 = 10 := (hm.2 1 (by decide)).2.2
    have f1212 : hFR _ 1212 348 = some 352 := (hm.2 3 (by decide)).1
    have k352 : hK _ 352 = 53 := (hm.2 3 (by decide)).2.1
    have n352 : hLN _ 352 = 12 := (hm.2 3 (by decide)).2.2
    have f1217 : hFR _ 1217 348 = some 357 := (hm.2 8 (by decide)).1
    have k357 : hK _ 357 = 50 := (hm.2 8 (by decide)).2.1
    have n357 : hLN _ 357 = 12 := (hm.2 8 (by decide)).2.2
    have f1218 : hFR _ 1218 348 = some 358 := (hm.2 9 (by decide)).1
    have k358 : hK _ 358 = 50 := (hm.2 9 (by decide)).2.1
    have n358 : hLN _ 358 = 12 := (hm.2 9 (by decide)).2.2
    have f1219 : hFR _ 1219 348 = some 359 := (hm.2 10 (by decide)).1
    have k359 : hK _ 359 = 50 := (hm.2 10 (by decide)).2.1
    have n359 : hLN _ 359 = 12 := (hm.2 10 (by decide)).2.2
    have f1220 : hFR _ 1220 348 = some 360 := (hm.2 11 (by decide)).1
    have k360 : hK _ 360 = 50 := (hm.2 11 (by decide)).2.1
    have n360 : hLN _ 360 = 12 := (hm.2 11 (by decide)).2.2
    have f1221 : hFR _ 1221 348 = some 361 := (hm.2 12 (by decide)).1
    have k361 : hK _ 361 = 50 := (hm.2 12 (by decide)).2.1
    have n361 : hLN _ 361 = 12 := (hm.2 12 (by decide)).2.2
    simp only [am_kd, am_let_e, bR_s, am_nar4_0, am_nar4_1, if_true, if_false, z1, rd_hK_sEI, rd_hFR_sEI, rd_hLN_sEI, rd_hFI_sEI, rd_hFJ_sEI, rd_hK_sEJ, rd_hFR_sEJ, rd_hLN_sEJ, rd_hFI_sEJ, rd_hAI_sEJ, rd_hK_sFI, rd_hFR_sFI, rd_hLN_sFI, rd_hAI_sFI, k3, k1, ka, k14, k17, kr2, kr4, kr5, kr6, kr7, kr8, kr9, kr10, kr11, kr12, kr13, kr18, kr21, kr22, kr24, nr2, nr4, nr5, nr6, nr7, nr8, nr9, nr10, nr11, nr12, nr13, nr18, nr21, nr22, nr24, f600, f601, f500, f506, f508, f509, f510, f511, f512, f513, f514, f515, f516, f517, f518, f519, f701, f704, f705, f707, m0, f1210, k350, n350, f1212, k352, n352, f1217, k357, n357, f1218, k358, n358, f1219, k359, n359, f1220, k360, n360, f1221, k361, n361, D, kc1, kc2, kc3, kc4, kc5]
    rcases st_number (d := d) (d2 := d2) (lo := 0) (hi := 9) (l := 0) (u := 9) rfl rfl (by decide) (by omega) c10 m10 with F | ⟨sp, h11, g11, v11, u11, x11, y11, e605, e1246, q11, r11, c11, m11, b11⟩
    · exact Ln.no (fun _ => rfl) (fun _ => rfl) F
    rw [x11, y11, bI_s, bI_s]
    have S := S.ct ha3 ha30 q11 r11
    have D := S.2.2.1
    refine Ln.go (q11.cs a) r11.mz ?_
    obtain ⟨k3, k1, ka, k14, k17, kr2, kr4, kr5, kr6, kr7, kr8, kr9, kr10, kr11, kr12, kr13, kr18, kr21, kr22, kr24, nr2, nr4, nr5, nr6, nr7, nr8, nr9, nr10, nr11, nr12, nr13, nr18, nr21, nr22, nr24⟩ := c11.kl
    obtain ⟨f600, f601, f500, f506, f508, f509, f510, f511, f512, f513, f514, f515, f516, f517, f518, f519, f701, f704, f705, f707⟩ := c11.fr
    have hm := m11.1.1
    have m0 := hm.1
    have f1210 : hFR _ 1210 348 = some 350 := (hm.2 1 (by decide)).1
    have k350 : hK _ 350 = 50 := (hm.2 1 (by decide)).2.1
    have n350 : hLN _ 350 = 10 := (hm.2 1 (by decide)).2.2
    have f1212 : hFR _ 1212 348 = some 352 := (hm.2 3 (by decide)).1
    have k352 : hK _ 352 = 53 := (hm.2 3 (by decide)).2.1
    have n352 : hLN _ 352 = 12 := (hm.2 3 (by decide)).2.2
    have f1217 : hFR _ 1217 348 = some 357 := (hm.2 8 (by decide)).1
    have k357 : hK _ 357 = 50 := (hm.2 8 (by decide)).2.1
    have n357 : hLN _ 357 = 12 := (hm.2 8 (by decide)).2.2
    have f1218 : hFR _ 1218 348 = some 358 := (hm.2 9 (by decide)).1
    have k358 : hK _ 358 = 50 := (hm.2 9 (by decide)).2.1
    have n358 : hLN _ 358 = 12 := (hm.2 9 (by decide)).2.2
    have f1219 : hFR _ 1219 348 = some 359 := (hm.2 10 (by decide)).1
    have k359 : hK _ 359 = 50 := (hm.2 10 (by decide)).2.1
    have n359 : hLN _ 359 = 12 := (hm.2 10 (by decide)).2.2
    have f1220 : hFR _ 1220 348 = some 360 := (hm.2 11 (by decide)).1
    have k360 : hK _ 360 = 50 := (hm.2 11 (by decide)).2.1
    have n360 : hLN _ 360 = 12 := (hm.2 11 (by decide)).2.2
    have f1221 : hFR _ 1221 348 = some 361 := (hm.2 12 (by decide)).1
    have k361 : hK _ 361 = 50 := (hm.2 12 (by decide)).2.1
    have n361 : hLN _ 361 = 12 := (hm.2 12 (by decide)).2.2
    have S := S.ew (a + 7) nc (nI sp) 361 (6 + nc) (nI sp)
    have g350 : hAI (sEI g11 361 (6 + nc) (nI sp)) 350 = hAI g 350 := by rw [S.2.2.2.2.2.1, am_up_ne (by decide), am_up_ne (by decide), am_up_ne (by decide), am_up_ne (by decide), am_up_ne (by decide)]
    simp only [am_kd, am_let_e, bR_s, am_nar4_0, am_nar4_1, if_true, if_false, z1, rd_hK_sEI, rd_hFR_sEI, rd_hLN_sEI, rd_hFI_sEI, rd_hFJ_sEI, rd_hK_sEJ, rd_hFR_sEJ, rd_hLN_sEJ, rd_hFI_sEJ, rd_hAI_sEJ, rd_hK_sFI, rd_hFR_sFI, rd_hLN_sFI, rd_hAI_sFI, k3, k1, ka, k14, k17, kr2, kr4, kr5, kr6, kr7, kr8, kr9, kr10, kr11, kr12, kr13, kr18, kr21, kr22, kr24, nr2, nr4, nr5, nr6, nr7, nr8, nr9, nr10, nr11, nr12, nr13, nr18, nr21, nr22, nr24, f600, f601, f500, f506, f508, f509, f510, f511, f512, f513, f514, f515, f516, f517, f518, f519, f701, f704, f705, f707, m0, f1210, k350, n350, f1212, k352, n352, f1217, k357, n357, f1218, k358, n358, f1219, k359, n359, f1220, k360, n360, f1221, k361, n361, ei, ti, em, tm, e605, e1246, ep, tp, D, kc3, g350, j3, nI_1]
    refine Ln.go (h1 := (sFI (sEI h11 (a + 7) nc (nI sp)) 503 a (nI (nc + 1)))) (g1 := (sEI (sEJ (sEI g11 361 (6 + nc) (nI sp)) 352 (6 + nc) (wrd n T (nxt n T b))) 350 7 (nI (nc + 1)))) ((CS.ei _ _ _ (by omega)).tr (CS.fi _ _ (by omega) ha3)) (((MZ.ei _ _ (by decide) (by have : hf 361 = 6 := rfl; omega)).tr (MZ.ej _ _ (by decide) (by have : hf 352 = 6 := rfl; omega))).tr (MZ.ei _ _ (by decide) (by decide))) ?_
    have cH : CX (sFI (sEI h11 (a + 7) nc (nI sp)) 503 a (nI (nc + 1))) a n T _ := (c11.ei (r := a + 7) nc (nI sp) (by omega)).fa 503 (nI (nc + 1)) (by omega)
    have mG : MX (sEI (sEJ (sEI g11 361 (6 + nc) (nI sp)) 352 (6 + nc) (wrd n T (nxt n T b))) 350 7 (nI (nc + 1))) n T _ := ((m11.ei (r := 361) (6 + nc) (nI sp) (by decide)).ej 352 (6 + nc) (wrd n T (nxt n T b))).ei (r := 350) 7 (nI (nc + 1)) (by decide)
    rcases st_close (d := d) (d2 := d2 + 1) cH mG with F | ⟨h12, g12, x12, y12, q12, r12, c12, m12, -⟩
    · exact Ln.no (fun _ => rfl) (fun _ => rfl) F
    rw [x12, y12, bI_s, bI_s, am_nar4_1, am_nar4_1]
    refine Or.inr ⟨h12, g12, _, np, ny, nc + 1, ne, nw, rfl, rfl, q12.cs a, r12.mz, c12, m12, ?_, ?_⟩
    · have le0 := nxt_le (T := T) c.le
      have le1 := nxt_le (T := T) c1.le
      have le2 := nxt_le (T := T) c2.le
      have le3 := nxt_le (T := T) ck.le
      have le4 := nxt_le (T := T) c4.le
      have le5 := nxt_le (T := T) c5w.le
      have le6 := nxt_le (T := T) c6.le
      have le7 := nxt_le (T := T) c7w.le
      have le8 := nxt_le (T := T) c8.le
      have le9 := nxt_le (T := T) c9w.le
      have le10 := nxt_le (T := T) c10.le
      have le11 := nxt_le (T := T) c11.le
      omega
    · exact (PR.clock (h' := (sFI (sEI h11 (a + 7) nc (nI sp)) 503 a (nI (nc + 1)))) (g' := (sEI (sEJ (sEI g11 361 (6 + nc) (nI sp)) 352 (6 + nc) (wrd n T (nxt n T b))) 350 7 (nI (nc + 1)))) (nm := wrd n T (nxt n T b)) P hc hk3 v5 ⟨v7, u7⟩ u9 u11 (by rw [rd_hAI_sFI, S.1, am_up_ne (by omega), am_up_ne (by omega), am_up_ne (by omega), am_up_ne (by omega), am_up_eq]) (by rw [rd_hAI_sFI, S.1, am_up_ne (by omega), am_up_ne (by omega), am_up_ne (by omega), am_up_eq, am_up_ne (by omega)]) (by rw [rd_hAI_sFI, S.1, am_up_ne (by omega), am_up_ne (by omega), am_up_eq, am_up_ne (by omega), am_up_ne (by omega)]) (by rw [rd_hAI_sFI, S.1, am_up_ne (by omega), am_up_eq, am_up_ne (by omega), am_up_ne (by omega), am_up_ne (by omega)]) (by rw [rd_hAI_sFI, S.1, am_up_eq, am_up_ne (by omega), am_up_ne (by omega), am_up_ne (by omega), am_up_ne (by omega)]) (fun k z0 z1 z2 z3 z4 z5 z6 => by rw [rd_hAI_sFI, S.1, am_up_ne (by omega), am_up_ne (by omega), am_up_ne (by omega), am_up_ne (by omega), am_up_ne (by omega)]) S.2.1 (sFI_at _ _ _ _) (fun k z0 z1 z2 => (sFI_o _ _ (Or.inl z2)).trans (D k)) ((sFI_o _ _ (by omega)).trans S.2.2.2.1) ((sFI_o _ _ (by omega)).trans S.2.2.2.2.1) (by rw [sEI_ne _ _ _ (by decide), rd_hAI_sEJ, S.2.2.2.2.2.1, am_up_ne (by decide), am_up_ne (by decide), am_up_ne (by decide), am_up_ne (by decide), am_up_eq]) (by rw [sEI_ne _ _ _ (by decide), rd_hAI_sEJ, S.2.2.2.2.2.1, am_up_ne (by decide), am_up_ne (by decide), am_up_ne (by decide), am_up_eq, am_up_ne (by decide)]) (by rw [sEI_ne _ _ _ (by decide), rd_hAI_sEJ, S.2.2.2.2.2.1, am_up_ne (by decide), am_up_ne (by decide), am_up_eq, am_up_ne (by decide), am_up_ne (by decide)]) (by rw [sEI_ne _ _ _ (by decide), rd_hAI_sEJ, S.2.2.2.2.2.1, am_up_ne (by decide), am_up_eq, am_up_ne (by decide), am_up_ne (by decide), am_up_ne (by decide)]) (by rw [sEI_ne _ _ _ (by decide), rd_hAI_sEJ, S.2.2.2.2.2.1, am_up_eq, am_up_ne (by decide), am_up_ne (by decide), am_up_ne (by decide), am_up_ne (by decide)]) (fun r z0 z1 z2 z3 z4 z5 z6 => by rw [sEI_ne _ _ _ (by omega), rd_hAI_sEJ, S.2.2.2.2.2.1, am_up_ne (by omega), am_up_ne (by omega), am_up_ne (by omega), am_up_ne (by omega), am_up_ne (by omega)]) (by rw [rd_hAJ_sEI, sEJ_at, S.2.2.2.2.2.2.1]) (fun r z0 z1 z2 => by rw [rd_hAJ_sEI, sEJ_ne _ _ _ z2, S.2.2.2.2.2.2.1]) (by rw [sEI_at, rd_hAI_sEJ, g350]) S.2.2.2.2.2.2.2).ct ha3 ha30 q12 r12
  · have hlt : (nI nc < (6 : Int32)) = False := eq_false (nI_nlt (b := 6) (by omega) (by omega))
    have hne : (nI (6 + nc) = (12 : Int32)) = True := eq_true ((nI_eq (b := 12) (by omega) (by decide)).2 (by omega))
    simp only [am_kd, am_let_e, bR_s, am_nar4_0, am_nar4_1, if_true, if_false, z1, rd_hK_sEI, rd_hFR_sEI, rd_hLN_sEI, rd_hFI_sEI, rd_hFJ_sEI, rd_hK_sEJ, rd_hFR_sEJ, rd_hLN_sEJ, rd_hFI_sEJ, rd_hAI_sEJ, rd_hK_sFI, rd_hFR_sFI, rd_hLN_sFI, rd_hAI_sFI, k3, k1, ka, k14, k17, kr2, kr4, kr5, kr6, kr7, kr8, kr9, kr10, kr11, kr12, kr13, kr18, kr21, kr22, kr24, nr2, nr4, nr5, nr6, nr7, nr8, nr9, nr10, nr11, nr12, nr13, nr18, nr21, nr22, nr24, f600, f601, f500, f506, f508, f509, f510, f511, f512, f513, f514, f515, f516, f517, f518, f519, f701, f704, f705, f707, m0, f1210, k350, n350, f1212, k352, n352, f1217, k357, n357, f1218, k358, n358, f1219, k359, n359, f1220, k360, n360, f1221, k361, n361, ep, tp, kc3, j3, xm, xc, hlt, hne]
    exact Ln.no (fun _ => rfl) (fun _ => rfl) (st_fail (d := d + 3) (d2 := d2 + 3) c m (k := 5) rfl (by decide) (by decide))
