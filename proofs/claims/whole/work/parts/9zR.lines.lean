/-! The reader: the lines place, person, work. -/
/-- a line under way: rows F, G and names as they stand now -/
def WS (h g hc gc : AH) (a : Nat) (F G : Nat → Nat → Int32) (nJ : Nat → Int64) : Prop := hAI hc = F ∧ hAJ hc (a + 1) = nJ ∧ (∀ k, hFI hc k a = hFI h k a) ∧ hFI hc 604 3 = hFI h 604 3 ∧ hFI hc 401 (a + 14) = hFI h 401 (a + 14) ∧ hAI gc = G ∧ hAJ gc = hAJ g ∧ hFI gc 1233 348 = hFI g 1233 348
theorem WS.ct {h g hc gc hc' gc' : AH} {a : Nat} {F G : Nat → Nat → Int32} {nJ : Nat → Int64} (s : WS h g hc gc a F G nJ) (ha : 3 < a) (ha2 : a ≤ 30) (q : CT hc hc') (r : MT gc gc') : WS h g hc' gc' a F G nJ := by
  obtain ⟨s1, s2, s3, s4, s5, s6, s7, s8⟩ := s
  obtain ⟨q1, q2, q3, q4, q5, q6, q7, q8, q9⟩ := q
  obtain ⟨r1, r2, r3, r4, r5, r6, r7, r8, r9⟩ := r
  exact ⟨q3.trans s1, by rw [q4]; exact s2, fun k => (q9 k a (by omega) (by omega)).trans (s3 k), (q9 _ _ (by omega) (by omega)).trans s4, (q9 _ _ (by omega) (by omega)).trans s5, r4.trans s6, r5.trans s7, (r9 _ _ (by omega) (by omega)).trans s8⟩
theorem WS.ew {h g hc gc : AH} {a : Nat} {F G : Nat → Nat → Int32} {nJ : Nat → Int64} (s : WS h g hc gc a F G nJ) (r i : Nat) (v : Int32) (r2 i2 : Nat) (v2 : Int32) : WS h g (sEI hc r i v) (sEI gc r2 i2 v2) a (am_up F r (upd (F r) i v)) (am_up G r2 (upd (G r2) i2 v2)) nJ := by
  obtain ⟨s1, s2, s3, s4, s5, s6, s7, s8⟩ := s
  exact ⟨by rw [rd_hAI_sEI, s1], s2, s3, s4, s5, by rw [rd_hAI_sEI, s6], s7, s8⟩
theorem WS.new {h g h1 g1 h2 g2 : AH} {a i : Nat} {w : Int64} (ha : 3 < a) (ha2 : a ≤ 30) (q1 : CT h h1) (r1 : MT g g1) (q2 : CT (sEJ h1 (a + 1) i w) h2) (r2 : MT g1 g2) : WS h g h2 g2 a (hAI h) (hAI g) (vp_updL (hAJ h (a + 1)) i w) := by
  have s : WS h g h1 g1 a (hAI h) (hAI g) (hAJ h (a + 1)) := WS.ct ⟨rfl, rfl, fun _ => rfl, rfl, rfl, rfl, rfl, rfl⟩ ha ha2 q1 r1
  obtain ⟨s1, s2, s3, s4, s5, s6, s7, s8⟩ := s
  have t : WS h g (sEJ h1 (a + 1) i w) g1 a (hAI h) (hAI g) (vp_updL (hAJ h (a + 1)) i w) := ⟨s1, by rw [sEJ_at, s2], s3, s4, s5, s6, s7, s8⟩
  exact t.ct ha ha2 q2 r2
theorem CX.le {h : AH} {a n b : Nat} {T : Nat → Nat} (c : CX h a n T b) : b ≤ n := c.2.2.2.2.2.2.2
theorem ln_place {d d2 a n b np ny nc ne nw : Nat} {h g : AH} {T : Nat → Nat} (ha : a = 4 ∨ a = 30) (c : CX h a n T b) (m : MX g n T b) (P : PR h g a np ny nc ne nw) (hb : b < n) : Ln a n T b h g (am_C PG (d + 5) 87 [.ref 3] h) (am_C PG (d2 + 5) 189 [.ref 348] g) := by
  have ha3 : 3 < a := by omega
  have ha30 : a ≤ 30 := by omega
  have N := P.2.1
  obtain ⟨kc1, kc2, kc3, kc4, kc5, j1, j2, j3, j4, j5, l1, l2, l3, l4⟩ := P.1
  obtain ⟨k3, k1, ka, k14, k17, kr2, kr4, kr5, kr6, kr7, kr8, kr9, kr10, kr11, kr12, kr13, kr18, kr21, kr22, kr24, nr2, nr4, nr5, nr6, nr7, nr8, nr9, nr10, nr11, nr12, nr13, nr18, nr21, nr22, nr24⟩ := c.kl
  obtain ⟨f600, f601, f500, f506, f508, f509, f510, f511, f512, f513, f514, f515, f516, f517, f518, f519, f701, f704, f705, f707⟩ := c.fr
  have hm := m.1.1
  have m0 := hm.1
  have f1210 : hFR _ 1210 348 = some 350 := (hm.2 1 (by decide)).1
  have k350 : hK _ 350 = 50 := (hm.2 1 (by decide)).2.1
  have n350 : hLN _ 350 = 10 := (hm.2 1 (by decide)).2.2
  have f1211 : hFR _ 1211 348 = some 351 := (hm.2 2 (by decide)).1
  have k351 : hK _ 351 = 53 := (hm.2 2 (by decide)).2.1
  have n351 : hLN _ 351 = 10 := (hm.2 2 (by decide)).2.2
  have f1215 : hFR _ 1215 348 = some 355 := (hm.2 6 (by decide)).1
  have k355 : hK _ 355 = 50 := (hm.2 6 (by decide)).2.1
  have n355 : hLN _ 355 = 10 := (hm.2 6 (by decide)).2.2
  have z1 : ((1 : Int32) = 0) = False := eq_false (by decide)
  have ti : Int32.toNatClampNeg (nI np) = np := nI_clamp (by omega)
  have tm : Int32.toNatClampNeg (nI (5 + np)) = 5 + np := nI_clamp (by omega)
  have xm : (5 : Int32) + nI np = nI (5 + np) := nI_add 5 np
  have xc : (0 : Int32) + nI np = nI np := Int32.zero_add _
  have ep : ∀ x, am_in (5 : Int32) 10 x = x := am_inN (i := 5) (by decide) (by decide)
  have tp : Int32.toNatClampNeg (5 : Int32) = 5 := by decide
  rw [q_X6_placeLine, q_X12_readsPlace]
  by_cases hc : np < 5
  · have ei : ∀ x, am_in (nI np) 5 x = x := am_inN hc (by decide)
    have em : ∀ x, am_in (nI (5 + np)) 10 x = x := am_inN (by omega) (by decide)
    have hlt : (nI np < (5 : Int32)) = True := eq_true (nI_lt (b := 5) hc (by decide))
    have hne : (nI (5 + np) = (10 : Int32)) = False := eq_false (fun z => by have := (nI_eq (b := 10) (by omega) (by decide)).1 z; omega)
    simp only [am_kd, am_let_e, bR_s, am_nar4_0, am_nar4_1, if_true, if_false, z1, rd_hK_sEI, rd_hFR_sEI, rd_hLN_sEI, rd_hFI_sEI, rd_hFJ_sEI, rd_hK_sEJ, rd_hFR_sEJ, rd_hLN_sEJ, rd_hFI_sEJ, rd_hAI_sEJ, rd_hK_sFI, rd_hFR_sFI, rd_hLN_sFI, rd_hAI_sFI, k3, k1, ka, k14, k17, kr2, kr4, kr5, kr6, kr7, kr8, kr9, kr10, kr11, kr12, kr13, kr18, kr21, kr22, kr24, nr2, nr4, nr5, nr6, nr7, nr8, nr9, nr10, nr11, nr12, nr13, nr18, nr21, nr22, nr24, f600, f601, f500, f506, f508, f509, f510, f511, f512, f513, f514, f515, f516, f517, f518, f519, f701, f704, f705, f707, m0, f1210, k350, n350, f1211, k351, n351, f1215, k355, n355, ep, tp, kc1, j1, xm, xc, hlt, hne]
    obtain ⟨h1, g1, x1, y1, q1, r1, c1, m1⟩ := st_adv (d := d + 1) (d2 := d2 + 2) c m
    rw [x1, y1, bV_s, bV_s]
    refine Ln.go (q1.cs a) r1.mz ?_
    obtain ⟨k3, k1, ka, k14, k17, kr2, kr4, kr5, kr6, kr7, kr8, kr9, kr10, kr11, kr12, kr13, kr18, kr21, kr22, kr24, nr2, nr4, nr5, nr6, nr7, nr8, nr9, nr10, nr11, nr12, nr13, nr18, nr21, nr22, nr24⟩ := c1.kl
    obtain ⟨f600, f601, f500, f506, f508, f509, f510, f511, f512, f513, f514, f515, f516, f517, f518, f519, f701, f704, f705, f707⟩ := c1.fr
    have hm := m1.1.1
    have m0 := hm.1
    have f1210 : hFR _ 1210 348 = some 350 := (hm.2 1 (by decide)).1
    have k350 : hK _ 350 = 50 := (hm.2 1 (by decide)).2.1
    have n350 : hLN _ 350 = 10 := (hm.2 1 (by decide)).2.2
    have f1211 : hFR _ 1211 348 = some 351 := (hm.2 2 (by decide)).1
    have k351 : hK _ 351 = 53 := (hm.2 2 (by decide)).2.1
    have n351 : hLN _ 351 = 10 := (hm.2 2 (by decide)).2.2
    have f1215 : hFR _ 1215 348 = some 355 := (hm.2 6 (by decide)).1
    have k355 : hK _ 355 = 50 := (hm.2 6 (by decide)).2.1
    have n355 : hLN _ 355 = 10 := (hm.2 6 (by decide)).2.2
    have P1 := P.ct ha3 ha30 q1 r1
    simp only [am_kd, am_let_e, bR_s, am_nar4_0, am_nar4_1, if_true, if_false, z1, rd_hK_sEI, rd_hFR_sEI, rd_hLN_sEI, rd_hFI_sEI, rd_hFJ_sEI, rd_hK_sEJ, rd_hFR_sEJ, rd_hLN_sEJ, rd_hFI_sEJ, rd_hAI_sEJ, rd_hK_sFI, rd_hFR_sFI, rd_hLN_sFI, rd_hAI_sFI, k3, k1, ka, k14, k17, kr2, kr4, kr5, kr6, kr7, kr8, kr9, kr10, kr11, kr12, kr13, kr18, kr21, kr22, kr24, nr2, nr4, nr5, nr6, nr7, nr8, nr9, nr10, nr11, nr12, nr13, nr18, nr21, nr22, nr24, f600, f601, f500, f506, f508, f509, f510, f511, f512, f513, f514, f515, f516, f517, f518, f519, f701, f704, f705, f707, m0, f1210, k350, n350, f1211, k351, n351, f1215, k355, n355]
    rcases st_new (d := d) (d2 := d2 + 1) (at' := np) (av := nI (np)) (by omega) rfl P1.2.1 P1.1 c1 m1 with F | ⟨h2, g2, x2, y2, z2, s2, w0, q2, r2, c2, m2, -⟩
    · exact Ln.no (fun _ => rfl) (fun _ => rfl) F
    rw [x2, y2, bI_s, bI_s]
    simp only [am_kd, am_let_e, bR_s, am_nar4_0, am_nar4_1, if_true, if_false, z1, rd_hK_sEI, rd_hFR_sEI, rd_hLN_sEI, rd_hFI_sEI, rd_hFJ_sEI, rd_hK_sEJ, rd_hFR_sEJ, rd_hLN_sEJ, rd_hFI_sEJ, rd_hAI_sEJ, rd_hK_sFI, rd_hFR_sFI, rd_hLN_sFI, rd_hAI_sFI, k3, k1, ka, k14, k17, kr2, kr4, kr5, kr6, kr7, kr8, kr9, kr10, kr11, kr12, kr13, kr18, kr21, kr22, kr24, nr2, nr4, nr5, nr6, nr7, nr8, nr9, nr10, nr11, nr12, nr13, nr18, nr21, nr22, nr24, f600, f601, f500, f506, f508, f509, f510, f511, f512, f513, f514, f515, f516, f517, f518, f519, f701, f704, f705, f707, m0, f1210, k350, n350, f1211, k351, n351, f1215, k355, n355, z2, bV_s, s2]
    refine Ln.go ((CS.ej h1 (np) (wrd n T (nxt n T b))).tr (q2.cs a)) r2.mz ?_
    have S : WS h g h2 g2 a (hAI h) (hAI g) (vp_updL (hAJ h (a + 1)) (np) (wrd n T (nxt n T b))) := WS.new ha3 ha30 q1 r1 q2 r2
    obtain ⟨k3, k1, ka, k14, k17, kr2, kr4, kr5, kr6, kr7, kr8, kr9, kr10, kr11, kr12, kr13, kr18, kr21, kr22, kr24, nr2, nr4, nr5, nr6, nr7, nr8, nr9, nr10, nr11, nr12, nr13, nr18, nr21, nr22, nr24⟩ := c2.kl
    obtain ⟨f600, f601, f500, f506, f508, f509, f510, f511, f512, f513, f514, f515, f516, f517, f518, f519, f701, f704, f705, f707⟩ := c2.fr
    have hm := m2.1.1
    have m0 := hm.1
    have f1210 : hFR _ 1210 348 = some 350 := (hm.2 1 (by decide)).1
    have k350 : hK _ 350 = 50 := (hm.2 1 (by decide)).2.1
    have n350 : hLN _ 350 = 10 := (hm.2 1 (by decide)).2.2
    have f1211 : hFR _ 1211 348 = some 351 := (hm.2 2 (by decide)).1
    have k351 : hK _ 351 = 53 := (hm.2 2 (by decide)).2.1
    have n351 : hLN _ 351 = 10 := (hm.2 2 (by decide)).2.2
    have f1215 : hFR _ 1215 348 = some 355 := (hm.2 6 (by decide)).1
    have k355 : hK _ 355 = 50 := (hm.2 6 (by decide)).2.1
    have n355 : hLN _ 355 = 10 := (hm.2 6 (by decide)).2.2
    rw [m_both_e]
    have D := S.2.2.1
    simp only [am_kd, am_let_e, bR_s, am_nar4_0, am_nar4_1, if_true, if_false, z1, rd_hK_sEI, rd_hFR_sEI, rd_hLN_sEI, rd_hFI_sEI, rd_hFJ_sEI, rd_hK_sEJ, rd_hFR_sEJ, rd_hLN_sEJ, rd_hFI_sEJ, rd_hAI_sEJ, rd_hK_sFI, rd_hFR_sFI, rd_hLN_sFI, rd_hAI_sFI, k3, k1, ka, k14, k17, kr2, kr4, kr5, kr6, kr7, kr8, kr9, kr10, kr11, kr12, kr13, kr18, kr21, kr22, kr24, nr2, nr4, nr5, nr6, nr7, nr8, nr9, nr10, nr11, nr12, nr13, nr18, nr21, nr22, nr24, f600, f601, f500, f506, f508, f509, f510, f511, f512, f513, f514, f515, f516, f517, f518, f519, f701, f704, f705, f707, m0, f1210, k350, n350, f1211, k351, n351, f1215, k355, n355, D, kc1, kc2, kc3, kc4, kc5]
    rcases st_word (d := d) (d2 := d2) (w := 456690) (r := 1000001) (k := 1) rfl rfl (by decide) c2 m2 with ⟨-, F⟩ | ⟨-, h3, g3, x3, y3, q3, r3, c3, m3, -⟩
    · exact Ln.no (fun _ => rfl) (fun _ => rfl) F
    rw [x3, y3, bI_s, bI_s]
    have S := S.ct ha3 ha30 q3 r3
    have D := S.2.2.1
    refine Ln.go (q3.cs a) r3.mz ?_
    obtain ⟨k3, k1, ka, k14, k17, kr2, kr4, kr5, kr6, kr7, kr8, kr9, kr10, kr11, kr12, kr13, kr18, kr21, kr22, kr24, nr2, nr4, nr5, nr6, nr7, nr8, nr9, nr10, nr11, nr12, nr13, nr18, nr21, nr22, nr24⟩ := c3.kl
    obtain ⟨f600, f601, f500, f506, f508, f509, f510, f511, f512, f513, f514, f515, f516, f517, f518, f519, f701, f704, f705, f707⟩ := c3.fr
    have hm := m3.1.1
    have m0 := hm.1
    have f1210 : hFR _ 1210 348 = some 350 := (hm.2 1 (by decide)).1
    have k350 : hK _ 350 = 50 := (hm.2 1 (by decide)).2.1
    have n350 : hLN _ 350 = 10 := (hm.2 1 (by decide)).2.2
    have f1211 : hFR _ 1211 348 = some 351 := (hm.2 2 (by decide)).1
    have k351 : hK _ 351 = 53 := (hm.2 2 (by decide)).2.1
    have n351 : hLN _ 351 = 10 := (hm.2 2 (by decide)).2.2
    have f1215 : hFR _ 1215 348 = some 355 := (hm.2 6 (by decide)).1
    have k355 : hK _ 355 = 50 := (hm.2 6 (by decide)).2.1
    have n355 : hLN _ 355 = 10 := (hm.2 6 (by decide)).2.2
    simp only [am_kd, am_let_e, bR_s, am_nar4_0, am_nar4_1, if_true, if_false, z1, rd_hK_sEI, rd_hFR_sEI, rd_hLN_sEI, rd_hFI_sEI, rd_hFJ_sEI, rd_hK_sEJ, rd_hFR_sEJ, rd_hLN_sEJ, rd_hFI_sEJ, rd_hAI_sEJ, rd_hK_sFI, rd_hFR_sFI, rd_hLN_sFI, rd_hAI_sFI, k3, k1, ka, k14, k17, kr2, kr4, kr5, kr6, kr7, kr8, kr9, kr10, kr11, kr12, kr13, kr18, kr21, kr22, kr24, nr2, nr4, nr5, nr6, nr7, nr8, nr9, nr10, nr11, nr12, nr13, nr18, nr21, nr22, nr24, f600, f601, f500, f506, f508, f509, f510, f511, f512, f513, f514, f515, f516, f517, f518, f519, f701, f704, f705, f707, m0, f1210, k350, n350, f1211, k351, n351, f1215, k355, n355, D, kc1, kc2, kc3, kc4, kc5]
    rcases st_number (d := d) (d2 := d2) (lo := 0) (hi := 9999) (l := 0) (u := 9999) rfl rfl (by decide) (by omega) c3 m3 with F | ⟨w, h4, g4, v4, u4, x4, y4, e605, e1246, q4, r4, c4, m4, b4⟩
    · exact Ln.no (fun _ => rfl) (fun _ => rfl) F
    rw [x4, y4, bI_s, bI_s]
    have S := S.ct ha3 ha30 q4 r4
    have D := S.2.2.1
    refine Ln.go (q4.cs a) r4.mz ?_
    obtain ⟨k3, k1, ka, k14, k17, kr2, kr4, kr5, kr6, kr7, kr8, kr9, kr10, kr11, kr12, kr13, kr18, kr21, kr22, kr24, nr2, nr4, nr5, nr6, nr7, nr8, nr9, nr10, nr11, nr12, nr13, nr18, nr21, nr22, nr24⟩ := c4.kl
    obtain ⟨f600, f601, f500, f506, f508, f509, f510, f511, f512, f513, f514, f515, f516, f517, f518, f519, f701, f704, f705, f707⟩ := c4.fr
    have hm := m4.1.1
    have m0 := hm.1
    have f1210 : hFR _ 1210 348 = some 350 := (hm.2 1 (by decide)).1
    have k350 : hK _ 350 = 50 := (hm.2 1 (by decide)).2.1
    have n350 : hLN _ 350 = 10 := (hm.2 1 (by decide)).2.2
    have f1211 : hFR _ 1211 348 = some 351 := (hm.2 2 (by decide)).1
    have k351 : hK _ 351 = 53 := (hm.2 2 (by decide)).2.1
    have n351 : hLN _ 351 = 10 := (hm.2 2 (by decide)).2.2
    have f1215 : hFR _ 1215 348 = some 355 := (hm.2 6 (by decide)).1
    have k355 : hK _ 355 = 50 := (hm.2 6 (by decide)).2.1
    have n355 : hLN _ 355 = 10 := (hm.2 6 (by decide)).2.2
    have S := S.ew (a + 24) np (nI w) 355 (5 + np) (nI w)
    have g350 : hAI (sEI g4 355 (5 + np) (nI w)) 350 = hAI g 350 := by rw [S.2.2.2.2.2.1, am_up_ne (by decide)]
    simp only [am_kd, am_let_e, bR_s, am_nar4_0, am_nar4_1, if_true, if_false, z1, rd_hK_sEI, rd_hFR_sEI, rd_hLN_sEI, rd_hFI_sEI, rd_hFJ_sEI, rd_hK_sEJ, rd_hFR_sEJ, rd_hLN_sEJ, rd_hFI_sEJ, rd_hAI_sEJ, rd_hK_sFI, rd_hFR_sFI, rd_hLN_sFI, rd_hAI_sFI, k3, k1, ka, k14, k17, kr2, kr4, kr5, kr6, kr7, kr8, kr9, kr10, kr11, kr12, kr13, kr18, kr21, kr22, kr24, nr2, nr4, nr5, nr6, nr7, nr8, nr9, nr10, nr11, nr12, nr13, nr18, nr21, nr22, nr24, f600, f601, f500, f506, f508, f509, f510, f511, f512, f513, f514, f515, f516, f517, f518, f519, f701, f704, f705, f707, m0, f1210, k350, n350, f1211, k351, n351, f1215, k355, n355, ei, ti, em, tm, e605, e1246, ep, tp, D, kc1, g350, j1, nI_1]
    refine Ln.go (h1 := (sFI (sEI h4 (a + 24) np (nI w)) 501 a (nI (np + 1)))) (g1 := (sEI (sEJ (sEI g4 355 (5 + np) (nI w)) 351 (5 + np) (wrd n T (nxt n T b))) 350 5 (nI (np + 1)))) ((CS.ei _ _ _ (by omega)).tr (CS.fi _ _ (by omega) ha3)) (((MZ.ei _ _ (by decide) (by have : hf 355 = 5 := rfl; omega)).tr (MZ.ej _ _ (by decide) (by have : hf 351 = 5 := rfl; omega))).tr (MZ.ei _ _ (by decide) (by decide))) ?_
    have cH : CX (sFI (sEI h4 (a + 24) np (nI w)) 501 a (nI (np + 1))) a n T _ := (c4.ei (r := a + 24) np (nI w) (by omega)).fa 501 (nI (np + 1)) (by omega)
    have mG : MX (sEI (sEJ (sEI g4 355 (5 + np) (nI w)) 351 (5 + np) (wrd n T (nxt n T b))) 350 5 (nI (np + 1))) n T _ := ((m4.ei (r := 355) (5 + np) (nI w) (by decide)).ej 351 (5 + np) (wrd n T (nxt n T b))).ei (r := 350) 5 (nI (np + 1)) (by decide)
    rcases st_close (d := d) (d2 := d2 + 1) cH mG with F | ⟨h5, g5, x5, y5, q5, r5, c5, m5, -⟩
    · exact Ln.no (fun _ => rfl) (fun _ => rfl) F
    rw [x5, y5, bI_s, bI_s, am_nar4_1, am_nar4_1]
    refine Or.inr ⟨h5, g5, _, np + 1, ny, nc, ne, nw, rfl, rfl, q5.cs a, r5.mz, c5, m5, ?_, ?_⟩
    · have le0 := nxt_le (T := T) c.le
      have le1 := nxt_le (T := T) c1.le
      have le2 := nxt_le (T := T) c2.le
      have le3 := nxt_le (T := T) c3.le
      have le4 := nxt_le (T := T) c4.le
      omega
    · exact (PR.place (h' := (sFI (sEI h4 (a + 24) np (nI w)) 501 a (nI (np + 1)))) (g' := (sEI (sEJ (sEI g4 355 (5 + np) (nI w)) 351 (5 + np) (wrd n T (nxt n T b))) 350 5 (nI (np + 1)))) (nm := wrd n T (nxt n T b)) P hc u4 (by rw [rd_hAI_sFI, S.1, am_up_eq]) (fun k z0 z1 z2 => by rw [rd_hAI_sFI, S.1, am_up_ne (by omega)]) S.2.1 (sFI_at _ _ _ _) (fun k z0 z1 z2 => (sFI_o _ _ (Or.inl z2)).trans (D k)) ((sFI_o _ _ (by omega)).trans S.2.2.2.1) ((sFI_o _ _ (by omega)).trans S.2.2.2.2.1) (by rw [sEI_ne _ _ _ (by decide), rd_hAI_sEJ, S.2.2.2.2.2.1, am_up_eq]) (fun r z0 z1 z2 => by rw [sEI_ne _ _ _ (by omega), rd_hAI_sEJ, S.2.2.2.2.2.1, am_up_ne (by omega)]) (by rw [rd_hAJ_sEI, sEJ_at, S.2.2.2.2.2.2.1]) (fun r z0 z1 z2 => by rw [rd_hAJ_sEI, sEJ_ne _ _ _ z2, S.2.2.2.2.2.2.1]) (by rw [sEI_at, rd_hAI_sEJ, g350]) S.2.2.2.2.2.2.2).ct ha3 ha30 q5 r5
  · have hlt : (nI np < (5 : Int32)) = False := eq_false (nI_nlt (b := 5) (by omega) (by omega))
    have hne : (nI (5 + np) = (10 : Int32)) = True := eq_true ((nI_eq (b := 10) (by omega) (by decide)).2 (by omega))
    simp only [am_kd, am_let_e, bR_s, am_nar4_0, am_nar4_1, if_true, if_false, z1, rd_hK_sEI, rd_hFR_sEI, rd_hLN_sEI, rd_hFI_sEI, rd_hFJ_sEI, rd_hK_sEJ, rd_hFR_sEJ, rd_hLN_sEJ, rd_hFI_sEJ, rd_hAI_sEJ, rd_hK_sFI, rd_hFR_sFI, rd_hLN_sFI, rd_hAI_sFI, k3, k1, ka, k14, k17, kr2, kr4, kr5, kr6, kr7, kr8, kr9, kr10, kr11, kr12, kr13, kr18, kr21, kr22, kr24, nr2, nr4, nr5, nr6, nr7, nr8, nr9, nr10, nr11, nr12, nr13, nr18, nr21, nr22, nr24, f600, f601, f500, f506, f508, f509, f510, f511, f512, f513, f514, f515, f516, f517, f518, f519, f701, f704, f705, f707, m0, f1210, k350, n350, f1211, k351, n351, f1215, k355, n355, ep, tp, kc1, j1, xm, xc, hlt, hne]
    exact Ln.no (fun _ => rfl) (fun _ => rfl) (st_fail (d := d + 3) (d2 := d2 + 3) c m (k := 5) rfl (by decide) (by decide))
theorem ln_person {d d2 a n b np ny nc ne nw : Nat} {h g : AH} {T : Nat → Nat} (ha : a = 4 ∨ a = 30) (c : CX h a n T b) (m : MX g n T b) (P : PR h g a np ny nc ne nw) (hb : b < n) : Ln a n T b h g (am_C PG (d + 5) 91 [.ref 3] h) (am_C PG (d2 + 5) 192 [.ref 348] g) := by
  have ha3 : 3 < a := by omega
  have ha30 : a ≤ 30 := by omega
  have N := P.2.1
  obtain ⟨kc1, kc2, kc3, kc4, kc5, j1, j2, j3, j4, j5, l1, l2, l3, l4⟩ := P.1
  obtain ⟨k3, k1, ka, k14, k17, kr2, kr4, kr5, kr6, kr7, kr8, kr9, kr10, kr11, kr12, kr13, kr18, kr21, kr22, kr24, nr2, nr4, nr5, nr6, nr7, nr8, nr9, nr10, nr11, nr12, nr13, nr18, nr21, nr22, nr24⟩ := c.kl
  obtain ⟨f600, f601, f500, f506, f508, f509, f510, f511, f512, f513, f514, f515, f516, f517, f518, f519, f701, f704, f705, f707⟩ := c.fr
  have hm := m.1.1
  have m0 := hm.1
  have f1210 : hFR _ 1210 348 = some 350 := (hm.2 1 (by decide)).1
  have k350 : hK _ 350 = 50 := (hm.2 1 (by decide)).2.1
  have n350 : hLN _ 350 = 10 := (hm.2 1 (by decide)).2.2
  have f1213 : hFR _ 1213 348 = some 353 := (hm.2 4 (by decide)).1
  have k353 : hK _ 353 = 53 := (hm.2 4 (by decide)).2.1
  have n353 : hLN _ 353 = 8 := (hm.2 4 (by decide)).2.2
  have f1222 : hFR _ 1222 348 = some 362 := (hm.2 13 (by decide)).1
  have k362 : hK _ 362 = 50 := (hm.2 13 (by decide)).2.1
  have n362 : hLN _ 362 = 8 := (hm.2 13 (by decide)).2.2
  have f1223 : hFR _ 1223 348 = some 363 := (hm.2 14 (by decide)).1
  have k363 : hK _ 363 = 50 := (hm.2 14 (by decide)).2.1
  have n363 : hLN _ 363 = 8 := (hm.2 14 (by decide)).2.2
  have f1224 : hFR _ 1224 348 = some 364 := (hm.2 15 (by decide)).1
  have k364 : hK _ 364 = 50 := (hm.2 15 (by decide)).2.1
  have n364 : hLN _ 364 = 8 := (hm.2 15 (by decide)).2.2
  have z1 : ((1 : Int32) = 0) = False := eq_false (by decide)
  have ti : Int32.toNatClampNeg (nI ne) = ne := nI_clamp (by omega)
  have tm : Int32.toNatClampNeg (nI (4 + ne)) = 4 + ne := nI_clamp (by omega)
  have xm : (4 : Int32) + nI ne = nI (4 + ne) := nI_add 4 ne
  have xc : (11 : Int32) + nI ne = nI (11 + ne) := nI_add 11 ne
  have ep : ∀ x, am_in (8 : Int32) 10 x = x := am_inN (i := 8) (by decide) (by decide)
  have tp : Int32.toNatClampNeg (8 : Int32) = 8 := by decide
  rw [q_X6_personLine, q_X12_readsPerson]
  by_cases hc : ne < 4
  · have ei : ∀ x, am_in (nI ne) 4 x = x := am_inN hc (by decide)
    have em : ∀ x, am_in (nI (4 + ne)) 8 x = x := am_inN (by omega) (by decide)
    have hlt : (nI ne < (4 : Int32)) = True := eq_true (nI_lt (b := 4) hc (by decide))
    have hne : (nI (4 + ne) = (8 : Int32)) = False := eq_false (fun z => by have := (nI_eq (b := 8) (by omega) (by decide)).1 z; omega)
    simp only [am_kd, am_let_e, bR_s, am_nar4_0, am_nar4_1, if_true, if_false, z1, rd_hK_sEI, rd_hFR_sEI, rd_hLN_sEI, rd_hFI_sEI, rd_hFJ_sEI, rd_hK_sEJ, rd_hFR_sEJ, rd_hLN_sEJ, rd_hFI_sEJ, rd_hAI_sEJ, rd_hK_sFI, rd_hFR_sFI, rd_hLN_sFI, rd_hAI_sFI, k3, k1, ka, k14, k17, kr2, kr4, kr5, kr6, kr7, kr8, kr9, kr10, kr11, kr12, kr13, kr18, kr21, kr22, kr24, nr2, nr4, nr5, nr6, nr7, nr8, nr9, nr10, nr11, nr12, nr13, nr18, nr21, nr22, nr24, f600, f601, f500, f506, f508, f509, f510, f511, f512, f513, f514, f515, f516, f517, f518, f519, f701, f704, f705, f707, m0, f1210, k350, n350, f1213, k353, n353, f1222, k362, n362, f1223, k363, n363, f1224, k364, n364, ep, tp, kc4, j4, xm, xc, hlt, hne]
    obtain ⟨h1, g1, x1, y1, q1, r1, c1, m1⟩ := st_adv (d := d + 1) (d2 := d2 + 2) c m
    rw [x1, y1, bV_s, bV_s]
    refine Ln.go (q1.cs a) r1.mz ?_
    obtain ⟨k3, k1, ka, k14, k17, kr2, kr4, kr5, kr6, kr7, kr8, kr9, kr10, kr11, kr12, kr13, kr18, kr21, kr22, kr24, nr2, nr4, nr5, nr6, nr7, nr8, nr9, nr10, nr11, nr12, nr13, nr18, nr21, nr22, nr24⟩ := c1.kl
    obtain ⟨f600, f601, f500, f506, f508, f509, f510, f511, f512, f513, f514, f515, f516, f517, f518, f519, f701, f704, f705, f707⟩ := c1.fr
    have hm := m1.1.1
    have m0 := hm.1
    have f1210 : hFR _ 1210 348 = some 350 := (hm.2 1 (by decide)).1
    have k350 : hK _ 350 = 50 := (hm.2 1 (by decide)).2.1
    have n350 : hLN _ 350 = 10 := (hm.2 1 (by decide)).2.2
    have f1213 : hFR _ 1213 348 = some 353 := (hm.2 4 (by decide)).1
    have k353 : hK _ 353 = 53 := (hm.2 4 (by decide)).2.1
    have n353 : hLN _ 353 = 8 := (hm.2 4 (by decide)).2.2
    have f1222 : hFR _ 1222 348 = some 362 := (hm.2 13 (by decide)).1
    have k362 : hK _ 362 = 50 := (hm.2 13 (by decide)).2.1
    have n362 : hLN _ 362 = 8 := (hm.2 13 (by decide)).2.2
    have f1223 : hFR _ 1223 348 = some 363 := (hm.2 14 (by decide)).1
    have k363 : hK _ 363 = 50 := (hm.2 14 (by decide)).2.1
    have n363 : hLN _ 363 = 8 := (hm.2 14 (by decide)).2.2
    have f1224 : hFR _ 1224 348 = some 364 := (hm.2 15 (by decide)).1
    have k364 : hK _ 364 = 50 := (hm.2 15 (by decide)).2.1
    have n364 : hLN _ 364 = 8 := (hm.2 15 (by decide)).2.2
    have P1 := P.ct ha3 ha30 q1 r1
    simp only [am_kd, am_let_e, bR_s, am_nar4_0, am_nar4_1, if_true, if_false, z1, rd_hK_sEI, rd_hFR_sEI, rd_hLN_sEI, rd_hFI_sEI, rd_hFJ_sEI, rd_hK_sEJ, rd_hFR_sEJ, rd_hLN_sEJ, rd_hFI_sEJ, rd_hAI_sEJ, rd_hK_sFI, rd_hFR_sFI, rd_hLN_sFI, rd_hAI_sFI, k3, k1, ka, k14, k17, kr2, kr4, kr5, kr6, kr7, kr8, kr9, kr10, kr11, kr12, kr13, kr18, kr21, kr22, kr24, nr2, nr4, nr5, nr6, nr7, nr8, nr9, nr10, nr11, nr12, nr13, nr18, nr21, nr22, nr24, f600, f601, f500, f506, f508, f509, f510, f511, f512, f513, f514, f515, f516, f517, f518, f519, f701, f704, f705, f707, m0, f1210, k350, n350, f1213, k353, n353, f1222, k362, n362, f1223, k363, n363, f1224, k364, n364]
    rcases st_new (d := d) (d2 := d2 + 1) (at' := 11 + ne) (av := nI (11 + ne)) (by omega) rfl P1.2.1 P1.1 c1 m1 with F | ⟨h2, g2, x2, y2, z2, s2, w0, q2, r2, c2, m2, -⟩
    · exact Ln.no (fun _ => rfl) (fun _ => rfl) F
    rw [x2, y2, bI_s, bI_s]
    simp only [am_kd, am_let_e, bR_s, am_nar4_0, am_nar4_1, if_true, if_false, z1, rd_hK_sEI, rd_hFR_sEI, rd_hLN_sEI, rd_hFI_sEI, rd_hFJ_sEI, rd_hK_sEJ, rd_hFR_sEJ, rd_hLN_sEJ, rd_hFI_sEJ, rd_hAI_sEJ, rd_hK_sFI, rd_hFR_sFI, rd_hLN_sFI, rd_hAI_sFI, k3, k1, ka, k14, k17, kr2, kr4, kr5, kr6, kr7, kr8, kr9, kr10, kr11, kr12, kr13, kr18, kr21, kr22, kr24, nr2, nr4, nr5, nr6, nr7, nr8, nr9, nr10, nr11, nr12, nr13, nr18, nr21, nr22, nr24, f600, f601, f500, f506, f508, f509, f510, f511, f512, f513, f514, f515, f516, f517, f518, f519, f701, f704, f705, f707, m0, f1210, k350, n350, f1213, k353, n353, f1222, k362, n362, f1223, k363, n363, f1224, k364, n364, z2, bV_s, s2]
    refine Ln.go ((CS.ej h1 (11 + ne) (wrd n T (nxt n T b))).tr (q2.cs a)) r2.mz ?_
    have S : WS h g h2 g2 a (hAI h) (hAI g) (vp_updL (hAJ h (a + 1)) (11 + ne) (wrd n T (nxt n T b))) := WS.new ha3 ha30 q1 r1 q2 r2
    obtain ⟨k3, k1, ka, k14, k17, kr2, kr4, kr5, kr6, kr7, kr8, kr9, kr10, kr11, kr12, kr13, kr18, kr21, kr22, kr24, nr2, nr4, nr5, nr6, nr7, nr8, nr9, nr10, nr11, nr12, nr13, nr18, nr21, nr22, nr24⟩ := c2.kl
    obtain ⟨f600, f601, f500, f506, f508, f509, f510, f511, f512, f513, f514, f515, f516, f517, f518, f519, f701, f704, f705, f707⟩ := c2.fr
    have hm := m2.1.1
    have m0 := hm.1
    have f1210 : hFR _ 1210 348 = some 350 := (hm.2 1 (by decide)).1
    have k350 : hK _ 350 = 50 := (hm.2 1 (by decide)).2.1
    have n350 : hLN _ 350 = 10 := (hm.2 1 (by decide)).2.2
    have f1213 : hFR _ 1213 348 = some 353 := (hm.2 4 (by decide)).1
    have k353 : hK _ 353 = 53 := (hm.2 4 (by decide)).2.1
    have n353 : hLN _ 353 = 8 := (hm.2 4 (by decide)).2.2
    have f1222 : hFR _ 1222 348 = some 362 := (hm.2 13 (by decide)).1
    have k362 : hK _ 362 = 50 := (hm.2 13 (by decide)).2.1
    have n362 : hLN _ 362 = 8 := (hm.2 13 (by decide)).2.2
    have f1223 : hFR _ 1223 348 = some 363 := (hm.2 14 (by decide)).1
    have k363 : hK _ 363 = 50 := (hm.2 14 (by decide)).2.1
    have n363 : hLN _ 363 = 8 := (hm.2 14 (by decide)).2.2
    have f1224 : hFR _ 1224 348 = some 364 := (hm.2 15 (by decide)).1
    have k364 : hK _ 364 = 50 := (hm.2 15 (by decide)).2.1
    have n364 : hLN _ 364 = 8 := (hm.2 15 (by decide)).2.2
    rw [m_takes_e]
    have D := S.2.2.1
    simp only [am_kd, am_let_e, bR_s, am_nar4_0, am_nar4_1, if_true, if_false, z1, rd_hK_sEI, rd_hFR_sEI, rd_hLN_sEI, rd_hFI_sEI, rd_hFJ_sEI, rd_hK_sEJ, rd_hFR_sEJ, rd_hLN_sEJ, rd_hFI_sEJ, rd_hAI_sEJ, rd_hK_sFI, rd_hFR_sFI, rd_hLN_sFI, rd_hAI_sFI, k3, k1, ka, k14, k17, kr2, kr4, kr5, kr6, kr7, kr8, kr9, kr10, kr11, kr12, kr13, kr18, kr21, kr22, kr24, nr2, nr4, nr5, nr6, nr7, nr8, nr9, nr10, nr11, nr12, nr13, nr18, nr21, nr22, nr24, f600, f601, f500, f506, f508, f509, f510, f511, f512, f513, f514, f515, f516, f517, f518, f519, f701, f704, f705, f707, m0, f1210, k350, n350, f1213, k353, n353, f1222, k362, n362, f1223, k363, n363, f1224, k364, n364, D, kc1, kc2, kc3, kc4, kc5]
    rcases st_word (d := d) (d2 := d2) (w := 47) (r := 1000004) (k := 4) rfl rfl (by decide) c2 m2 with ⟨-, F⟩ | ⟨-, h3, g3, x3, y3, q3, r3, c3, m3, -⟩
    · exact Ln.no (fun _ => rfl) (fun _ => rfl) F
    rw [x3, y3, bI_s, bI_s]
    have S := S.ct ha3 ha30 q3 r3
    have D := S.2.2.1
    refine Ln.go (q3.cs a) r3.mz ?_
    obtain ⟨k3, k1, ka, k14, k17, kr2, kr4, kr5, kr6, kr7, kr8, kr9, kr10, kr11, kr12, kr13, kr18, kr21, kr22, kr24, nr2, nr4, nr5, nr6, nr7, nr8, nr9, nr10, nr11, nr12, nr13, nr18, nr21, nr22, nr24⟩ := c3.kl
    obtain ⟨f600, f601, f500, f506, f508, f509, f510, f511, f512, f513, f514, f515, f516, f517, f518, f519, f701, f704, f705, f707⟩ := c3.fr
    have hm := m3.1.1
    have m0 := hm.1
    have f1210 : hFR _ 1210 348 = some 350 := (hm.2 1 (by decide)).1
    have k350 : hK _ 350 = 50 := (hm.2 1 (by decide)).2.1
    have n350 : hLN _ 350 = 10 := (hm.2 1 (by decide)).2.2
    have f1213 : hFR _ 1213 348 = some 353 := (hm.2 4 (by decide)).1
    have k353 : hK _ 353 = 53 := (hm.2 4 (by decide)).2.1
    have n353 : hLN _ 353 = 8 := (hm.2 4 (by decide)).2.2
    have f1222 : hFR _ 1222 348 = some 362 := (hm.2 13 (by decide)).1
    have k362 : hK _ 362 = 50 := (hm.2 13 (by decide)).2.1
    have n362 : hLN _ 362 = 8 := (hm.2 13 (by decide)).2.2
    have f1223 : hFR _ 1223 348 = some 363 := (hm.2 14 (by decide)).1
    have k363 : hK _ 363 = 50 := (hm.2 14 (by decide)).2.1
    have n363 : hLN _ 363 = 8 := (hm.2 14 (by decide)).2.2
    have f1224 : hFR _ 1224 348 = some 364 := (hm.2 15 (by decide)).1
    have k364 : hK _ 364 = 50 := (hm.2 15 (by decide)).2.1
    have n364 : hLN _ 364 = 8 := (hm.2 15 (by decide)).2.2
    simp only [am_kd, am_let_e, bR_s, am_nar4_0, am_nar4_1, if_true, if_false, z1, rd_hK_sEI, rd_hFR_sEI, rd_hLN_sEI, rd_hFI_sEI, rd_hFJ_sEI, rd_hK_sEJ, rd_hFR_sEJ, rd_hLN_sEJ, rd_hFI_sEJ, rd_hAI_sEJ, rd_hK_sFI, rd_hFR_sFI, rd_hLN_sFI, rd_hAI_sFI, k3, k1, ka, k14, k17, kr2, kr4, kr5, kr6, kr7, kr8, kr9, kr10, kr11, kr12, kr13, kr18, kr21, kr22, kr24, nr2, nr4, nr5, nr6, nr7, nr8, nr9, nr10, nr11, nr12, nr13, nr18, nr21, nr22, nr24, f600, f601, f500, f506, f508, f509, f510, f511, f512, f513, f514, f515, f516, f517, f518, f519, f701, f704, f705, f707, m0, f1210, k350, n350, f1213, k353, n353, f1222, k362, n362, f1223, k363, n363, f1224, k364, n364, D, kc1, kc2, kc3, kc4, kc5]
    rcases st_told0 (d := d) (d2 := d2) (r := 1) (rr := 1) (ff := 0) (mm := nI np) rfl rfl rfl (by decide) (by rw [S.2.2.2.2.2.1]; exact j1) l1 (fun j hj => by rw [S.2.1, S.2.2.2.2.2.2.1, pk_uLn (by omega)]; rw [Nat.zero_add]; exact N.1.1 j hj) c3 m3 with F | ⟨q, h4, gg4, g4, v4, x4, y4, z4, kg, -, e605, e1246, q4, r4, c4, m4, -⟩
    · exact Ln.no (fun _ => rfl) (fun _ => rfl) F
    rw [x4, y4, bI_s, bI_s]
    simp only [am_kd, am_let_e, bR_s, am_nar4_0, am_nar4_1, if_true, if_false, z1, rd_hK_sEI, rd_hFR_sEI, rd_hLN_sEI, rd_hFI_sEI, rd_hFJ_sEI, rd_hK_sEJ, rd_hFR_sEJ, rd_hLN_sEJ, rd_hFI_sEJ, rd_hAI_sEJ, rd_hK_sFI, rd_hFR_sFI, rd_hLN_sFI, rd_hAI_sFI, k3, k1, ka, k14, k17, kr2, kr4, kr5, kr6, kr7, kr8, kr9, kr10, kr11, kr12, kr13, kr18, kr21, kr22, kr24, nr2, nr4, nr5, nr6, nr7, nr8, nr9, nr10, nr11, nr12, nr13, nr18, nr21, nr22, nr24, f600, f601, f500, f506, f508, f509, f510, f511, f512, f513, f514, f515, f516, f517, f518, f519, f701, f704, f705, f707, m0, f1210, k350, n350, f1213, k353, n353, f1222, k362, n362, f1223, k363, n363, f1224, k364, n364, kg, z4, bV_s]
    have S := S.ct ha3 ha30 q4 r4
    have D := S.2.2.1
    refine Ln.go (q4.cs a) r4.mz ?_
    obtain ⟨k3, k1, ka, k14, k17, kr2, kr4, kr5, kr6, kr7, kr8, kr9, kr10, kr11, kr12, kr13, kr18, kr21, kr22, kr24, nr2, nr4, nr5, nr6, nr7, nr8, nr9, nr10, nr11, nr12, nr13, nr18, nr21, nr22, nr24⟩ := c4.kl
    obtain ⟨f600, f601, f500, f506, f508, f509, f510, f511, f512, f513, f514, f515, f516, f517, f518, f519, f701, f704, f705, f707⟩ := c4.fr
    have hm := m4.1.1
    have m0 := hm.1
    have f1210 : hFR _ 1210 348 = some 350 := (hm.2 1 (by decide)).1
    have k350 : hK _ 350 = 50 := (hm.2 1 (by decide)).2.1
    have n350 : hLN _ 350 = 10 := (hm.2 1 (by decide)).2.2
    have f1213 : hFR _ 1213 348 = some 353 := (hm.2 4 (by decide)).1
    have k353 : hK _ 353 = 53 := (hm.2 4 (by decide)).2.1
    have n353 : hLN _ 353 = 8 := (hm.2 4 (by decide)).2.2
    have f1222 : hFR _ 1222 348 = some 362 := (hm.2 13 (by decide)).1
    have k362 : hK _ 362 = 50 := (hm.2 13 (by decide)).2.1
    have n362 : hLN _ 362 = 8 := (hm.2 13 (by decide)).2.2
    have f1223 : hFR _ 1223 348 = some 363 := (hm.2 14 (by decide)).1
    have k363 : hK _ 363 = 50 := (hm.2 14 (by decide)).2.1
    have n363 : hLN _ 363 = 8 := (hm.2 14 (by decide)).2.2
    have f1224 : hFR _ 1224 348 = some 364 := (hm.2 15 (by decide)).1
    have k364 : hK _ 364 = 50 := (hm.2 15 (by decide)).2.1
    have n364 : hLN _ 364 = 8 := (hm.2 15 (by decide)).2.2
    simp only [am_kd, am_let_e, bR_s, am_nar4_0, am_nar4_1, if_true, if_false, z1, rd_hK_sEI, rd_hFR_sEI, rd_hLN_sEI, rd_hFI_sEI, rd_hFJ_sEI, rd_hK_sEJ, rd_hFR_sEJ, rd_hLN_sEJ, rd_hFI_sEJ, rd_hAI_sEJ, rd_hK_sFI, rd_hFR_sFI, rd_hLN_sFI, rd_hAI_sFI, k3, k1, ka, k14, k17, kr2, kr4, kr5, kr6, kr7, kr8, kr9, kr10, kr11, kr12, kr13, kr18, kr21, kr22, kr24, nr2, nr4, nr5, nr6, nr7, nr8, nr9, nr10, nr11, nr12, nr13, nr18, nr21, nr22, nr24, f600, f601, f500, f506, f508, f509, f510, f511, f512, f513, f514, f515, f516, f517, f518, f519, f701, f704, f705, f707, m0, f1210, k350, n350, f1213, k353, n353, f1222, k362, n362, f1223, k363, n363, f1224, k364, n364, ei, ti, em, tm, e605, e1246]
    refine Ln.go (CS.ei h4 ne (nI q) (r := a + 21) (by omega)) (MZ.ei g4 (r := 362) (i := 4 + ne) (nI q) (by decide) (by have : hf 362 = 4 := rfl; omega)) ?_
    have S := S.ew (a + 21) ne (nI q) 362 (4 + ne) (nI q)
    have c4w := c4.ei (r := a + 21) ne (nI q) (by omega)
    have m4w := m4.ei (r := 362) (4 + ne) (nI q) (by decide)
    obtain ⟨k3, k1, ka, k14, k17, kr2, kr4, kr5, kr6, kr7, kr8, kr9, kr10, kr11, kr12, kr13, kr18, kr21, kr22, kr24, nr2, nr4, nr5, nr6, nr7, nr8, nr9, nr10, nr11, nr12, nr13, nr18, nr21, nr22, nr24⟩ := c4w.kl
    obtain ⟨f600, f601, f500, f506, f508, f509, f510, f511, f512, f513, f514, f515, f516, f517, f518, f519, f701, f704, f705, f707⟩ := c4w.fr
    have hm := m4w.1.1
    have m0 := hm.1
    have f1210 : hFR _ 1210 348 = some 350 := (hm.2 1 (by decide)).1
    have k350 : hK _ 350 = 50 := (hm.2 1 (by decide)).2.1
    have n350 : hLN _ 350 = 10 := (hm.2 1 (by decide)).2.2
    have f1213 : hFR _ 1213 348 = some 353 := (hm.2 4 (by decide)).1
    have k353 : hK _ 353 = 53 := (hm.2 4 (by decide)).2.1
    have n353 : hLN _ 353 = 8 := (hm.2 4 (by decide)).2.2
    have f1222 : hFR _ 1222 348 = some 362 := (hm.2 13 (by decide)).1
    have k362 : hK _ 362 = 50 := (hm.2 13 (by decide)).2.1
    have n362 : hLN _ 362 = 8 := (hm.2 13 (by decide)).2.2
    have f1223 : hFR _ 1223 348 = some 363 := (hm.2 14 (by decide)).1
    have k363 : hK _ 363 = 50 := (hm.2 14 (by decide)).2.1
    have n363 : hLN _ 363 = 8 := (hm.2 14 (by decide)).2.2
    have f1224 : hFR _ 1224 348 = some 364 := (hm.2 15 (by decide)).1
    have k364 : hK _ 364 = 50 := (hm.2 15 (by decide)).2.1
    have n364 : hLN _ 364 = 8 := (hm.2 15 (by decide)).2.2
    rw [m_both_e]
    have D := S.2.2.1
    simp only [am_kd, am_let_e, bR_s, am_nar4_0, am_nar4_1, if_true, if_false, z1, rd_hK_sEI, rd_hFR_sEI, rd_hLN_sEI, rd_hFI_sEI, rd_hFJ_sEI, rd_hK_sEJ, rd_hFR_sEJ, rd_hLN_sEJ, rd_hFI_sEJ, rd_hAI_sEJ, rd_hK_sFI, rd_hFR_sFI, rd_hLN_sFI, rd_hAI_sFI, k3, k1, ka, k14, k17, kr2, kr4, kr5, kr6, kr7, kr8, kr9, kr10, kr11, kr12, kr13, kr18, kr21, kr22, kr24, nr2, nr4, nr5, nr6, nr7, nr8, nr9, nr10, nr11, nr12, nr13, nr18, nr21, nr22, nr24, f600, f601, f500, f506, f508, f509, f510, f511, f512, f513, f514, f515, f516, f517, f518, f519, f701, f704, f705, f707, m0, f1210, k350, n350, f1213, k353, n353, f1222, k362, n362, f1223, k363, n363, f1224, k364, n364, D, kc1, kc2, kc3, kc4, kc5]
    rcases st_word (d := d) (d2 := d2) (w := 380989) (r := 1000007) (k := 7) rfl rfl (by decide) c4w m4w with ⟨-, F⟩ | ⟨-, h5, g5, x5, y5, q5, r5, c5, m5, -⟩
    · exact Ln.no (fun _ => rfl) (fun _ => rfl) F
    rw [x5, y5, bI_s, bI_s]
    have S := S.ct ha3 ha30 q5 r5
    have D := S.2.2.1
    refine Ln.go (q5.cs a) r5.mz ?_
    obtain ⟨k3, k1, ka, k14, k17, kr2, kr4, kr5, kr6, kr7, kr8, kr9, kr10, kr11, kr12, kr13, kr18, kr21, kr22, kr24, nr2, nr4, nr5, nr6, nr7, nr8, nr9, nr10, nr11, nr12, nr13, nr18, nr21, nr22, nr24⟩ := c5.kl
    obtain ⟨f600, f601, f500, f506, f508, f509, f510, f511, f512, f513, f514, f515, f516, f517, f518, f519, f701, f704, f705, f707⟩ := c5.fr
    have hm := m5.1.1
    have m0 := hm.1
    have f1210 : hFR _ 1210 348 = some 350 := (hm.2 1 (by decide)).1
    have k350 : hK _ 350 = 50 := (hm.2 1 (by decide)).2.1
    have n350 : hLN _ 350 = 10 := (hm.2 1 (by decide)).2.2
    have f1213 : hFR _ 1213 348 = some 353 := (hm.2 4 (by decide)).1
    have k353 : hK _ 353 = 53 := (hm.2 4 (by decide)).2.1
    have n353 : hLN _ 353 = 8 := (hm.2 4 (by decide)).2.2
    have f1222 : hFR _ 1222 348 = some 362 := (hm.2 13 (by decide)).1
    have k362 : hK _ 362 = 50 := (hm.2 13 (by decide)).2.1
    have n362 : hLN _ 362 = 8 := (hm.2 13 (by decide)).2.2
    have f1223 : hFR _ 1223 348 = some 363 := (hm.2 14 (by decide)).1
    have k363 : hK _ 363 = 50 := (hm.2 14 (by decide)).2.1
    have n363 : hLN _ 363 = 8 := (hm.2 14 (by decide)).2.2
    have f1224 : hFR _ 1224 348 = some 364 := (hm.2 15 (by decide)).1
    have k364 : hK _ 364 = 50 := (hm.2 15 (by decide)).2.1
    have n364 : hLN _ 364 = 8 := (hm.2 15 (by decide)).2.2
    simp only [am_kd, am_let_e, bR_s, am_nar4_0, am_nar4_1, if_true, if_false, z1, rd_hK_sEI, rd_hFR_sEI, rd_hLN_sEI, rd_hFI_sEI, rd_hFJ_sEI, rd_hK_sEJ, rd_hFR_sEJ, rd_hLN_sEJ, rd_hFI_sEJ, rd_hAI_sEJ, rd_hK_sFI, rd_hFR_sFI, rd_hLN_sFI, rd_hAI_sFI, k3, k1, ka, k14, k17, kr2, kr4, kr5, kr6, kr7, kr8, kr9, kr10, kr11, kr12, kr13, kr18, kr21, kr22, kr24, nr2, nr4, nr5, nr6, nr7, nr8, nr9, nr10, nr11, nr12, nr13, nr18, nr21, nr22, nr24, f600, f601, f500, f506, f508, f509, f510, f511, f512, f513, f514, f515, f516, f517, f518, f519, f701, f704, f705, f707, m0, f1210, k350, n350, f1213, k353, n353, f1222, k362, n362, f1223, k363, n363, f1224, k364, n364, D, kc1, kc2, kc3, kc4, kc5]
    rcases st_number (d := d) (d2 := d2) (lo := 0) (hi := 9) (l := 0) (u := 9) rfl rfl (by decide) (by omega) c5 m5 with F | ⟨s, h6, g6, v6, u6, x6, y6, e605, e1246, q6, r6, c6, m6, b6⟩
    · exact Ln.no (fun _ => rfl) (fun _ => rfl) F
    rw [x6, y6, bI_s, bI_s]
    have S := S.ct ha3 ha30 q6 r6
    have D := S.2.2.1
    refine Ln.go (q6.cs a) r6.mz ?_
    obtain ⟨k3, k1, ka, k14, k17, kr2, kr4, kr5, kr6, kr7, kr8, kr9, kr10, kr11, kr12, kr13, kr18, kr21, kr22, kr24, nr2, nr4, nr5, nr6, nr7, nr8, nr9, nr10, nr11, nr12, nr13, nr18, nr21, nr22, nr24⟩ := c6.kl
    obtain ⟨f600, f601, f500, f506, f508, f509, f510, f511, f512, f513, f514, f515, f516, f517, f518, f519, f701, f704, f705, f707⟩ := c6.fr
    have hm := m6.1.1
    have m0 := hm.1
    have f1210 : hFR _ 1210 348 = some 350 := (hm.2 1 (by decide)).1
    have k350 : hK _ 350 = 50 := (hm.2 1 (by decide)).2.1
    have n350 : hLN _ 350 = 10 := (hm.2 1 (by decide)).2.2
    have f1213 : hFR _ 1213 348 = some 353 := (hm.2 4 (by decide)).1
    have k353 : hK _ 353 = 53 := (hm.2 4 (by decide)).2.1
    have n353 : hLN _ 353 = 8 := (hm.2 4 (by decide)).2.2
    have f1222 : hFR _ 1222 348 = some 362 := (hm.2 13 (by decide)).1
    have k362 : hK _ 362 = 50 := (hm.2 13 (by decide)).2.1
    have n362 : hLN _ 362 = 8 := (hm.2 13 (by decide)).2.2
    have f1223 : hFR _ 1223 348 = some 363 := (hm.2 14 (by decide)).1
    have k363 : hK _ 363 = 50 := (hm.2 14 (by decide)).2.1
    have n363 : hLN _ 363 = 8 := (hm.2 14 (by decide)).2.2
    have f1224 : hFR _ 1224 348 = some 364 := (hm.2 15 (by decide)).1
    have k364 : hK _ 364 = 50 := (hm.2 15 (by decide)).2.1
    have n364 : hLN _ 364 = 8 := (hm.2 15 (by decide)).2.2
    simp only [am_kd, am_let_e, bR_s, am_nar4_0, am_nar4_1, if_true, if_false, z1, rd_hK_sEI, rd_hFR_sEI, rd_hLN_sEI, rd_hFI_sEI, rd_hFJ_sEI, rd_hK_sEJ, rd_hFR_sEJ, rd_hLN_sEJ, rd_hFI_sEJ, rd_hAI_sEJ, rd_hK_sFI, rd_hFR_sFI, rd_hLN_sFI, rd_hAI_sFI, k3, k1, ka, k14, k17, kr2, kr4, kr5, kr6, kr7, kr8, kr9, kr10, kr11, kr12, kr13, kr18, kr21, kr22, kr24, nr2, nr4, nr5, nr6, nr7, nr8, nr9, nr10, nr11, nr12, nr13, nr18, nr21, nr22, nr24, f600, f601, f500, f506, f508, f509, f510, f511, f512, f513, f514, f515, f516, f517, f518, f519, f701, f704, f705, f707, m0, f1210, k350, n350, f1213, k353, n353, f1222, k362, n362, f1223, k363, n363, f1224, k364, n364, ei, ti, em, tm, e605, e1246]
    refine Ln.go (CS.ei h6 ne (nI s) (r := a + 8) (by omega)) (MZ.ei g6 (r := 363) (i := 4 + ne) (nI s) (by decide) (by have : hf 363 = 4 := rfl; omega)) ?_
    have S := S.ew (a + 8) ne (nI s) 363 (4 + ne) (nI s)
    have c6w := c6.ei (r := a + 8) ne (nI s) (by omega)
    have m6w := m6.ei (r := 363) (4 + ne) (nI s) (by decide)
    obtain ⟨k3, k1, ka, k14, k17, kr2, kr4, kr5, kr6, kr7, kr8, kr9, kr10, kr11, kr12, kr13, kr18, kr21, kr22, kr24, nr2, nr4, nr5, nr6, nr7, nr8, nr9, nr10, nr11, nr12, nr13, nr18, nr21, nr22, nr24⟩ := c6w.kl
    obtain ⟨f600, f601, f500, f506, f508, f509, f510, f511, f512, f513, f514, f515, f516, f517, f518, f519, f701, f704, f705, f707⟩ := c6w.fr
    have hm := m6w.1.1
    have m0 := hm.1
    have f1210 : hFR _ 1210 348 = some 350 := (hm.2 1 (by decide)).1
    have k350 : hK _ 350 = 50 := (hm.2 1 (by decide)).2.1
    have n350 : hLN _ 350 = 10 := (hm.2 1 (by decide)).2.2
    have f1213 : hFR _ 1213 348 = some 353 := (hm.2 4 (by decide)).1
    have k353 : hK _ 353 = 53 := (hm.2 4 (by decide)).2.1
    have n353 : hLN _ 353 = 8 := (hm.2 4 (by decide)).2.2
    have f1222 : hFR _ 1222 348 = some 362 := (hm.2 13 (by decide)).1
    have k362 : hK _ 362 = 50 := (hm.2 13 (by decide)).2.1
    have n362 : hLN _ 362 = 8 := (hm.2 13 (by decide)).2.2
    have f1223 : hFR _ 1223 348 = some 363 := (hm.2 14 (by decide)).1
    have k363 : hK _ 363 = 50 := (hm.2 14 (by decide)).2.1
    have n363 : hLN _ 363 = 8 := (hm.2 14 (by decide)).2.2
    have f1224 : hFR _ 1224 348 = some 364 := (hm.2 15 (by decide)).1
    have k364 : hK _ 364 = 50 := (hm.2 15 (by decide)).2.1
    have n364 : hLN _ 364 = 8 := (hm.2 15 (by decide)).2.2
    rw [m_both_e]
    have D := S.2.2.1
    simp only [am_kd, am_let_e, bR_s, am_nar4_0, am_nar4_1, if_true, if_false, z1, rd_hK_sEI, rd_hFR_sEI, rd_hLN_sEI, rd_hFI_sEI, rd_hFJ_sEI, rd_hK_sEJ, rd_hFR_sEJ, rd_hLN_sEJ, rd_hFI_sEJ, rd_hAI_sEJ, rd_hK_sFI, rd_hFR_sFI, rd_hLN_sFI, rd_hAI_sFI, k3, k1, ka, k14, k17, kr2, kr4, kr5, kr6, kr7, kr8, kr9, kr10, kr11, kr12, kr13, kr18, kr21, kr22, kr24, nr2, nr4, nr5, nr6, nr7, nr8, nr9, nr10, nr11, nr12, nr13, nr18, nr21, nr22, nr24, f600, f601, f500, f506, f508, f509, f510, f511, f512, f513, f514, f515, f516, f517, f518, f519, f701, f704, f705, f707, m0, f1210, k350, n350, f1213, k353, n353, f1222, k362, n362, f1223, k363, n363, f1224, k364, n364, D, kc1, kc2, kc3, kc4, kc5]
    rcases st_word (d := d) (d2 := d2) (w := 5878) (r := 1000006) (k := 6) rfl rfl (by decide) c6w m6w with ⟨-, F⟩ | ⟨-, h7, g7, x7, y7, q7, r7, c7, m7, -⟩
    · exact Ln.no (fun _ => rfl) (fun _ => rfl) F
    rw [x7, y7, bI_s, bI_s]
    have S := S.ct ha3 ha30 q7 r7
    have D := S.2.2.1
    refine Ln.go (q7.cs a) r7.mz ?_
    obtain ⟨k3, k1, ka, k14, k17, kr2, kr4, kr5, kr6, kr7, kr8, kr9, kr10, kr11, kr12, kr13, kr18, kr21, kr22, kr24, nr2, nr4, nr5, nr6, nr7, nr8, nr9, nr10, nr11, nr12, nr13, nr18, nr21, nr22, nr24⟩ := c7.kl
    obtain ⟨f600, f601, f500, f506, f508, f509, f510, f511, f512, f513, f514, f515, f516, f517, f518, f519, f701, f704, f705, f707⟩ := c7.fr
    have hm := m7.1.1
    have m0 := hm.1
    have f1210 : hFR _ 1210 348 = some 350 := (hm.2 1 (by decide)).1
    have k350 : hK _ 350 = 50 := (hm.2 1 (by decide)).2.1
    have n350 : hLN _ 350 = 10 := (hm.2 1 (by decide)).2.2
    have f1213 : hFR _ 1213 348 = some 353 := (hm.2 4 (by decide)).1
    have k353 : hK _ 353 = 53 := (hm.2 4 (by decide)).2.1
    have n353 : hLN _ 353 = 8 := (hm.2 4 (by decide)).2.2
    have f1222 : hFR _ 1222 348 = some 362 := (hm.2 13 (by decide)).1
    have k362 : hK _ 362 = 50 := (hm.2 13 (by decide)).2.1
    have n362 : hLN _ 362 = 8 := (hm.2 13 (by decide)).2.2
    have f1223 : hFR _ 1223 348 = some 363 := (hm.2 14 (by decide)).1
    have k363 : hK _ 363 = 50 := (hm.2 14 (by decide)).2.1
    have n363 : hLN _ 363 = 8 := (hm.2 14 (by decide)).2.2
    have f1224 : hFR _ 1224 348 = some 364 := (hm.2 15 (by decide)).1
    have k364 : hK _ 364 = 50 := (hm.2 15 (by decide)).2.1
    have n364 : hLN _ 364 = 8 := (hm.2 15 (by decide)).2.2
    simp only [am_kd, am_let_e, bR_s, am_nar4_0, am_nar4_1, if_true, if_false, z1, rd_hK_sEI, rd_hFR_sEI, rd_hLN_sEI, rd_hFI_sEI, rd_hFJ_sEI, rd_hK_sEJ, rd_hFR_sEJ, rd_hLN_sEJ, rd_hFI_sEJ, rd_hAI_sEJ, rd_hK_sFI, rd_hFR_sFI, rd_hLN_sFI, rd_hAI_sFI, k3, k1, ka, k14, k17, kr2, kr4, kr5, kr6, kr7, kr8, kr9, kr10, kr11, kr12, kr13, kr18, kr21, kr22, kr24, nr2, nr4, nr5, nr6, nr7, nr8, nr9, nr10, nr11, nr12, nr13, nr18, nr21, nr22, nr24, f600, f601, f500, f506, f508, f509, f510, f511, f512, f513, f514, f515, f516, f517, f518, f519, f701, f704, f705, f707, m0, f1210, k350, n350, f1213, k353, n353, f1222, k362, n362, f1223, k363, n363, f1224, k364, n364, D, kc1, kc2, kc3, kc4, kc5]
    rcases st_number (d := d) (d2 := d2) (lo := 0) (hi := 999) (l := 0) (u := 999) rfl rfl (by decide) (by omega) c7 m7 with F | ⟨w, h8, g8, v8, u8, x8, y8, e605, e1246, q8, r8, c8, m8, b8⟩
    · exact Ln.no (fun _ => rfl) (fun _ => rfl) F
    rw [x8, y8, bI_s, bI_s]
    have S := S.ct ha3 ha30 q8 r8
    have D := S.2.2.1
    refine Ln.go (q8.cs a) r8.mz ?_
    obtain ⟨k3, k1, ka, k14, k17, kr2, kr4, kr5, kr6, kr7, kr8, kr9, kr10, kr11, kr12, kr13, kr18, kr21, kr22, kr24, nr2, nr4, nr5, nr6, nr7, nr8, nr9, nr10, nr11, nr12, nr13, nr18, nr21, nr22, nr24⟩ := c8.kl
    obtain ⟨f600, f601, f500, f506, f508, f509, f510, f511, f512, f513, f514, f515, f516, f517, f518, f519, f701, f704, f705, f707⟩ := c8.fr
    have hm := m8.1.1
    have m0 := hm.1
    have f1210 : hFR _ 1210 348 = some 350 := (hm.2 1 (by decide)).1
    have k350 : hK _ 350 = 50 := (hm.2 1 (by decide)).2.1
    have n350 : hLN _ 350 = 10 := (hm.2 1 (by decide)).2.2
    have f1213 : hFR _ 1213 348 = some 353 := (hm.2 4 (by decide)).1
    have k353 : hK _ 353 = 53 := (hm.2 4 (by decide)).2.1
    have n353 : hLN _ 353 = 8 := (hm.2 4 (by decide)).2.2
    have f1222 : hFR _ 1222 348 = some 362 := (hm.2 13 (by decide)).1
    have k362 : hK _ 362 = 50 := (hm.2 13 (by decide)).2.1
    have n362 : hLN _ 362 = 8 := (hm.2 13 (by decide)).2.2
    have f1223 : hFR _ 1223 348 = some 363 := (hm.2 14 (by decide)).1
    have k363 : hK _ 363 = 50 := (hm.2 14 (by decide)).2.1
    have n363 : hLN _ 363 = 8 := (hm.2 14 (by decide)).2.2
    have f1224 : hFR _ 1224 348 = some 364 := (hm.2 15 (by decide)).1
    have k364 : hK _ 364 = 50 := (hm.2 15 (by decide)).2.1
    have n364 : hLN _ 364 = 8 := (hm.2 15 (by decide)).2.2
    have S := S.ew (a + 22) ne (nI w) 364 (4 + ne) (nI w)
    have g350 : hAI (sEI g8 364 (4 + ne) (nI w)) 350 = hAI g 350 := by rw [S.2.2.2.2.2.1, am_up_ne (by decide), am_up_ne (by decide), am_up_ne (by decide)]
    simp only [am_kd, am_let_e, bR_s, am_nar4_0, am_nar4_1, if_true, if_false, z1, rd_hK_sEI, rd_hFR_sEI, rd_hLN_sEI, rd_hFI_sEI, rd_hFJ_sEI, rd_hK_sEJ, rd_hFR_sEJ, rd_hLN_sEJ, rd_hFI_sEJ, rd_hAI_sEJ, rd_hK_sFI, rd_hFR_sFI, rd_hLN_sFI, rd_hAI_sFI, k3, k1, ka, k14, k17, kr2, kr4, kr5, kr6, kr7, kr8, kr9, kr10, kr11, kr12, kr13, kr18, kr21, kr22, kr24, nr2, nr4, nr5, nr6, nr7, nr8, nr9, nr10, nr11, nr12, nr13, nr18, nr21, nr22, nr24, f600, f601, f500, f506, f508, f509, f510, f511, f512, f513, f514, f515, f516, f517, f518, f519, f701, f704, f705, f707, m0, f1210, k350, n350, f1213, k353, n353, f1222, k362, n362, f1223, k363, n363, f1224, k364, n364, ei, ti, em, tm, e605, e1246, ep, tp, D, kc4, g350, j4, nI_1]
    refine Ln.go (h1 := (sFI (sEI h8 (a + 22) ne (nI w)) 504 a (nI (ne + 1)))) (g1 := (sEI (sEJ (sEI g8 364 (4 + ne) (nI w)) 353 (4 + ne) (wrd n T (nxt n T b))) 350 8 (nI (ne + 1)))) ((CS.ei _ _ _ (by omega)).tr (CS.fi _ _ (by omega) ha3)) (((MZ.ei _ _ (by decide) (by have : hf 364 = 4 := rfl; omega)).tr (MZ.ej _ _ (by decide) (by have : hf 353 = 4 := rfl; omega))).tr (MZ.ei _ _ (by decide) (by decide))) ?_
    have cH : CX (sFI (sEI h8 (a + 22) ne (nI w)) 504 a (nI (ne + 1))) a n T _ := (c8.ei (r := a + 22) ne (nI w) (by omega)).fa 504 (nI (ne + 1)) (by omega)
    have mG : MX (sEI (sEJ (sEI g8 364 (4 + ne) (nI w)) 353 (4 + ne) (wrd n T (nxt n T b))) 350 8 (nI (ne + 1))) n T _ := ((m8.ei (r := 364) (4 + ne) (nI w) (by decide)).ej 353 (4 + ne) (wrd n T (nxt n T b))).ei (r := 350) 8 (nI (ne + 1)) (by decide)
    rcases st_close (d := d) (d2 := d2 + 1) cH mG with F | ⟨h9, g9, x9, y9, q9, r9, c9, m9, -⟩
    · exact Ln.no (fun _ => rfl) (fun _ => rfl) F
    rw [x9, y9, bI_s, bI_s, am_nar4_1, am_nar4_1]
    refine Or.inr ⟨h9, g9, _, np, ny, nc, ne + 1, nw, rfl, rfl, q9.cs a, r9.mz, c9, m9, ?_, ?_⟩
    · have le0 := nxt_le (T := T) c.le
      have le1 := nxt_le (T := T) c1.le
      have le2 := nxt_le (T := T) c2.le
      have le3 := nxt_le (T := T) c3.le
      have le4 := nxt_le (T := T) c4w.le
      have le5 := nxt_le (T := T) c5.le
      have le6 := nxt_le (T := T) c6w.le
      have le7 := nxt_le (T := T) c7.le
      have le8 := nxt_le (T := T) c8.le
      omega
    · exact (PR.person (h' := (sFI (sEI h8 (a + 22) ne (nI w)) 504 a (nI (ne + 1)))) (g' := (sEI (sEJ (sEI g8 364 (4 + ne) (nI w)) 353 (4 + ne) (wrd n T (nxt n T b))) 350 8 (nI (ne + 1)))) (nm := wrd n T (nxt n T b)) P hc v4 u6 u8 (by rw [rd_hAI_sFI, S.1, am_up_ne (by omega), am_up_ne (by omega), am_up_eq]) (by rw [rd_hAI_sFI, S.1, am_up_ne (by omega), am_up_eq, am_up_ne (by omega)]) (by rw [rd_hAI_sFI, S.1, am_up_eq, am_up_ne (by omega), am_up_ne (by omega)]) (fun k z0 z1 z2 z3 z4 => by rw [rd_hAI_sFI, S.1, am_up_ne (by omega), am_up_ne (by omega), am_up_ne (by omega)]) S.2.1 (sFI_at _ _ _ _) (fun k z0 z1 z2 => (sFI_o _ _ (Or.inl z2)).trans (D k)) ((sFI_o _ _ (by omega)).trans S.2.2.2.1) ((sFI_o _ _ (by omega)).trans S.2.2.2.2.1) (by rw [sEI_ne _ _ _ (by decide), rd_hAI_sEJ, S.2.2.2.2.2.1, am_up_ne (by decide), am_up_ne (by decide), am_up_eq]) (by rw [sEI_ne _ _ _ (by decide), rd_hAI_sEJ, S.2.2.2.2.2.1, am_up_ne (by decide), am_up_eq, am_up_ne (by decide)]) (by rw [sEI_ne _ _ _ (by decide), rd_hAI_sEJ, S.2.2.2.2.2.1, am_up_eq, am_up_ne (by decide), am_up_ne (by decide)]) (fun r z0 z1 z2 z3 z4 => by rw [sEI_ne _ _ _ (by omega), rd_hAI_sEJ, S.2.2.2.2.2.1, am_up_ne (by omega), am_up_ne (by omega), am_up_ne (by omega)]) (by rw [rd_hAJ_sEI, sEJ_at, S.2.2.2.2.2.2.1]) (fun r z0 z1 z2 => by rw [rd_hAJ_sEI, sEJ_ne _ _ _ z2, S.2.2.2.2.2.2.1]) (by rw [sEI_at, rd_hAI_sEJ, g350]) S.2.2.2.2.2.2.2).ct ha3 ha30 q9 r9
  · have hlt : (nI ne < (4 : Int32)) = False := eq_false (nI_nlt (b := 4) (by omega) (by omega))
    have hne : (nI (4 + ne) = (8 : Int32)) = True := eq_true ((nI_eq (b := 8) (by omega) (by decide)).2 (by omega))
    simp only [am_kd, am_let_e, bR_s, am_nar4_0, am_nar4_1, if_true, if_false, z1, rd_hK_sEI, rd_hFR_sEI, rd_hLN_sEI, rd_hFI_sEI, rd_hFJ_sEI, rd_hK_sEJ, rd_hFR_sEJ, rd_hLN_sEJ, rd_hFI_sEJ, rd_hAI_sEJ, rd_hK_sFI, rd_hFR_sFI, rd_hLN_sFI, rd_hAI_sFI, k3, k1, ka, k14, k17, kr2, kr4, kr5, kr6, kr7, kr8, kr9, kr10, kr11, kr12, kr13, kr18, kr21, kr22, kr24, nr2, nr4, nr5, nr6, nr7, nr8, nr9, nr10, nr11, nr12, nr13, nr18, nr21, nr22, nr24, f600, f601, f500, f506, f508, f509, f510, f511, f512, f513, f514, f515, f516, f517, f518, f519, f701, f704, f705, f707, m0, f1210, k350, n350, f1213, k353, n353, f1222, k362, n362, f1223, k363, n363, f1224, k364, n364, ep, tp, kc4, j4, xm, xc, hlt, hne]
    exact Ln.no (fun _ => rfl) (fun _ => rfl) (st_fail (d := d + 3) (d2 := d2 + 3) c m (k := 5) rfl (by decide) (by decide))
theorem ln_work {d d2 a n b np ny nc ne nw : Nat} {h g : AH} {T : Nat → Nat} (ha : a = 4 ∨ a = 30) (c : CX h a n T b) (m : MX g n T b) (P : PR h g a np ny nc ne nw) (hb : b < n) : Ln a n T b h g (am_C PG (d + 5) 92 [.ref 3] h) (am_C PG (d2 + 5) 193 [.ref 348] g) := by
  have ha3 : 3 < a := by omega
  have ha30 : a ≤ 30 := by omega
  have N := P.2.1
  obtain ⟨kc1, kc2, kc3, kc4, kc5, j1, j2, j3, j4, j5, l1, l2, l3, l4⟩ := P.1
  obtain ⟨k3, k1, ka, k14, k17, kr2, kr4, kr5, kr6, kr7, kr8, kr9, kr10, kr11, kr12, kr13, kr18, kr21, kr22, kr24, nr2, nr4, nr5, nr6, nr7, nr8, nr9, nr10, nr11, nr12, nr13, nr18, nr21, nr22, nr24⟩ := c.kl
  obtain ⟨f600, f601, f500, f506, f508, f509, f510, f511, f512, f513, f514, f515, f516, f517, f518, f519, f701, f704, f705, f707⟩ := c.fr
  have hm := m.1.1
  have m0 := hm.1
  have f1210 : hFR _ 1210 348 = some 350 := (hm.2 1 (by decide)).1
  have k350 : hK _ 350 = 50 := (hm.2 1 (by decide)).2.1
  have n350 : hLN _ 350 = 10 := (hm.2 1 (by decide)).2.2
  have f1214 : hFR _ 1214 348 = some 354 := (hm.2 5 (by decide)).1
  have k354 : hK _ 354 = 53 := (hm.2 5 (by decide)).2.1
  have n354 : hLN _ 354 = 12 := (hm.2 5 (by decide)).2.2
  have f1225 : hFR _ 1225 348 = some 365 := (hm.2 16 (by decide)).1
  have k365 : hK _ 365 = 50 := (hm.2 16 (by decide)).2.1
  have n365 : hLN _ 365 = 12 := (hm.2 16 (by decide)).2.2
  have f1226 : hFR _ 1226 348 = some 366 := (hm.2 17 (by decide)).1
  have k366 : hK _ 366 = 50 := (hm.2 17 (by decide)).2.1
  have n366 : hLN _ 366 = 12 := (hm.2 17 (by decide)).2.2
  have f1227 : hFR _ 1227 348 = some 367 := (hm.2 18 (by decide)).1
  have k367 : hK _ 367 = 50 := (hm.2 18 (by decide)).2.1
  have n367 : hLN _ 367 = 12 := (hm.2 18 (by decide)).2.2
  have f1228 : hFR _ 1228 348 = some 368 := (hm.2 19 (by decide)).1
  have k368 : hK _ 368 = 50 := (hm.2 19 (by decide)).2.1
  have n368 : hLN _ 368 = 12 := (hm.2 19 (by decide)).2.2
  have z1 : ((1 : Int32) = 0) = False := eq_false (by decide)
  have ti : Int32.toNatClampNeg (nI nw) = nw := nI_clamp (by omega)
  have tm : Int32.toNatClampNeg (nI (6 + nw)) = 6 + nw := nI_clamp (by omega)
  have xm : (6 : Int32) + nI nw = nI (6 + nw) := nI_add 6 nw
  have xc : (15 : Int32) + nI nw = nI (15 + nw) := nI_add 15 nw
  have ep : ∀ x, am_in (9 : Int32) 10 x = x := am_inN (i := 9) (by decide) (by decide)
  have tp : Int32.toNatClampNeg (9 : Int32) = 9 := by decide
  rw [q_X6_workLine, q_X12_readsWork]
  by_cases hc : nw < 6
  · have ei : ∀ x, am_in (nI nw) 6 x = x := am_inN hc (by decide)
    have em : ∀ x, am_in (nI (6 + nw)) 12 x = x := am_inN (by omega) (by decide)
    have hlt : (nI nw < (6 : Int32)) = True := eq_true (nI_lt (b := 6) hc (by decide))
    have hne : (nI (6 + nw) = (12 : Int32)) = False := eq_false (fun z => by have := (nI_eq (b := 12) (by omega) (by decide)).1 z; omega)
    simp only [am_kd, am_let_e, bR_s, am_nar4_0, am_nar4_1, if_true, if_false, z1, rd_hK_sEI, rd_hFR_sEI, rd_hLN_sEI, rd_hFI_sEI, rd_hFJ_sEI, rd_hK_sEJ, rd_hFR_sEJ, rd_hLN_sEJ, rd_hFI_sEJ, rd_hAI_sEJ, rd_hK_sFI, rd_hFR_sFI, rd_hLN_sFI, rd_hAI_sFI, k3, k1, ka, k14, k17, kr2, kr4, kr5, kr6, kr7, kr8, kr9, kr10, kr11, kr12, kr13, kr18, kr21, kr22, kr24, nr2, nr4, nr5, nr6, nr7, nr8, nr9, nr10, nr11, nr12, nr13, nr18, nr21, nr22, nr24, f600, f601, f500, f506, f508, f509, f510, f511, f512, f513, f514, f515, f516, f517, f518, f519, f701, f704, f705, f707, m0, f1210, k350, n350, f1214, k354, n354, f1225, k365, n365, f1226, k366, n366, f1227, k367, n367, f1228, k368, n368, ep, tp, kc5, j5, xm, xc, hlt, hne]
    obtain ⟨h1, g1, x1, y1, q1, r1, c1, m1⟩ := st_adv (d := d + 1) (d2 := d2 + 2) c m
    rw [x1, y1, bV_s, bV_s]
    refine Ln.go (q1.cs a) r1.mz ?_
    obtain ⟨k3, k1, ka, k14, k17, kr2, kr4, kr5, kr6, kr7, kr8, kr9, kr10, kr11, kr12, kr13, kr18, kr21, kr22, kr24, nr2, nr4, nr5, nr6, nr7, nr8, nr9, nr10, nr11, nr12, nr13, nr18, nr21, nr22, nr24⟩ := c1.kl
    obtain ⟨f600, f601, f500, f506, f508, f509, f510, f511, f512, f513, f514, f515, f516, f517, f518, f519, f701, f704, f705, f707⟩ := c1.fr
    have hm := m1.1.1
    have m0 := hm.1
    have f1210 : hFR _ 1210 348 = some 350 := (hm.2 1 (by decide)).1
    have k350 : hK _ 350 = 50 := (hm.2 1 (by decide)).2.1
    have n350 : hLN _ 350 = 10 := (hm.2 1 (by decide)).2.2
    have f1214 : hFR _ 1214 348 = some 354 := (hm.2 5 (by decide)).1
    have k354 : hK _ 354 = 53 := (hm.2 5 (by decide)).2.1
    have n354 : hLN _ 354 = 12 := (hm.2 5 (by decide)).2.2
    have f1225 : hFR _ 1225 348 = some 365 := (hm.2 16 (by decide)).1
    have k365 : hK _ 365 = 50 := (hm.2 16 (by decide)).2.1
    have n365 : hLN _ 365 = 12 := (hm.2 16 (by decide)).2.2
    have f1226 : hFR _ 1226 348 = some 366 := (hm.2 17 (by decide)).1
    have k366 : hK _ 366 = 50 := (hm.2 17 (by decide)).2.1
    have n366 : hLN _ 366 = 12 := (hm.2 17 (by decide)).2.2
    have f1227 : hFR _ 1227 348 = some 367 := (hm.2 18 (by decide)).1
    have k367 : hK _ 367 = 50 := (hm.2 18 (by decide)).2.1
    have n367 : hLN _ 367 = 12 := (hm.2 18 (by decide)).2.2
    have f1228 : hFR _ 1228 348 = some 368 := (hm.2 19 (by decide)).1
    have k368 : hK _ 368 = 50 := (hm.2 19 (by decide)).2.1
    have n368 : hLN _ 368 = 12 := (hm.2 19 (by decide)).2.2
    have P1 := P.ct ha3 ha30 q1 r1
    simp only [am_kd, am_let_e, bR_s, am_nar4_0, am_nar4_1, if_true, if_false, z1, rd_hK_sEI, rd_hFR_sEI, rd_hLN_sEI, rd_hFI_sEI, rd_hFJ_sEI, rd_hK_sEJ, rd_hFR_sEJ, rd_hLN_sEJ, rd_hFI_sEJ, rd_hAI_sEJ, rd_hK_sFI, rd_hFR_sFI, rd_hLN_sFI, rd_hAI_sFI, k3, k1, ka, k14, k17, kr2, kr4, kr5, kr6, kr7, kr8, kr9, kr10, kr11, kr12, kr13, kr18, kr21, kr22, kr24, nr2, nr4, nr5, nr6, nr7, nr8, nr9, nr10, nr11, nr12, nr13, nr18, nr21, nr22, nr24, f600, f601, f500, f506, f508, f509, f510, f511, f512, f513, f514, f515, f516, f517, f518, f519, f701, f704, f705, f707, m0, f1210, k350, n350, f1214, k354, n354, f1225, k365, n365, f1226, k366, n366, f1227, k367, n367, f1228, k368, n368]
    rcases st_new (d := d) (d2 := d2 + 1) (at' := 15 + nw) (av := nI (15 + nw)) (by omega) rfl P1.2.1 P1.1 c1 m1 with F | ⟨h2, g2, x2, y2, z2, s2, w0, q2, r2, c2, m2, -⟩
    · exact Ln.no (fun _ => rfl) (fun _ => rfl) F
    rw [x2, y2, bI_s, bI_s]
    simp only [am_kd, am_let_e, bR_s, am_nar4_0, am_nar4_1, if_true, if_false, z1, rd_hK_sEI, rd_hFR_sEI, rd_hLN_sEI, rd_hFI_sEI, rd_hFJ_sEI, rd_hK_sEJ, rd_hFR_sEJ, rd_hLN_sEJ, rd_hFI_sEJ, rd_hAI_sEJ, rd_hK_sFI, rd_hFR_sFI, rd_hLN_sFI, rd_hAI_sFI, k3, k1, ka, k14, k17, kr2, kr4, kr5, kr6, kr7, kr8, kr9, kr10, kr11, kr12, kr13, kr18, kr21, kr22, kr24, nr2, nr4, nr5, nr6, nr7, nr8, nr9, nr10, nr11, nr12, nr13, nr18, nr21, nr22, nr24, f600, f601, f500, f506, f508, f509, f510, f511, f512, f513, f514, f515, f516, f517, f518, f519, f701, f704, f705, f707, m0, f1210, k350, n350, f1214, k354, n354, f1225, k365, n365, f1226, k366, n366, f1227, k367, n367, f1228, k368, n368, z2, bV_s, s2]
    refine Ln.go ((CS.ej h1 (15 + nw) (wrd n T (nxt n T b))).tr (q2.cs a)) r2.mz ?_
    have S : WS h g h2 g2 a (hAI h) (hAI g) (vp_updL (hAJ h (a + 1)) (15 + nw) (wrd n T (nxt n T b))) := WS.new ha3 ha30 q1 r1 q2 r2
    obtain ⟨k3, k1, ka, k14, k17, kr2, kr4, kr5, kr6, kr7, kr8, kr9, kr10, kr11, kr12, kr13, kr18, kr21, kr22, kr24, nr2, nr4, nr5, nr6, nr7, nr8, nr9, nr10, nr11, nr12, nr13, nr18, nr21, nr22, nr24⟩ := c2.kl
    obtain ⟨f600, f601, f500, f506, f508, f509, f510, f511, f512, f513, f514, f515, f516, f517, f518, f519, f701, f704, f705, f707⟩ := c2.fr
    have hm := m2.1.1
    have m0 := hm.1
    have f1210 : hFR _ 1210 348 = some 350 := (hm.2 1 (by decide)).1
    have k350 : hK _ 350 = 50 := (hm.2 1 (by decide)).2.1
    have n350 : hLN _ 350 = 10 := (hm.2 1 (by decide)).2.2
    have f1214 : hFR _ 1214 348 = some 354 := (hm.2 5 (by decide)).1
    have k354 : hK _ 354 = 53 := (hm.2 5 (by decide)).2.1
    have n354 : hLN _ 354 = 12 := (hm.2 5 (by decide)).2.2
    have f1225 : hFR _ 1225 348 = some 365 := (hm.2 16 (by decide)).1
    have k365 : hK _ 365 = 50 := (hm.2 16 (by decide)).2.1
    have n365 : hLN _ 365 = 12 := (hm.2 16 (by decide)).2.2
    have f1226 : hFR _ 1226 348 = some 366 := (hm.2 17 (by decide)).1
    have k366 : hK _ 366 = 50 := (hm.2 17 (by decide)).2.1
    have n366 : hLN _ 366 = 12 := (hm.2 17 (by decide)).2.2
    have f1227 : hFR _ 1227 348 = some 367 := (hm.2 18 (by decide)).1
    have k367 : hK _ 367 = 50 := (hm.2 18 (by decide)).2.1
    have n367 : hLN _ 367 = 12 := (hm.2 18 (by decide)).2.2
    have f1228 : hFR _ 1228 348 = some 368 := (hm.2 19 (by decide)).1
    have k368 : hK _ 368 = 50 := (hm.2 19 (by decide)).2.1
    have n368 : hLN _ 368 = 12 := (hm.2 19 (by decide)).2.2
    rw [m_takes_e]
    have D := S.2.2.1
    simp only [am_kd, am_let_e, bR_s, am_nar4_0, am_nar4_1, if_true, if_false, z1, rd_hK_sEI, rd_hFR_sEI, rd_hLN_sEI, rd_hFI_sEI, rd_hFJ_sEI, rd_hK_sEJ, rd_hFR_sEJ, rd_hLN_sEJ, rd_hFI_sEJ, rd_hAI_sEJ, rd_hK_sFI, rd_hFR_sFI, rd_hLN_sFI, rd_hAI_sFI, k3, k1, ka, k14, k17, kr2, kr4, kr5, kr6, kr7, kr8, kr9, kr10, kr11, kr12, kr13, kr18, kr21, kr22, kr24, nr2, nr4, nr5, nr6, nr7, nr8, nr9, nr10, nr11, nr12, nr13, nr18, nr21, nr22, nr24, f600, f601, f500, f506, f508, f509, f510, f511, f512, f513, f514, f515, f516, f517, f518, f519, f701, f704, f705, f707, m0, f1210, k350, n350, f1214, k354, n354, f1225, k365, n365, f1226, k366, n366, f1227, k367, n367, f1228, k368, n368, D, kc1, kc2, kc3, kc4, kc5]
    rcases st_word (d := d) (d2 := d2) (w := 79) (r := 1000010) (k := 10) rfl rfl (by decide) c2 m2 with ⟨-, F⟩ | ⟨-, h3, g3, x3, y3, q3, r3, c3, m3, -⟩
    · exact Ln.no (fun _ => rfl) (fun _ => rfl) F
    rw [x3, y3, bI_s, bI_s]
    have S := S.ct ha3 ha30 q3 r3
    have D := S.2.2.1
    refine Ln.go (q3.cs a) r3.mz ?_
    obtain ⟨k3, k1, ka, k14, k17, kr2, kr4, kr5, kr6, kr7, kr8, kr9, kr10, kr11, kr12, kr13, kr18, kr21, kr22, kr24, nr2, nr4, nr5, nr6, nr7, nr8, nr9, nr10, nr11, nr12, nr13, nr18, nr21, nr22, nr24⟩ := c3.kl
    obtain ⟨f600, f601, f500, f506, f508, f509, f510, f511, f512, f513, f514, f515, f516, f517, f518, f519, f701, f704, f705, f707⟩ := c3.fr
    have hm := m3.1.1
    have m0 := hm.1
    have f1210 : hFR _ 1210 348 = some 350 := (hm.2 1 (by decide)).1
    have k350 : hK _ 350 = 50 := (hm.2 1 (by decide)).2.1
    have n350 : hLN _ 350 = 10 := (hm.2 1 (by decide)).2.2
    have f1214 : hFR _ 1214 348 = some 354 := (hm.2 5 (by decide)).1
    have k354 : hK _ 354 = 53 := (hm.2 5 (by decide)).2.1
    have n354 : hLN _ 354 = 12 := (hm.2 5 (by decide)).2.2
    have f1225 : hFR _ 1225 348 = some 365 := (hm.2 16 (by decide)).1
    have k365 : hK _ 365 = 50 := (hm.2 16 (by decide)).2.1
    have n365 : hLN _ 365 = 12 := (hm.2 16 (by decide)).2.2
    have f1226 : hFR _ 1226 348 = some 366 := (hm.2 17 (by decide)).1
    have k366 : hK _ 366 = 50 := (hm.2 17 (by decide)).2.1
    have n366 : hLN _ 366 = 12 := (hm.2 17 (by decide)).2.2
    have f1227 : hFR _ 1227 348 = some 367 := (hm.2 18 (by decide)).1
    have k367 : hK _ 367 = 50 := (hm.2 18 (by decide)).2.1
    have n367 : hLN _ 367 = 12 := (hm.2 18 (by decide)).2.2
    have f1228 : hFR _ 1228 348 = some 368 := (hm.2 19 (by decide)).1
    have k368 : hK _ 368 = 50 := (hm.2 19 (by decide)).2.1
    have n368 : hLN _ 368 = 12 := (hm.2 19 (by decide)).2.2
    simp only [am_kd, am_let_e, bR_s, am_nar4_0, am_nar4_1, if_true, if_false, z1, rd_hK_sEI, rd_hFR_sEI, rd_hLN_sEI, rd_hFI_sEI, rd_hFJ_sEI, rd_hK_sEJ, rd_hFR_sEJ, rd_hLN_sEJ, rd_hFI_sEJ, rd_hAI_sEJ, rd_hK_sFI, rd_hFR_sFI, rd_hLN_sFI, rd_hAI_sFI, k3, k1, ka, k14, k17, kr2, kr4, kr5, kr6, kr7, kr8, kr9, kr10, kr11, kr12, kr13, kr18, kr21, kr22, kr24, nr2, nr4, nr5, nr6, nr7, nr8, nr9, nr10, nr11, nr12, nr13, nr18, nr21, nr22, nr24, f600, f601, f500, f506, f508, f509, f510, f511, f512, f513, f514, f515, f516, f517, f518, f519, f701, f704, f705, f707, m0, f1210, k350, n350, f1214, k354, n354, f1225, k365, n365, f1226, k366, n366, f1227, k367, n367, f1228, k368, n368, D, kc1, kc2, kc3, kc4, kc5]
    rcases st_told2 (d := d) (d2 := d2) (r := 1) (rr := 1) (ff := 11) (mm := nI ne) rfl rfl rfl (by decide) (by rw [S.2.2.2.2.2.1]; exact j4) l3 (fun j hj => by rw [S.2.1, S.2.2.2.2.2.2.1, pk_uLn (by omega)]; exact N.1.2.2.1 j hj) c3 m3 with F | ⟨e, h4, gg4, g4, v4, x4, y4, z4, kg, -, e605, e1246, q4, r4, c4, m4, -⟩
    · exact Ln.no (fun _ => rfl) (fun _ => rfl) F
    rw [x4, y4, bI_s, bI_s]
    simp only [am_kd, am_let_e, bR_s, am_nar4_0, am_nar4_1, if_true, if_false, z1, rd_hK_sEI, rd_hFR_sEI, rd_hLN_sEI, rd_hFI_sEI, rd_hFJ_sEI, rd_hK_sEJ, rd_hFR_sEJ, rd_hLN_sEJ, rd_hFI_sEJ, rd_hAI_sEJ, rd_hK_sFI, rd_hFR_sFI, rd_hLN_sFI, rd_hAI_sFI, k3, k1, ka, k14, k17, kr2, kr4, kr5, kr6, kr7, kr8, kr9, kr10, kr11, kr12, kr13, kr18, kr21, kr22, kr24, nr2, nr4, nr5, nr6, nr7, nr8, nr9, nr10, nr11, nr12, nr13, nr18, nr21, nr22, nr24, f600, f601, f500, f506, f508, f509, f510, f511, f512, f513, f514, f515, f516, f517, f518, f519, f701, f704, f705, f707, m0, f1210, k350, n350, f1214, k354, n354, f1225, k365, n365, f1226, k366, n366, f1227, k367, n367, f1228, k368, n368, kg, z4, bV_s]
    have S := S.ct ha3 ha30 q4 r4
    have D := S.2.2.1
    refine Ln.go (q4.cs a) r4.mz ?_
    obtain ⟨k3, k1, ka, k14, k17, kr2, kr4, kr5, kr6, kr7, kr8, kr9, kr10, kr11, kr12, kr13, kr18, kr21, kr22, kr24, nr2, nr4, nr5, nr6, nr7, nr8, nr9, nr10, nr11, nr12, nr13, nr18, nr21, nr22, nr24⟩ := c4.kl
    obtain ⟨f600, f601, f500, f506, f508, f509, f510, f511, f512, f513, f514, f515, f516, f517, f518, f519, f701, f704, f705, f707⟩ := c4.fr
    have hm := m4.1.1
    have m0 := hm.1
    have f1210 : hFR _ 1210 348 = some 350 := (hm.2 1 (by decide)).1
    have k350 : hK _ 350 = 50 := (hm.2 1 (by decide)).2.1
    have n350 : hLN _ 350 = 10 := (hm.2 1 (by decide)).2.2
    have f1214 : hFR _ 1214 348 = some 354 := (hm.2 5 (by decide)).1
    have k354 : hK _ 354 = 53 := (hm.2 5 (by decide)).2.1
    have n354 : hLN _ 354 = 12 := (hm.2 5 (by decide)).2.2
    have f1225 : hFR _ 1225 348 = some 365 := (hm.2 16 (by decide)).1
    have k365 : hK _ 365 = 50 := (hm.2 16 (by decide)).2.1
    have n365 : hLN _ 365 = 12 := (hm.2 16 (by decide)).2.2
    have f1226 : hFR _ 1226 348 = some 366 := (hm.2 17 (by decide)).1
    have k366 : hK _ 366 = 50 := (hm.2 17 (by decide)).2.1
    have n366 : hLN _ 366 = 12 := (hm.2 17 (by decide)).2.2
    have f1227 : hFR _ 1227 348 = some 367 := (hm.2 18 (by decide)).1
    have k367 : hK _ 367 = 50 := (hm.2 18 (by decide)).2.1
    have n367 : hLN _ 367 = 12 := (hm.2 18 (by decide)).2.2
    have f1228 : hFR _ 1228 348 = some 368 := (hm.2 19 (by decide)).1
    have k368 : hK _ 368 = 50 := (hm.2 19 (by decide)).2.1
    have n368 : hLN _ 368 = 12 := (hm.2 19 (by decide)).2.2
    simp only [am_kd, am_let_e, bR_s, am_nar4_0, am_nar4_1, if_true, if_false, z1, rd_hK_sEI, rd_hFR_sEI, rd_hLN_sEI, rd_hFI_sEI, rd_hFJ_sEI, rd_hK_sEJ, rd_hFR_sEJ, rd_hLN_sEJ, rd_hFI_sEJ, rd_hAI_sEJ, rd_hK_sFI, rd_hFR_sFI, rd_hLN_sFI, rd_hAI_sFI, k3, k1, ka, k14, k17, kr2, kr4, kr5, kr6, kr7, kr8, kr9, kr10, kr11, kr12, kr13, kr18, kr21, kr22, kr24, nr2, nr4, nr5, nr6, nr7, nr8, nr9, nr10, nr11, nr12, nr13, nr18, nr21, nr22, nr24, f600, f601, f500, f506, f508, f509, f510, f511, f512, f513, f514, f515, f516, f517, f518, f519, f701, f704, f705, f707, m0, f1210, k350, n350, f1214, k354, n354, f1225, k365, n365, f1226, k366, n366, f1227, k367, n367, f1228, k368, n368, ei, ti, em, tm, e605, e1246]
    refine Ln.go (CS.ei h4 nw (nI e) (r := a + 9) (by omega)) (MZ.ei g4 (r := 365) (i := 6 + nw) (nI e) (by decide) (by have : hf 365 = 6 := rfl; omega)) ?_
    have S := S.ew (a + 9) nw (nI e) 365 (6 + nw) (nI e)
    have c4w := c4.ei (r := a + 9) nw (nI e) (by omega)
    have m4w := m4.ei (r := 365) (6 + nw) (nI e) (by decide)
    obtain ⟨k3, k1, ka, k14, k17, kr2, kr4, kr5, kr6, kr7, kr8, kr9, kr10, kr11, kr12, kr13, kr18, kr21, kr22, kr24, nr2, nr4, nr5, nr6, nr7, nr8, nr9, nr10, nr11, nr12, nr13, nr18, nr21, nr22, nr24⟩ := c4w.kl
    obtain ⟨f600, f601, f500, f506, f508, f509, f510, f511, f512, f513, f514, f515, f516, f517, f518, f519, f701, f704, f705, f707⟩ := c4w.fr
    have hm := m4w.1.1
    have m0 := hm.1
    have f1210 : hFR _ 1210 348 = some 350 := (hm.2 1 (by decide)).1
    have k350 : hK _ 350 = 50 := (hm.2 1 (by decide)).2.1
    have n350 : hLN _ 350 = 10 := (hm.2 1 (by decide)).2.2
    have f1214 : hFR _ 1214 348 = some 354 := (hm.2 5 (by decide)).1
    have k354 : hK _ 354 = 53 := (hm.2 5 (by decide)).2.1
    have n354 : hLN _ 354 = 12 := (hm.2 5 (by decide)).2.2
    have f1225 : hFR _ 1225 348 = some 365 := (hm.2 16 (by decide)).1
    have k365 : hK _ 365 = 50 := (hm.2 16 (by decide)).2.1
    have n365 : hLN _ 365 = 12 := (hm.2 16 (by decide)).2.2
    have f1226 : hFR _ 1226 348 = some 366 := (hm.2 17 (by decide)).1
    have k366 : hK _ 366 = 50 := (hm.2 17 (by decide)).2.1
    have n366 : hLN _ 366 = 12 := (hm.2 17 (by decide)).2.2
    have f1227 : hFR _ 1227 348 = some 367 := (hm.2 18 (by decide)).1
    have k367 : hK _ 367 = 50 := (hm.2 18 (by decide)).2.1
    have n367 : hLN _ 367 = 12 := (hm.2 18 (by decide)).2.2
    have f1228 : hFR _ 1228 348 = some 368 := (hm.2 19 (by decide)).1
    have k368 : hK _ 368 = 50 := (hm.2 19 (by decide)).2.1
    have n368 : hLN _ 368 = 12 := (hm.2 19 (by decide)).2.2
    rw [m_takes_e]
    have D := S.2.2.1
    simp only [am_kd, am_let_e, bR_s, am_nar4_0, am_nar4_1, if_true, if_false, z1, rd_hK_sEI, rd_hFR_sEI, rd_hLN_sEI, rd_hFI_sEI, rd_hFJ_sEI, rd_hK_sEJ, rd_hFR_sEJ, rd_hLN_sEJ, rd_hFI_sEJ, rd_hAI_sEJ, rd_hK_sFI, rd_hFR_sFI, rd_hLN_sFI, rd_hAI_sFI, k3, k1, ka, k14, k17, kr2, kr4, kr5, kr6, kr7, kr8, kr9, kr10, kr11, kr12, kr13, kr18, kr21, kr22, kr24, nr2, nr4, nr5, nr6, nr7, nr8, nr9, nr10, nr11, nr12, nr13, nr18, nr21, nr22, nr24, f600, f601, f500, f506, f508, f509, f510, f511, f512, f513, f514, f515, f516, f517, f518, f519, f701, f704, f705, f707, m0, f1210, k350, n350, f1214, k354, n354, f1225, k365, n365, f1226, k366, n366, f1227, k367, n367, f1228, k368, n368, D, kc1, kc2, kc3, kc4, kc5]
    rcases st_word (d := d) (d2 := d2) (w := 1841546) (r := 1000003) (k := 3) rfl rfl (by decide) c4w m4w with ⟨-, F⟩ | ⟨-, h5, g5, x5, y5, q5, r5, c5, m5, -⟩
    · exact Ln.no (fun _ => rfl) (fun _ => rfl) F
    rw [x5, y5, bI_s, bI_s]
    have S := S.ct ha3 ha30 q5 r5
    have D := S.2.2.1
    refine Ln.go (q5.cs a) r5.mz ?_
    obtain ⟨k3, k1, ka, k14, k17, kr2, kr4, kr5, kr6, kr7, kr8, kr9, kr10, kr11, kr12, kr13, kr18, kr21, kr22, kr24, nr2, nr4, nr5, nr6, nr7, nr8, nr9, nr10, nr11, nr12, nr13, nr18, nr21, nr22, nr24⟩ := c5.kl
    obtain ⟨f600, f601, f500, f506, f508, f509, f510, f511, f512, f513, f514, f515, f516, f517, f518, f519, f701, f704, f705, f707⟩ := c5.fr
    have hm := m5.1.1
    have m0 := hm.1
    have f1210 : hFR _ 1210 348 = some 350 := (hm.2 1 (by decide)).1
    have k350 : hK _ 350 = 50 := (hm.2 1 (by decide)).2.1
    have n350 : hLN _ 350 = 10 := (hm.2 1 (by decide)).2.2
    have f1214 : hFR _ 1214 348 = some 354 := (hm.2 5 (by decide)).1
    have k354 : hK _ 354 = 53 := (hm.2 5 (by decide)).2.1
    have n354 : hLN _ 354 = 12 := (hm.2 5 (by decide)).2.2
    have f1225 : hFR _ 1225 348 = some 365 := (hm.2 16 (by decide)).1
    have k365 : hK _ 365 = 50 := (hm.2 16 (by decide)).2.1
    have n365 : hLN _ 365 = 12 := (hm.2 16 (by decide)).2.2
    have f1226 : hFR _ 1226 348 = some 366 := (hm.2 17 (by decide)).1
    have k366 : hK _ 366 = 50 := (hm.2 17 (by decide)).2.1
    have n366 : hLN _ 366 = 12 := (hm.2 17 (by decide)).2.2
    have f1227 : hFR _ 1227 348 = some 367 := (hm.2 18 (by decide)).1
    have k367 : hK _ 367 = 50 := (hm.2 18 (by decide)).2.1
    have n367 : hLN _ 367 = 12 := (hm.2 18 (by decide)).2.2
    have f1228 : hFR _ 1228 348 = some 368 := (hm.2 19 (by decide)).1
    have k368 : hK _ 368 = 50 := (hm.2 19 (by decide)).2.1
    have n368 : hLN _ 368 = 12 := (hm.2 19 (by decide)).2.2
    simp only [am_kd, am_let_e, bR_s, am_nar4_0, am_nar4_1, if_true, if_false, z1, rd_hK_sEI, rd_hFR_sEI, rd_hLN_sEI, rd_hFI_sEI, rd_hFJ_sEI, rd_hK_sEJ, rd_hFR_sEJ, rd_hLN_sEJ, rd_hFI_sEJ, rd_hAI_sEJ, rd_hK_sFI, rd_hFR_sFI, rd_hLN_sFI, rd_hAI_sFI, k3, k1, ka, k14, k17, kr2, kr4, kr5, kr6, kr7, kr8, kr9, kr10, kr11, kr12, kr13, kr18, kr21, kr22, kr24, nr2, nr4, nr5, nr6, nr7, nr8, nr9, nr10, nr11, nr12, nr13, nr18, nr21, nr22, nr24, f600, f601, f500, f506, f508, f509, f510, f511, f512, f513, f514, f515, f516, f517, f518, f519, f701, f704, f705, f707, m0, f1210, k350, n350, f1214, k354, n354, f1225, k365, n365, f1226, k366, n366, f1227, k367, n367, f1228, k368, n368, D, kc1, kc2, kc3, kc4, kc5]
    rcases st_told1 (d := d) (d2 := d2) (r := 1) (rr := 1) (ff := 5) (mm := nI nc) rfl rfl rfl (by decide) (by rw [S.2.2.2.2.2.1, am_up_ne (by decide)]; exact j3) l2 (fun j hj => by rw [S.2.1, S.2.2.2.2.2.2.1, pk_uLn (by omega)]; exact N.1.2.1 j hj) c5 m5 with F | ⟨t, h6, gg6, g6, v6, x6, y6, z6, kg, -, e605, e1246, q6, r6, c6, m6, -⟩
    · exact Ln.no (fun _ => rfl) (fun _ => rfl) F
    rw [x6, y6, bI_s, bI_s]
    simp only [am_kd, am_let_e, bR_s, am_nar4_0, am_nar4_1, if_true, if_false, z1, rd_hK_sEI, rd_hFR_sEI, rd_hLN_sEI, rd_hFI_sEI, rd_hFJ_sEI, rd_hK_sEJ, rd_hFR_sEJ, rd_hLN_sEJ, rd_hFI_sEJ, rd_hAI_sEJ, rd_hK_sFI, rd_hFR_sFI, rd_hLN_sFI, rd_hAI_sFI, k3, k1, ka, k14, k17, kr2, kr4, kr5, kr6, kr7, kr8, kr9, kr10, kr11, kr12, kr13, kr18, kr21, kr22, kr24, nr2, nr4, nr5, nr6, nr7, nr8, nr9, nr10, nr11, nr12, nr13, nr18, nr21, nr22, nr24, f600, f601, f500, f506, f508, f509, f510, f511, f512, f513, f514, f515, f516, f517, f518, f519, f701, f704, f705, f707, m0, f1210, k350, n350, f1214, k354, n354, f1225, k365, n365, f1226, k366, n366, f1227, k367, n367, f1228, k368, n368, kg, z6, bV_s]
    have S := S.ct ha3 ha30 q6 r6
    have D := S.2.2.1
    refine Ln.go (q6.cs a) r6.mz ?_
    obtain ⟨k3, k1, ka, k14, k17, kr2, kr4, kr5, kr6, kr7, kr8, kr9, kr10, kr11, kr12, kr13, kr18, kr21, kr22, kr24, nr2, nr4, nr5, nr6, nr7, nr8, nr9, nr10, nr11, nr12, nr13, nr18, nr21, nr22, nr24⟩ := c6.kl
    obtain ⟨f600, f601, f500, f506, f508, f509, f510, f511, f512, f513, f514, f515, f516, f517, f518, f519, f701, f704, f705, f707⟩ := c6.fr
    have hm := m6.1.1
    have m0 := hm.1
    have f1210 : hFR _ 1210 348 = some 350 := (hm.2 1 (by decide)).1
    have k350 : hK _ 350 = 50 := (hm.2 1 (by decide)).2.1
    have n350 : hLN _ 350 = 10 := (hm.2 1 (by decide)).2.2
    have f1214 : hFR _ 1214 348 = some 354 := (hm.2 5 (by decide)).1
    have k354 : hK _ 354 = 53 := (hm.2 5 (by decide)).2.1
    have n354 : hLN _ 354 = 12 := (hm.2 5 (by decide)).2.2
    have f1225 : hFR _ 1225 348 = some 365 := (hm.2 16 (by decide)).1
    have k365 : hK _ 365 = 50 := (hm.2 16 (by decide)).2.1
    have n365 : hLN _ 365 = 12 := (hm.2 16 (by decide)).2.2
    have f1226 : hFR _ 1226 348 = some 366 := (hm.2 17 (by decide)).1
    have k366 : hK _ 366 = 50 := (hm.2 17 (by decide)).2.1
    have n366 : hLN _ 366 = 12 := (hm.2 17 (by decide)).2.2
    have f1227 : hFR _ 1227 348 = some 367 := (hm.2 18 (by decide)).1
    have k367 : hK _ 367 = 50 := (hm.2 18 (by decide)).2.1
    have n367 : hLN _ 367 = 12 := (hm.2 18 (by decide)).2.2
    have f1228 : hFR _ 1228 348 = some 368 := (hm.2 19 (by decide)).1
    have k368 : hK _ 368 = 50 := (hm.2 19 (by decide)).2.1
    have n368 : hLN _ 368 = 12 := (hm.2 19 (by decide)).2.2
    simp only [am_kd, am_let_e, bR_s, am_nar4_0, am_nar4_1, if_true, if_false, z1, rd_hK_sEI, rd_hFR_sEI, rd_hLN_sEI, rd_hFI_sEI, rd_hFJ_sEI, rd_hK_sEJ, rd_hFR_sEJ, rd_hLN_sEJ, rd_hFI_sEJ, rd_hAI_sEJ, rd_hK_sFI, rd_hFR_sFI, rd_hLN_sFI, rd_hAI_sFI, k3, k1, ka, k14, k17, kr2, kr4, kr5, kr6, kr7, kr8, kr9, kr10, kr11, kr12, kr13, kr18, kr21, kr22, kr24, nr2, nr4, nr5, nr6, nr7, nr8, nr9, nr10, nr11, nr12, nr13, nr18, nr21, nr22, nr24, f600, f601, f500, f506, f508, f509, f510, f511, f512, f513, f514, f515, f516, f517, f518, f519, f701, f704, f705, f707, m0, f1210, k350, n350, f1214, k354, n354, f1225, k365, n365, f1226, k366, n366, f1227, k367, n367, f1228, k368, n368, ei, ti, em, tm, e605, e1246]
    refine Ln.go (CS.ei h6 nw (nI t) (r := a + 10) (by omega)) (MZ.ei g6 (r := 366) (i := 6 + nw) (nI t) (by decide) (by have : hf 366 = 6 := rfl; omega)) ?_
    have S := S.ew (a + 10) nw (nI t) 366 (6 + nw) (nI t)
    have c6w := c6.ei (r := a + 10) nw (nI t) (by omega)
    have m6w := m6.ei (r := 366) (6 + nw) (nI t) (by decide)
    obtain ⟨k3, k1, ka, k14, k17, kr2, kr4, kr5, kr6, kr7, kr8, kr9, kr10, kr11, kr12, kr13, kr18, kr21, kr22, kr24, nr2, nr4, nr5, nr6, nr7, nr8, nr9, nr10, nr11, nr12, nr13, nr18, nr21, nr22, nr24⟩ := c6w.kl
    obtain ⟨f600, f601, f500, f506, f508, f509, f510, f511, f512, f513, f514, f515, f516, f517, f518, f519, f701, f704, f705, f707⟩ := c6w.fr
    have hm := m6w.1.1
    have m0 := hm.1
    have f1210 : hFR _ 1210 348 = some 350 := (hm.2 1 (by decide)).1
    have k350 : hK _ 350 = 50 := (hm.2 1 (by decide)).2.1
    have n350 : hLN _ 350 = 10 := (hm.2 1 (by decide)).2.2
    have f1214 : hFR _ 1214 348 = some 354 := (hm.2 5 (by decide)).1
    have k354 : hK _ 354 = 53 := (hm.2 5 (by decide)).2.1
    have n354 : hLN _ 354 = 12 := (hm.2 5 (by decide)).2.2
    have f1225 : hFR _ 1225 348 = some 365 := (hm.2 16 (by decide)).1
    have k365 : hK _ 365 = 50 := (hm.2 16 (by decide)).2.1
    have n365 : hLN _ 365 = 12 := (hm.2 16 (by decide)).2.2
    have f1226 : hFR _ 1226 348 = some 366 := (hm.2 17 (by decide)).1
    have k366 : hK _ 366 = 50 := (hm.2 17 (by decide)).2.1
    have n366 : hLN _ 366 = 12 := (hm.2 17 (by decide)).2.2
    have f1227 : hFR _ 1227 348 = some 367 := (hm.2 18 (by decide)).1
    have k367 : hK _ 367 = 50 := (hm.2 18 (by decide)).2.1
    have n367 : hLN _ 367 = 12 := (hm.2 18 (by decide)).2.2
    have f1228 : hFR _ 1228 348 = some 368 := (hm.2 19 (by decide)).1
    have k368 : hK _ 368 = 50 := (hm.2 19 (by decide)).2.1
    have n368 : hLN _ 368 = 12 := (hm.2 19 (by decide)).2.2
    rw [m_both_e]
    have D := S.2.2.1
    simp only [am_kd, am_let_e, bR_s, am_nar4_0, am_nar4_1, if_true, if_false, z1, rd_hK_sEI, rd_hFR_sEI, rd_hLN_sEI, rd_hFI_sEI, rd_hFJ_sEI, rd_hK_sEJ, rd_hFR_sEJ, rd_hLN_sEJ, rd_hFI_sEJ, rd_hAI_sEJ, rd_hK_sFI, rd_hFR_sFI, rd_hLN_sFI, rd_hAI_sFI, k3, k1, ka, k14, k17, kr2, kr4, kr5, kr6, kr7, kr8, kr9, kr10, kr11, kr12, kr13, kr18, kr21, kr22, kr24, nr2, nr4, nr5, nr6, nr7, nr8, nr9, nr10, nr11, nr12, nr13, nr18, nr21, nr22, nr24, f600, f601, f500, f506, f508, f509, f510, f511, f512, f513, f514, f515, f516, f517, f518, f519, f701, f704, f705, f707, m0, f1210, k350, n350, f1214, k354, n354, f1225, k365, n365, f1226, k366, n366, f1227, k367, n367, f1228, k368, n368, D, kc1, kc2, kc3, kc4, kc5]
    rcases st_word (d := d) (d2 := d2) (w := 168984) (r := 1000011) (k := 11) rfl rfl (by decide) c6w m6w with ⟨-, F⟩ | ⟨-, h7, g7, x7, y7, q7, r7, c7, m7, -⟩
    · exact Ln.no (fun _ => rfl) (fun _ => rfl) F
    rw [x7, y7, bI_s, bI_s]
    have S := S.ct ha3 ha30 q7 r7
    have D := S.2.2.1
    refine Ln.go (q7.cs a) r7.mz ?_
    obtain ⟨k3, k1, ka, k14, k17, kr2, kr4, kr5, kr6, kr7, kr8, kr9, kr10, kr11, kr12, kr13, kr18, kr21, kr22, kr24, nr2, nr4, nr5, nr6, nr7, nr8, nr9, nr10, nr11, nr12, nr13, nr18, nr21, nr22, nr24⟩ := c7.kl
    obtain ⟨f600, f601, f500, f506, f508, f509, f510, f511, f512, f513, f514, f515, f516, f517, f518, f519, f701, f704, f705, f707⟩ := c7.fr
    have hm := m7.1.1
    have m0 := hm.1
    have f1210 : hFR _ 1210 348 = some 350 := (hm.2 1 (by decide)).1
    have k350 : hK _ 350 = 50 := (hm.2 1 (by decide)).2.1
    have n350 : hLN _ 350 = 10 := (hm.2 1 (by decide)).2.2
    have f1214 : hFR _ 1214 348 = some 354 := (hm.2 5 (by decide)).1
    have k354 : hK _ 354 = 53 := (hm.2 5 (by decide)).2.1
    have n354 : hLN _ 354 = 12 := (hm.2 5 (by decide)).2.2
    have f1225 : hFR _ 1225 348 = some 365 := (hm.2 16 (by decide)).1
    have k365 : hK _ 365 = 50 := (hm.2 16 (by decide)).2.1
    have n365 : hLN _ 365 = 12 := (hm.2 16 (by decide)).2.2
    have f1226 : hFR _ 1226 348 = some 366 := (hm.2 17 (by decide)).1
    have k366 : hK _ 366 = 50 := (hm.2 17 (by decide)).2.1
    have n366 : hLN _ 366 = 12 := (hm.2 17 (by decide)).2.2
    have f1227 : hFR _ 1227 348 = some 367 := (hm.2 18 (by decide)).1
    have k367 : hK _ 367 = 50 := (hm.2 18 (by decide)).2.1
    have n367 : hLN _ 367 = 12 := (hm.2 18 (by decide)).2.2
    have f1228 : hFR _ 1228 348 = some 368 := (hm.2 19 (by decide)).1
    have k368 : hK _ 368 = 50 := (hm.2 19 (by decide)).2.1
    have n368 : hLN _ 368 = 12 := (hm.2 19 (by decide)).2.2
    simp only [am_kd, am_let_e, bR_s, am_nar4_0, am_nar4_1, if_true, if_false, z1, rd_hK_sEI, rd_hFR_sEI, rd_hLN_sEI, rd_hFI_sEI, rd_hFJ_sEI, rd_hK_sEJ, rd_hFR_sEJ, rd_hLN_sEJ, rd_hFI_sEJ, rd_hAI_sEJ, rd_hK_sFI, rd_hFR_sFI, rd_hLN_sFI, rd_hAI_sFI, k3, k1, ka, k14, k17, kr2, kr4, kr5, kr6, kr7, kr8, kr9, kr10, kr11, kr12, kr13, kr18, kr21, kr22, kr24, nr2, nr4, nr5, nr6, nr7, nr8, nr9, nr10, nr11, nr12, nr13, nr18, nr21, nr22, nr24, f600, f601, f500, f506, f508, f509, f510, f511, f512, f513, f514, f515, f516, f517, f518, f519, f701, f704, f705, f707, m0, f1210, k350, n350, f1214, k354, n354, f1225, k365, n365, f1226, k366, n366, f1227, k367, n367, f1228, k368, n368, D, kc1, kc2, kc3, kc4, kc5]
    rcases st_number (d := d) (d2 := d2) (lo := 1) (hi := 99) (l := 1) (u := 99) rfl rfl (by decide) (by omega) c7 m7 with F | ⟨u, h8, g8, v8, u8, x8, y8, e605, e1246, q8, r8, c8, m8, b8⟩
    · exact Ln.no (fun _ => rfl) (fun _ => rfl) F
    rw [x8, y8, bI_s, bI_s]
    have S := S.ct ha3 ha30 q8 r8
    have D := S.2.2.1
    refine Ln.go (q8.cs a) r8.mz ?_
    obtain ⟨k3, k1, ka, k14, k17, kr2, kr4, kr5, kr6, kr7, kr8, kr9, kr10, kr11, kr12, kr13, kr18, kr21, kr22, kr24, nr2, nr4, nr5, nr6, nr7, nr8, nr9, nr10, nr11, nr12, nr13, nr18, nr21, nr22, nr24⟩ := c8.kl
    obtain ⟨f600, f601, f500, f506, f508, f509, f510, f511, f512, f513, f514, f515, f516, f517, f518, f519, f701, f704, f705, f707⟩ := c8.fr
    have hm := m8.1.1
    have m0 := hm.1
    have f1210 : hFR _ 1210 348 = some 350 := (hm.2 1 (by decide)).1
    have k350 : hK _ 350 = 50 := (hm.2 1 (by decide)).2.1
    have n350 : hLN _ 350 = 10 := (hm.2 1 (by decide)).2.2
    have f1214 : hFR _ 1214 348 = some 354 := (hm.2 5 (by decide)).1
    have k354 : hK _ 354 = 53 := (hm.2 5 (by decide)).2.1
    have n354 : hLN _ 354 = 12 := (hm.2 5 (by decide)).2.2
    have f1225 : hFR _ 1225 348 = some 365 := (hm.2 16 (by decide)).1
    have k365 : hK _ 365 = 50 := (hm.2 16 (by decide)).2.1
    have n365 : hLN _ 365 = 12 := (hm.2 16 (by decide)).2.2
    have f1226 : hFR _ 1226 348 = some 366 := (hm.2 17 (by decide)).1
    have k366 : hK _ 366 = 50 := (hm.2 17 (by decide)).2.1
    have n366 : hLN _ 366 = 12 := (hm.2 17 (by decide)).2.2
    have f1227 : hFR _ 1227 348 = some 367 := (hm.2 18 (by decide)).1
    have k367 : hK _ 367 = 50 := (hm.2 18 (by decide)).2.1
    have n367 : hLN _ 367 = 12 := (hm.2 18 (by decide)).2.2
    have f1228 : hFR _ 1228 348 = some 368 := (hm.2 19 (by decide)).1
    have k368 : hK _ 368 = 50 := (hm.2 19 (by decide)).2.1
    have n368 : hLN _ 368 = 12 := (hm.2 19 (by decide)).2.2
    simp only [am_kd, am_let_e, bR_s, am_nar4_0, am_nar4_1, if_true, if_false, z1, rd_hK_sEI, rd_hFR_sEI, rd_hLN_sEI, rd_hFI_sEI, rd_hFJ_sEI, rd_hK_sEJ, rd_hFR_sEJ, rd_hLN_sEJ, rd_hFI_sEJ, rd_hAI_sEJ, rd_hK_sFI, rd_hFR_sFI, rd_hLN_sFI, rd_hAI_sFI, k3, k1, ka, k14, k17, kr2, kr4, kr5, kr6, kr7, kr8, kr9, kr10, kr11, kr12, kr13, kr18, kr21, kr22, kr24, nr2, nr4, nr5, nr6, nr7, nr8, nr9, nr10, nr11, nr12, nr13, nr18, nr21, nr22, nr24, f600, f601, f500, f506, f508, f509, f510, f511, f512, f513, f514, f515, f516, f517, f518, f519, f701, f704, f705, f707, m0, f1210, k350, n350, f1214, k354, n354, f1225, k365, n365, f1226, k366, n366, f1227, k367, n367, f1228, k368, n368, ei, ti, em, tm, e605, e1246]
    refine Ln.go (CS.ei h8 nw (nI u) (r := a + 11) (by omega)) (MZ.ei g8 (r := 367) (i := 6 + nw) (nI u) (by decide) (by have : hf 367 = 6 := rfl; omega)) ?_
    have S := S.ew (a + 11) nw (nI u) 367 (6 + nw) (nI u)
    have c8w := c8.ei (r := a + 11) nw (nI u) (by omega)
    have m8w := m8.ei (r := 367) (6 + nw) (nI u) (by decide)
    obtain ⟨k3, k1, ka, k14, k17, kr2, kr4, kr5, kr6, kr7, kr8, kr9, kr10, kr11, kr12, kr13, kr18, kr21, kr22, kr24, nr2, nr4, nr5, nr6, nr7, nr8, nr9, nr10, nr11, nr12, nr13, nr18, nr21, nr22, nr24⟩ := c8w.kl
    obtain ⟨f600, f601, f500, f506, f508, f509, f510, f511, f512, f513, f514, f515, f516, f517, f518, f519, f701, f704, f705, f707⟩ := c8w.fr
    have hm := m8w.1.1
    have m0 := hm.1
    have f1210 : hFR _ 1210 348 = some 350 := (hm.2 1 (by decide)).1
    have k350 : hK _ 350 = 50 := (hm.2 1 (by decide)).2.1
    have n350 : hLN _ 350 = 10 := (hm.2 1 (by decide)).2.2
    have f1214 : hFR _ 1214 348 = some 354 := (hm.2 5 (by decide)).1
    have k354 : hK _ 354 = 53 := (hm.2 5 (by decide)).2.1
    have n354 : hLN _ 354 = 12 := (hm.2 5 (by decide)).2.2
    have f1225 : hFR _ 1225 348 = some 365 := (hm.2 16 (by decide)).1
    have k365 : hK _ 365 = 50 := (hm.2 16 (by decide)).2.1
    have n365 : hLN _ 365 = 12 := (hm.2 16 (by decide)).2.2
    have f1226 : hFR _ 1226 348 = some 366 := (hm.2 17 (by decide)).1
    have k366 : hK _ 366 = 50 := (hm.2 17 (by decide)).2.1
    have n366 : hLN _ 366 = 12 := (hm.2 17 (by decide)).2.2
    have f1227 : hFR _ 1227 348 = some 367 := (hm.2 18 (by decide)).1
    have k367 : hK _ 367 = 50 := (hm.2 18 (by decide)).2.1
    have n367 : hLN _ 367 = 12 := (hm.2 18 (by decide)).2.2
    have f1228 : hFR _ 1228 348 = some 368 := (hm.2 19 (by decide)).1
    have k368 : hK _ 368 = 50 := (hm.2 19 (by decide)).2.1
    have n368 : hLN _ 368 = 12 := (hm.2 19 (by decide)).2.2
    rw [m_both_e]
    have D := S.2.2.1
    simp only [am_kd, am_let_e, bR_s, am_nar4_0, am_nar4_1, if_true, if_false, z1, rd_hK_sEI, rd_hFR_sEI, rd_hLN_sEI, rd_hFI_sEI, rd_hFJ_sEI, rd_hK_sEJ, rd_hFR_sEJ, rd_hLN_sEJ, rd_hFI_sEJ, rd_hAI_sEJ, rd_hK_sFI, rd_hFR_sFI, rd_hLN_sFI, rd_hAI_sFI, k3, k1, ka, k14, k17, kr2, kr4, kr5, kr6, kr7, kr8, kr9, kr10, kr11, kr12, kr13, kr18, kr21, kr22, kr24, nr2, nr4, nr5, nr6, nr7, nr8, nr9, nr10, nr11, nr12, nr13, nr18, nr21, nr22, nr24, f600, f601, f500, f506, f508, f509, f510, f511, f512, f513, f514, f515, f516, f517, f518, f519, f701, f704, f705, f707, m0, f1210, k350, n350, f1214, k354, n354, f1225, k365, n365, f1226, k366, n366, f1227, k367, n367, f1228, k368, n368, D, kc1, kc2, kc3, kc4, kc5]
    rcases st_word (d := d) (d2 := d2) (w := 316351) (r := 1000012) (k := 12) rfl rfl (by decide) c8w m8w with ⟨-, F⟩ | ⟨-, h9, g9, x9, y9, q9, r9, c9, m9, -⟩
    · exact Ln.no (fun _ => rfl) (fun _ => rfl) F
    rw [x9, y9, bI_s, bI_s]
    have S := S.ct ha3 ha30 q9 r9
    have D := S.2.2.1
    refine Ln.go (q9.cs a) r9.mz ?_
    obtain ⟨k3, k1, ka, k14, k17, kr2, kr4, kr5, kr6, kr7, kr8, kr9, kr10, kr11, kr12, kr13, kr18, kr21, kr22, kr24, nr2, nr4, nr5, nr6, nr7, nr8, nr9, nr10, nr11, nr12, nr13, nr18, nr21, nr22, nr24⟩ := c9.kl
    obtain ⟨f600, f601, f500, f506, f508, f509, f510, f511, f512, f513, f514, f515, f516, f517, f518, f519, f701, f704, f705, f707⟩ := c9.fr
    have hm := m9.1.1
    have m0 := hm.1
    have f1210 : hFR _ 1210 348 = some 350 := (hm.2 1 (by decide)).1
    have k350 : hK _ 350 = 50 := (hm.2 1 (by decide)).2.1
    have n350 : hLN _ 350 = 10 := (hm.2 1 (by decide)).2.2
    have f1214 : hFR _ 1214 348 = some 354 := (hm.2 5 (by decide)).1
    have k354 : hK _ 354 = 53 := (hm.2 5 (by decide)).2.1
    have n354 : hLN _ 354 = 12 := (hm.2 5 (by decide)).2.2
    have f1225 : hFR _ 1225 348 = some 365 := (hm.2 16 (by decide)).1
    have k365 : hK _ 365 = 50 := (hm.2 16 (by decide)).2.1
    have n365 : hLN _ 365 = 12 := (hm.2 16 (by decide)).2.2
    have f1226 : hFR _ 1226 348 = some 366 := (hm.2 17 (by decide)).1
    have k366 : hK _ 366 = 50 := (hm.2 17 (by decide)).2.1
    have n366 : hLN _ 366 = 12 := (hm.2 17 (by decide)).2.2
    have f1227 : hFR _ 1227 348 = some 367 := (hm.2 18 (by decide)).1
    have k367 : hK _ 367 = 50 := (hm.2 18 (by decide)).2.1
    have n367 : hLN _ 367 = 12 := (hm.2 18 (by decide)).2.2
    have f1228 : hFR _ 1228 348 = some 368 := (hm.2 19 (by decide)).1
    have k368 : hK _ 368 = 50 := (hm.2 19 (by decide)).2.1
    have n368 : hLN _ 368 = 12 := (hm.2 19 (by decide)).2.2
    simp only [am_kd, am_let_e, bR_s, am_nar4_0, am_nar4_1, if_true, if_false, z1, rd_hK_sEI, rd_hFR_sEI, rd_hLN_sEI, rd_hFI_sEI, rd_hFJ_sEI, rd_hK_sEJ, rd_hFR_sEJ, rd_hLN_sEJ, rd_hFI_sEJ, rd_hAI_sEJ, rd_hK_sFI, rd_hFR_sFI, rd_hLN_sFI, rd_hAI_sFI, k3, k1, ka, k14, k17, kr2, kr4, kr5, kr6, kr7, kr8, kr9, kr10, kr11, kr12, kr13, kr18, kr21, kr22, kr24, nr2, nr4, nr5, nr6, nr7, nr8, nr9, nr10, nr11, nr12, nr13, nr18, nr21, nr22, nr24, f600, f601, f500, f506, f508, f509, f510, f511, f512, f513, f514, f515, f516, f517, f518, f519, f701, f704, f705, f707, m0, f1210, k350, n350, f1214, k354, n354, f1225, k365, n365, f1226, k366, n366, f1227, k367, n367, f1228, k368, n368, D, kc1, kc2, kc3, kc4, kc5]
    rcases st_number (d := d) (d2 := d2) (lo := 0) (hi := 99) (l := 0) (u := 99) rfl rfl (by decide) (by omega) c9 m9 with F | ⟨y, h10, g10, v10, u10, x10, y10, e605, e1246, q10, r10, c10, m10, b10⟩
    · exact Ln.no (fun _ => rfl) (fun _ => rfl) F
    rw [x10, y10, bI_s, bI_s]
    have S := S.ct ha3 ha30 q10 r10
    have D := S.2.2.1
    refine Ln.go (q10.cs a) r10.mz ?_
    obtain ⟨k3, k1, ka, k14, k17, kr2, kr4, kr5, kr6, kr7, kr8, kr9, kr10, kr11, kr12, kr13, kr18, kr21, kr22, kr24, nr2, nr4, nr5, nr6, nr7, nr8, nr9, nr10, nr11, nr12, nr13, nr18, nr21, nr22, nr24⟩ := c10.kl
    obtain ⟨f600, f601, f500, f506, f508, f509, f510, f511, f512, f513, f514, f515, f516, f517, f518, f519, f701, f704, f705, f707⟩ := c10.fr
    have hm := m10.1.1
    have m0 := hm.1
    have f1210 : hFR _ 1210 348 = some 350 := (hm.2 1 (by decide)).1
    have k350 : hK _ 350 = 50 := (hm.2 1 (by decide)).2.1
    have n350 : hLN _ 350 = 10 := (hm.2 1 (by decide)).2.2
    have f1214 : hFR _ 1214 348 = some 354 := (hm.2 5 (by decide)).1
    have k354 : hK _ 354 = 53 := (hm.2 5 (by decide)).2.1
    have n354 : hLN _ 354 = 12 := (hm.2 5 (by decide)).2.2
    have f1225 : hFR _ 1225 348 = some 365 := (hm.2 16 (by decide)).1
    have k365 : hK _ 365 = 50 := (hm.2 16 (by decide)).2.1
    have n365 : hLN _ 365 = 12 := (hm.2 16 (by decide)).2.2
    have f1226 : hFR _ 1226 348 = some 366 := (hm.2 17 (by decide)).1
    have k366 : hK _ 366 = 50 := (hm.2 17 (by decide)).2.1
    have n366 : hLN _ 366 = 12 := (hm.2 17 (by decide)).2.2
    have f1227 : hFR _ 1227 348 = some 367 := (hm.2 18 (by decide)).1
    have k367 : hK _ 367 = 50 := (hm.2 18 (by decide)).2.1
    have n367 : hLN _ 367 = 12 := (hm.2 18 (by decide)).2.2
    have f1228 : hFR _ 1228 348 = some 368 := (hm.2 19 (by decide)).1
    have k368 : hK _ 368 = 50 := (hm.2 19 (by decide)).2.1
    have n368 : hLN _ 368 = 12 := (hm.2 19 (by decide)).2.2
    have S := S.ew (a + 12) nw (nI y) 368 (6 + nw) (nI y)
    have g350 : hAI (sEI g10 368 (6 + nw) (nI y)) 350 = hAI g 350 := by rw [S.2.2.2.2.2.1, am_up_ne (by decide), am_up_ne (by decide), am_up_ne (by decide), am_up_ne (by decide)]
    simp only [am_kd, am_let_e, bR_s, am_nar4_0, am_nar4_1, if_true, if_false, z1, rd_hK_sEI, rd_hFR_sEI, rd_hLN_sEI, rd_hFI_sEI, rd_hFJ_sEI, rd_hK_sEJ, rd_hFR_sEJ, rd_hLN_sEJ, rd_hFI_sEJ, rd_hAI_sEJ, rd_hK_sFI, rd_hFR_sFI, rd_hLN_sFI, rd_hAI_sFI, k3, k1, ka, k14, k17, kr2, kr4, kr5, kr6, kr7, kr8, kr9, kr10, kr11, kr12, kr13, kr18, kr21, kr22, kr24, nr2, nr4, nr5, nr6, nr7, nr8, nr9, nr10, nr11, nr12, nr13, nr18, nr21, nr22, nr24, f600, f601, f500, f506, f508, f509, f510, f511, f512, f513, f514, f515, f516, f517, f518, f519, f701, f704, f705, f707, m0, f1210, k350, n350, f1214, k354, n354, f1225, k365, n365, f1226, k366, n366, f1227, k367, n367, f1228, k368, n368, ei, ti, em, tm, e605, e1246, ep, tp, D, kc5, g350, j5, nI_1]
    refine Ln.go (h1 := (sFI (sEI h10 (a + 12) nw (nI y)) 505 a (nI (nw + 1)))) (g1 := (sEI (sEJ (sEI g10 368 (6 + nw) (nI y)) 354 (6 + nw) (wrd n T (nxt n T b))) 350 9 (nI (nw + 1)))) ((CS.ei _ _ _ (by omega)).tr (CS.fi _ _ (by omega) ha3)) (((MZ.ei _ _ (by decide) (by have : hf 368 = 6 := rfl; omega)).tr (MZ.ej _ _ (by decide) (by have : hf 354 = 6 := rfl; omega))).tr (MZ.ei _ _ (by decide) (by decide))) ?_
    have cH : CX (sFI (sEI h10 (a + 12) nw (nI y)) 505 a (nI (nw + 1))) a n T _ := (c10.ei (r := a + 12) nw (nI y) (by omega)).fa 505 (nI (nw + 1)) (by omega)
    have mG : MX (sEI (sEJ (sEI g10 368 (6 + nw) (nI y)) 354 (6 + nw) (wrd n T (nxt n T b))) 350 9 (nI (nw + 1))) n T _ := ((m10.ei (r := 368) (6 + nw) (nI y) (by decide)).ej 354 (6 + nw) (wrd n T (nxt n T b))).ei (r := 350) 9 (nI (nw + 1)) (by decide)
    rcases st_close (d := d) (d2 := d2 + 1) cH mG with F | ⟨h11, g11, x11, y11, q11, r11, c11, m11, -⟩
    · exact Ln.no (fun _ => rfl) (fun _ => rfl) F
    rw [x11, y11, bI_s, bI_s, am_nar4_1, am_nar4_1]
    refine Or.inr ⟨h11, g11, _, np, ny, nc, ne, nw + 1, rfl, rfl, q11.cs a, r11.mz, c11, m11, ?_, ?_⟩
    · have le0 := nxt_le (T := T) c.le
      have le1 := nxt_le (T := T) c1.le
      have le2 := nxt_le (T := T) c2.le
      have le3 := nxt_le (T := T) c3.le
      have le4 := nxt_le (T := T) c4w.le
      have le5 := nxt_le (T := T) c5.le
      have le6 := nxt_le (T := T) c6w.le
      have le7 := nxt_le (T := T) c7.le
      have le8 := nxt_le (T := T) c8w.le
      have le9 := nxt_le (T := T) c9.le
      have le10 := nxt_le (T := T) c10.le
      omega
    · exact (PR.work (h' := (sFI (sEI h10 (a + 12) nw (nI y)) 505 a (nI (nw + 1)))) (g' := (sEI (sEJ (sEI g10 368 (6 + nw) (nI y)) 354 (6 + nw) (wrd n T (nxt n T b))) 350 9 (nI (nw + 1)))) (nm := wrd n T (nxt n T b)) P hc v4 v6 ⟨v8, u8⟩ u10 (by rw [rd_hAI_sFI, S.1, am_up_ne (by omega), am_up_ne (by omega), am_up_ne (by omega), am_up_eq]) (by rw [rd_hAI_sFI, S.1, am_up_ne (by omega), am_up_ne (by omega), am_up_eq, am_up_ne (by omega)]) (by rw [rd_hAI_sFI, S.1, am_up_ne (by omega), am_up_eq, am_up_ne (by omega), am_up_ne (by omega)]) (by rw [rd_hAI_sFI, S.1, am_up_eq, am_up_ne (by omega), am_up_ne (by omega), am_up_ne (by omega)]) (fun k z0 z1 z2 z3 z4 z5 => by rw [rd_hAI_sFI, S.1, am_up_ne (by omega), am_up_ne (by omega), am_up_ne (by omega), am_up_ne (by omega)]) S.2.1 (sFI_at _ _ _ _) (fun k z0 z1 z2 => (sFI_o _ _ (Or.inl z2)).trans (D k)) ((sFI_o _ _ (by omega)).trans S.2.2.2.1) ((sFI_o _ _ (by omega)).trans S.2.2.2.2.1) (by rw [sEI_ne _ _ _ (by decide), rd_hAI_sEJ, S.2.2.2.2.2.1, am_up_ne (by decide), am_up_ne (by decide), am_up_ne (by decide), am_up_eq]) (by rw [sEI_ne _ _ _ (by decide), rd_hAI_sEJ, S.2.2.2.2.2.1, am_up_ne (by decide), am_up_ne (by decide), am_up_eq, am_up_ne (by decide)]) (by rw [sEI_ne _ _ _ (by decide), rd_hAI_sEJ, S.2.2.2.2.2.1, am_up_ne (by decide), am_up_eq, am_up_ne (by decide), am_up_ne (by decide)]) (by rw [sEI_ne _ _ _ (by decide), rd_hAI_sEJ, S.2.2.2.2.2.1, am_up_eq, am_up_ne (by decide), am_up_ne (by decide), am_up_ne (by decide)]) (fun r z0 z1 z2 z3 z4 z5 => by rw [sEI_ne _ _ _ (by omega), rd_hAI_sEJ, S.2.2.2.2.2.1, am_up_ne (by omega), am_up_ne (by omega), am_up_ne (by omega), am_up_ne (by omega)]) (by rw [rd_hAJ_sEI, sEJ_at, S.2.2.2.2.2.2.1]) (fun r z0 z1 z2 => by rw [rd_hAJ_sEI, sEJ_ne _ _ _ z2, S.2.2.2.2.2.2.1]) (by rw [sEI_at, rd_hAI_sEJ, g350]) S.2.2.2.2.2.2.2).ct ha3 ha30 q11 r11
  · have hlt : (nI nw < (6 : Int32)) = False := eq_false (nI_nlt (b := 6) (by omega) (by omega))
    have hne : (nI (6 + nw) = (12 : Int32)) = True := eq_true ((nI_eq (b := 12) (by omega) (by decide)).2 (by omega))
    simp only [am_kd, am_let_e, bR_s, am_nar4_0, am_nar4_1, if_true, if_false, z1, rd_hK_sEI, rd_hFR_sEI, rd_hLN_sEI, rd_hFI_sEI, rd_hFJ_sEI, rd_hK_sEJ, rd_hFR_sEJ, rd_hLN_sEJ, rd_hFI_sEJ, rd_hAI_sEJ, rd_hK_sFI, rd_hFR_sFI, rd_hLN_sFI, rd_hAI_sFI, k3, k1, ka, k14, k17, kr2, kr4, kr5, kr6, kr7, kr8, kr9, kr10, kr11, kr12, kr13, kr18, kr21, kr22, kr24, nr2, nr4, nr5, nr6, nr7, nr8, nr9, nr10, nr11, nr12, nr13, nr18, nr21, nr22, nr24, f600, f601, f500, f506, f508, f509, f510, f511, f512, f513, f514, f515, f516, f517, f518, f519, f701, f704, f705, f707, m0, f1210, k350, n350, f1214, k354, n354, f1225, k365, n365, f1226, k366, n366, f1227, k367, n367, f1228, k368, n368, ep, tp, kc5, j5, xm, xc, hlt, hne]
    exact Ln.no (fun _ => rfl) (fun _ => rfl) (st_fail (d := d + 3) (d2 := d2 + 3) c m (k := 5) rfl (by decide) (by decide))
