/-! The reader: the line heat. -/
def filH (f : Nat → Int32) (j t : Nat) (v : Int32) : Nat → Int32 := fun q => if j ≤ q ∧ q ≤ t then v else f q
theorem filH_0 (f : Nat → Int32) {j t : Nat} (v : Int32) (h : t < j) : filH f j t v = f := by
  funext q
  unfold filH
  rw [if_neg (by omega)]
theorem filH_s (f : Nat → Int32) {j t : Nat} (v : Int32) (h : j ≤ t) : filH (upd f j v) (j + 1) t v = filH f j t v := by
  funext q
  unfold filH
  by_cases c : q = j
  · subst c
    rw [if_neg (by omega), if_pos (by omega), pk_us]
  · by_cases c2 : j + 1 ≤ q ∧ q ≤ t
    · rw [if_pos c2, if_pos (by omega)]
    · rw [if_neg c2, if_neg (by omega), pk_un c]
theorem r_heat0 {d a t : Nat} {v : Int32} (ht : t < 24) : ∀ k j, j + k = t + 1 → ∀ h : AH, hK h 3 = 7 → hFR h 601 3 = some a → hK h a = 6 → hFR h 517 a = some (a + 13) → hK h (a + 13) = 50 → hLN h (a + 13) = 24 → hFI h 605 3 = v →
    am_R PG (d + 1) 93 65 [some (.ref 3), none, some (.int (nI t)), some (.int (nI j))] [] h = am_R PG (d + 1) 93 65 [some (.ref 3), none, some (.int (nI t)), some (.int (nI (t + 1)))] [] (sAI h (a + 13) (filH (hAI h (a + 13)) j t v))
  | 0, j, hj, h, _, _, _, _, _, _, _ => by
    rw [filH_0 _ _ (by omega), sAI_self, show j = t + 1 by omega]
  | k + 1, j, hj, h, k3, f6, ka, f5, kr, nr, e6 => by
    have ih := r_heat0 (d := d) (a := a) (v := v) ht k (j + 1) (by omega) (sEI h (a + 13) j v) k3 f6 ka f5 kr nr e6
    have e5 : (nI t < nI j) = False := eq_false (nI_nlt (by omega) (by omega))
    have ei : ∀ x, am_in (nI j) 24 x = x := am_inN (by omega) (by decide)
    have ti : Int32.toNatClampNeg (nI j) = j := nI_clamp (by omega)
    rw [sEI_at, filH_s _ _ (by omega), sEI_e, sAI_sAI] at ih
    rw [q_X6_heatLine_65]
    simp only [am_kd, k3, f6, ka, f5, kr, nr, e6, e5, if_true, if_false, bR_s, ei, ti, am_let_e, nI_1, sEI_e]
    exact ih
theorem m_heat0 {d t : Nat} {v : Int32} (ht : t < 24) : ∀ k j, j + k = t + 1 → ∀ g : AH, MSh g → hFI g 1246 348 = v →
    am_R PG (d + 1) 194 55 [some (.ref 348), none, some (.int (nI t)), some (.int (nI j))] [] g = am_R PG (d + 1) 194 55 [some (.ref 348), none, some (.int (nI t)), some (.int (nI (t + 1)))] [] (sAI g 369 (filH (hAI g 369) (24 + j) (24 + t) v))
  | 0, j, hj, g, _, _ => by
    rw [filH_0 _ _ (by omega), sAI_self, show j = t + 1 by omega]
  | k + 1, j, hj, g, hm, e6 => by
    have ih := m_heat0 (d := d) (v := v) ht k (j + 1) (by omega) (sEI g 369 (24 + j) v) (hm.to rfl (fun _ => rfl) rfl) e6
    have e5 : (nI t < nI j) = False := eq_false (nI_nlt (by omega) (by omega))
    have xm : (24 : Int32) + nI j = nI (24 + j) := nI_add 24 j
    have ei : ∀ x, am_in (nI (24 + j)) 48 x = x := am_inN (by omega) (by decide)
    have ti : Int32.toNatClampNeg (nI (24 + j)) = 24 + j := nI_clamp (by omega)
    have m0 := hm.1
    have f1229 : hFR _ 1229 348 = some 369 := (hm.2 20 (by decide)).1
    have k369 : hK _ 369 = 50 := (hm.2 20 (by decide)).2.1
    have n369 : hLN _ 369 = 48 := (hm.2 20 (by decide)).2.2
    rw [sEI_at, show 24 + (j + 1) = (24 + j) + 1 by omega, filH_s _ _ (by omega), sEI_e, sAI_sAI] at ih
    rw [q_X12_readsHeat_55]
    simp only [am_kd, m0, f1229, k369, n369, e6, e5, if_true, if_false, bR_s, xm, ei, ti, am_let_e, nI_1, sEI_e]
    exact ih
theorem PR.heat {h g h' g' : AH} {a np ny nc ne nw j t v : Nat} (P : PR h g a np ny nc ne nw) (hv : v ≤ 9) (e0 : hAI h' (a + 13) = filH (hAI h (a + 13)) j t (nI v)) (eo : ∀ k, 2 ≤ k → k ≤ 24 → k ≠ 13 → hAI h' (a + k) = hAI h (a + k)) (en : hAJ h' (a + 1) = hAJ h (a + 1)) (eC : ∀ k, hFI h' k a = hFI h k a) (eT : hFI h' 604 3 = hFI h 604 3) (eL : hFI h' 401 (a + 14) = hFI h 401 (a + 14))
    (f0 : hAI g' 369 = filH (hAI g 369) (24 + j) (24 + t) (nI v)) (fo : ∀ r, 350 ≤ r → r ≤ 372 → r ≠ 369 → hAI g' r = hAI g r) (fN : ∀ r, 351 ≤ r → r ≤ 354 → hAJ g' r = hAJ g r) (fL : hFI g' 1233 348 = hFI g 1233 348) : PR h' g' a np ny nc ne nw := by
  obtain ⟨s1, s2, s3, s4, s5, s6, s7, s8, s9⟩ := P
  refine ⟨s1.fr (fun k _ _ => eC k) (fo 350 (by decide) (by decide) (by decide)), s2.fr en fN, ?_, ?_, ?_, ?_, ?_, ?_, ?_⟩
  · exact fun q hq => (s3 q hq).fr (by rw [eo 24 (by decide) (by decide) (by decide)]) (by rw [fo 355 (by decide) (by decide) (by decide)])
  · exact fun q hq => (s4 q hq).fr (fun k hk => by rw [eo k (by omega) (by omega) (by omega)]) (fun r h1 h2 => by rw [fo r (by omega) (by omega) (by omega)])
  · exact fun q hq => (s5 q hq).fr (fun k hk => by rw [eo k (by omega) (by omega) (by omega)]) (fun r h1 h2 => by rw [fo r (by omega) (by omega) (by omega)])
  · exact fun q hq => (s6 q hq).fr (fun k h1 h2 => by rw [eo k (by omega) (by omega) (by omega)]) (fun r h1 h2 => by rw [fo r (by omega) (by omega) (by omega)])
  · exact s7.fr (by rw [eo 2 (by decide) (by decide) (by decide)]) (by rw [fo 356 (by decide) (by decide) (by decide)])
  · intro q hq
    rw [e0, f0]
    unfold filH
    by_cases c : j ≤ q ∧ q ≤ t
    · exact ⟨v, hv, by rw [if_pos c], by rw [if_pos (by omega)]⟩
    · rw [if_neg c, if_neg (by omega)]
      exact s8 q hq
  · exact s9.fr eT eL (by rw [eo 15 (by decide) (by decide) (by decide)]) (fun r h1 h2 => by rw [fo r (by omega) (by omega) (by omega)]) fL
theorem ln_heat {d d2 a n b np ny nc ne nw : Nat} {h g : AH} {T : Nat → Nat} (ha : a = 4 ∨ a = 30) (c : CX h a n T b) (m : MX g n T b) (P : PR h g a np ny nc ne nw) (hb : b < n) : Ln a n T b h g (am_C PG (d + 5) 93 [.ref 3] h) (am_C PG (d2 + 5) 194 [.ref 348] g) := by
  have ha3 : 3 < a := by omega
  have ha30 : a ≤ 30 := by omega
  obtain ⟨k3, k1, ka, k14, k17, kr2, kr4, kr5, kr6, kr7, kr8, kr9, kr10, kr11, kr12, kr13, kr18, kr21, kr22, kr24, nr2, nr4, nr5, nr6, nr7, nr8, nr9, nr10, nr11, nr12, nr13, nr18, nr21, nr22, nr24⟩ := c.kl
  obtain ⟨f600, f601, f500, f506, f508, f509, f510, f511, f512, f513, f514, f515, f516, f517, f518, f519, f701, f704, f705, f707⟩ := c.fr
  have hm := m.1.1
  have m0 := hm.1
  have f1229 : hFR _ 1229 348 = some 369 := (hm.2 20 (by decide)).1
  have k369 : hK _ 369 = 50 := (hm.2 20 (by decide)).2.1
  have n369 : hLN _ 369 = 48 := (hm.2 20 (by decide)).2.2
  have z1 : ((1 : Int32) = 0) = False := eq_false (by decide)
  rw [q_X6_heatLine, q_X12_readsHeat]
  simp only [am_kd, am_let_e, bR_s, am_nar4_0, am_nar4_1, if_true, if_false, z1, rd_hK_sEI, rd_hFR_sEI, rd_hLN_sEI, rd_hFI_sEI, rd_hFJ_sEI, rd_hK_sEJ, rd_hFR_sEJ, rd_hLN_sEJ, rd_hFI_sEJ, rd_hAI_sEJ, rd_hK_sFI, rd_hFR_sFI, rd_hLN_sFI, rd_hAI_sFI, k3, k1, ka, k14, k17, kr2, kr4, kr5, kr6, kr7, kr8, kr9, kr10, kr11, kr12, kr13, kr18, kr21, kr22, kr24, nr2, nr4, nr5, nr6, nr7, nr8, nr9, nr10, nr11, nr12, nr13, nr18, nr21, nr22, nr24, f600, f601, f500, f506, f508, f509, f510, f511, f512, f513, f514, f515, f516, f517, f518, f519, f701, f704, f705, f707, m0, f1229, k369, n369]
  obtain ⟨h1, g1, x1, y1, q1, r1, c1, m1⟩ := st_adv (d := d + 1) (d2 := d2 + 2) c m
  rw [x1, y1, bV_s, bV_s]
  refine Ln.go (q1.cs a) r1.mz ?_
  have P1 := P.ct ha3 ha30 q1 r1
  obtain ⟨k3, k1, ka, k14, k17, kr2, kr4, kr5, kr6, kr7, kr8, kr9, kr10, kr11, kr12, kr13, kr18, kr21, kr22, kr24, nr2, nr4, nr5, nr6, nr7, nr8, nr9, nr10, nr11, nr12, nr13, nr18, nr21, nr22, nr24⟩ := c1.kl
  obtain ⟨f600, f601, f500, f506, f508, f509, f510, f511, f512, f513, f514, f515, f516, f517, f518, f519, f701, f704, f705, f707⟩ := c1.fr
  have hm := m1.1.1
  have m0 := hm.1
  have f1229 : hFR _ 1229 348 = some 369 := (hm.2 20 (by decide)).1
  have k369 : hK _ 369 = 50 := (hm.2 20 (by decide)).2.1
  have n369 : hLN _ 369 = 48 := (hm.2 20 (by decide)).2.2
  simp only [am_kd, am_let_e, bR_s, am_nar4_0, am_nar4_1, if_true, if_false, z1, rd_hK_sEI, rd_hFR_sEI, rd_hLN_sEI, rd_hFI_sEI, rd_hFJ_sEI, rd_hK_sEJ, rd_hFR_sEJ, rd_hLN_sEJ, rd_hFI_sEJ, rd_hAI_sEJ, rd_hK_sFI, rd_hFR_sFI, rd_hLN_sFI, rd_hAI_sFI, k3, k1, ka, k14, k17, kr2, kr4, kr5, kr6, kr7, kr8, kr9, kr10, kr11, kr12, kr13, kr18, kr21, kr22, kr24, nr2, nr4, nr5, nr6, nr7, nr8, nr9, nr10, nr11, nr12, nr13, nr18, nr21, nr22, nr24, f600, f601, f500, f506, f508, f509, f510, f511, f512, f513, f514, f515, f516, f517, f518, f519, f701, f704, f705, f707, m0, f1229, k369, n369]
  rcases st_number (d := d) (d2 := d2 + 1) (lo := 0) (hi := 23) (l := 0) (u := 23) rfl rfl (by decide) (by decide) c1 m1 with F | ⟨s, h2, g2, v2, u2, x2, y2, e2, i2, q2, r2, c2, m2, b2⟩
  · exact Ln.no (fun _ => rfl) (fun _ => rfl) F
  rw [x2, y2, bI_s, bI_s]
  refine Ln.go (q2.cs a) r2.mz ?_
  have P2 := P1.ct ha3 ha30 q2 r2
  obtain ⟨k3, k1, ka, k14, k17, kr2, kr4, kr5, kr6, kr7, kr8, kr9, kr10, kr11, kr12, kr13, kr18, kr21, kr22, kr24, nr2, nr4, nr5, nr6, nr7, nr8, nr9, nr10, nr11, nr12, nr13, nr18, nr21, nr22, nr24⟩ := c2.kl
  obtain ⟨f600, f601, f500, f506, f508, f509, f510, f511, f512, f513, f514, f515, f516, f517, f518, f519, f701, f704, f705, f707⟩ := c2.fr
  have hm := m2.1.1
  have m0 := hm.1
  have f1229 : hFR _ 1229 348 = some 369 := (hm.2 20 (by decide)).1
  have k369 : hK _ 369 = 50 := (hm.2 20 (by decide)).2.1
  have n369 : hLN _ 369 = 48 := (hm.2 20 (by decide)).2.2
  simp only [am_kd, am_let_e, bR_s, am_nar4_0, am_nar4_1, if_true, if_false, z1, rd_hK_sEI, rd_hFR_sEI, rd_hLN_sEI, rd_hFI_sEI, rd_hFJ_sEI, rd_hK_sEJ, rd_hFR_sEJ, rd_hLN_sEJ, rd_hFI_sEJ, rd_hAI_sEJ, rd_hK_sFI, rd_hFR_sFI, rd_hLN_sFI, rd_hAI_sFI, k3, k1, ka, k14, k17, kr2, kr4, kr5, kr6, kr7, kr8, kr9, kr10, kr11, kr12, kr13, kr18, kr21, kr22, kr24, nr2, nr4, nr5, nr6, nr7, nr8, nr9, nr10, nr11, nr12, nr13, nr18, nr21, nr22, nr24, f600, f601, f500, f506, f508, f509, f510, f511, f512, f513, f514, f515, f516, f517, f518, f519, f701, f704, f705, f707, m0, f1229, k369, n369, e2, i2]
  rw [m_both_e]
  simp only [am_kd, am_let_e, bR_s, am_nar4_0, am_nar4_1, if_true, if_false, z1, rd_hK_sEI, rd_hFR_sEI, rd_hLN_sEI, rd_hFI_sEI, rd_hFJ_sEI, rd_hK_sEJ, rd_hFR_sEJ, rd_hLN_sEJ, rd_hFI_sEJ, rd_hAI_sEJ, rd_hK_sFI, rd_hFR_sFI, rd_hLN_sFI, rd_hAI_sFI, k3, k1, ka, k14, k17, kr2, kr4, kr5, kr6, kr7, kr8, kr9, kr10, kr11, kr12, kr13, kr18, kr21, kr22, kr24, nr2, nr4, nr5, nr6, nr7, nr8, nr9, nr10, nr11, nr12, nr13, nr18, nr21, nr22, nr24, f600, f601, f500, f506, f508, f509, f510, f511, f512, f513, f514, f515, f516, f517, f518, f519, f701, f704, f705, f707, m0, f1229, k369, n369]
  rcases st_word (d := d) (d2 := d2) (w := 555) (r := 1000014) (k := 14) rfl rfl (by decide) c2 m2 with ⟨-, F⟩ | ⟨-, h3, g3, x3, y3, q3, r3, c3, m3, -⟩
  · exact Ln.no (fun _ => rfl) (fun _ => rfl) F
  rw [x3, y3, bI_s, bI_s]
  refine Ln.go (q3.cs a) r3.mz ?_
  have P3 := P2.ct ha3 ha30 q3 r3
  obtain ⟨k3, k1, ka, k14, k17, kr2, kr4, kr5, kr6, kr7, kr8, kr9, kr10, kr11, kr12, kr13, kr18, kr21, kr22, kr24, nr2, nr4, nr5, nr6, nr7, nr8, nr9, nr10, nr11, nr12, nr13, nr18, nr21, nr22, nr24⟩ := c3.kl
  obtain ⟨f600, f601, f500, f506, f508, f509, f510, f511, f512, f513, f514, f515, f516, f517, f518, f519, f701, f704, f705, f707⟩ := c3.fr
  have hm := m3.1.1
  have m0 := hm.1
  have f1229 : hFR _ 1229 348 = some 369 := (hm.2 20 (by decide)).1
  have k369 : hK _ 369 = 50 := (hm.2 20 (by decide)).2.1
  have n369 : hLN _ 369 = 48 := (hm.2 20 (by decide)).2.2
  simp only [am_kd, am_let_e, bR_s, am_nar4_0, am_nar4_1, if_true, if_false, z1, rd_hK_sEI, rd_hFR_sEI, rd_hLN_sEI, rd_hFI_sEI, rd_hFJ_sEI, rd_hK_sEJ, rd_hFR_sEJ, rd_hLN_sEJ, rd_hFI_sEJ, rd_hAI_sEJ, rd_hK_sFI, rd_hFR_sFI, rd_hLN_sFI, rd_hAI_sFI, k3, k1, ka, k14, k17, kr2, kr4, kr5, kr6, kr7, kr8, kr9, kr10, kr11, kr12, kr13, kr18, kr21, kr22, kr24, nr2, nr4, nr5, nr6, nr7, nr8, nr9, nr10, nr11, nr12, nr13, nr18, nr21, nr22, nr24, f600, f601, f500, f506, f508, f509, f510, f511, f512, f513, f514, f515, f516, f517, f518, f519, f701, f704, f705, f707, m0, f1229, k369, n369]
  rcases st_number (d := d) (d2 := d2) (lo := s) (hi := 23) (l := nI s) (u := 23) rfl rfl (by omega) (by decide) c3 m3 with F | ⟨t, h4, g4, v4, u4, x4, y4, e4, i4, q4, r4, c4, m4, b4⟩
  · exact Ln.no (fun _ => rfl) (fun _ => rfl) F
  rw [x4, y4, bI_s, bI_s]
  refine Ln.go (q4.cs a) r4.mz ?_
  have P4 := P3.ct ha3 ha30 q4 r4
  obtain ⟨k3, k1, ka, k14, k17, kr2, kr4, kr5, kr6, kr7, kr8, kr9, kr10, kr11, kr12, kr13, kr18, kr21, kr22, kr24, nr2, nr4, nr5, nr6, nr7, nr8, nr9, nr10, nr11, nr12, nr13, nr18, nr21, nr22, nr24⟩ := c4.kl
  obtain ⟨f600, f601, f500, f506, f508, f509, f510, f511, f512, f513, f514, f515, f516, f517, f518, f519, f701, f704, f705, f707⟩ := c4.fr
  have hm := m4.1.1
  have m0 := hm.1
  have f1229 : hFR _ 1229 348 = some 369 := (hm.2 20 (by decide)).1
  have k369 : hK _ 369 = 50 := (hm.2 20 (by decide)).2.1
  have n369 : hLN _ 369 = 48 := (hm.2 20 (by decide)).2.2
  simp only [am_kd, am_let_e, bR_s, am_nar4_0, am_nar4_1, if_true, if_false, z1, rd_hK_sEI, rd_hFR_sEI, rd_hLN_sEI, rd_hFI_sEI, rd_hFJ_sEI, rd_hK_sEJ, rd_hFR_sEJ, rd_hLN_sEJ, rd_hFI_sEJ, rd_hAI_sEJ, rd_hK_sFI, rd_hFR_sFI, rd_hLN_sFI, rd_hAI_sFI, k3, k1, ka, k14, k17, kr2, kr4, kr5, kr6, kr7, kr8, kr9, kr10, kr11, kr12, kr13, kr18, kr21, kr22, kr24, nr2, nr4, nr5, nr6, nr7, nr8, nr9, nr10, nr11, nr12, nr13, nr18, nr21, nr22, nr24, f600, f601, f500, f506, f508, f509, f510, f511, f512, f513, f514, f515, f516, f517, f518, f519, f701, f704, f705, f707, m0, f1229, k369, n369, e4, i4]
  rcases st_number (d := d) (d2 := d2 + 1) (lo := 0) (hi := 9) (l := 0) (u := 9) rfl rfl (by decide) (by decide) c4 m4 with F | ⟨v, h5, g5, v5, u5, x5, y5, e5, i5, q5, r5, c5, m5, b5⟩
  · exact Ln.no (fun _ => rfl) (fun _ => rfl) F
  rw [x5, y5, bI_s, bI_s]
  refine Ln.go (q5.cs a) r5.mz ?_
  have P5 := P4.ct ha3 ha30 q5 r5
  obtain ⟨k3, k1, ka, k14, k17, kr2, kr4, kr5, kr6, kr7, kr8, kr9, kr10, kr11, kr12, kr13, kr18, kr21, kr22, kr24, nr2, nr4, nr5, nr6, nr7, nr8, nr9, nr10, nr11, nr12, nr13, nr18, nr21, nr22, nr24⟩ := c5.kl
  obtain ⟨f600, f601, f500, f506, f508, f509, f510, f511, f512, f513, f514, f515, f516, f517, f518, f519, f701, f704, f705, f707⟩ := c5.fr
  have hm := m5.1.1
  have m0 := hm.1
  have f1229 : hFR _ 1229 348 = some 369 := (hm.2 20 (by decide)).1
  have k369 : hK _ 369 = 50 := (hm.2 20 (by decide)).2.1
  have n369 : hLN _ 369 = 48 := (hm.2 20 (by decide)).2.2
  simp only [am_kd, am_let_e, bR_s, am_nar4_0, am_nar4_1, if_true, if_false, z1, rd_hK_sEI, rd_hFR_sEI, rd_hLN_sEI, rd_hFI_sEI, rd_hFJ_sEI, rd_hK_sEJ, rd_hFR_sEJ, rd_hLN_sEJ, rd_hFI_sEJ, rd_hAI_sEJ, rd_hK_sFI, rd_hFR_sFI, rd_hLN_sFI, rd_hAI_sFI, k3, k1, ka, k14, k17, kr2, kr4, kr5, kr6, kr7, kr8, kr9, kr10, kr11, kr12, kr13, kr18, kr21, kr22, kr24, nr2, nr4, nr5, nr6, nr7, nr8, nr9, nr10, nr11, nr12, nr13, nr18, nr21, nr22, nr24, f600, f601, f500, f506, f508, f509, f510, f511, f512, f513, f514, f515, f516, f517, f518, f519, f701, f704, f705, f707, m0, f1229, k369, n369]
  rw [r_heat0 (v := nI v) (by omega) (t + 1 - s) s (by omega) h5 k3 f601 ka f517 kr13 nr13 e5, m_heat0 (v := nI v) (by omega) (t + 1 - s) s (by omega) g5 hm i5]
  have cH : CX (sAI h5 (a + 13) (filH (hAI h5 (a + 13)) s t (nI v))) a n T _ := CX.to (h := h5) rfl rfl rfl rfl (sAI_ne _ _ (by omega)) (fun _ _ _ => rfl) rfl c5
  have mG : MX (sAI g5 369 (filH (hAI g5 369) (24 + s) (24 + t) (nI v))) n T _ := MX.to (h := g5) rfl rfl rfl (sAI_ne _ _ (by decide)) (fun _ _ _ => rfl) rfl m5
  have sH : CS a h5 (sAI h5 (a + 13) (filH (hAI h5 (a + 13)) s t (nI v))) := ⟨⟨rfl, rfl, rfl, rfl, fun _ _ _ => rfl, fun _ _ _ => rfl, fun _ _ _ _ _ _ => rfl, fun x e => sAI_ne _ _ (by omega), fun _ _ => rfl⟩, rfl⟩
  have sG : MZ g5 (sAI g5 369 (filH (hAI g5 369) (24 + s) (24 + t) (nI v))) := ⟨rfl, rfl, rfl, rfl, rfl, fun _ _ _ => rfl, fun _ _ _ => rfl, fun x j e => by
    by_cases c : x = 369
    · subst c
      have : hf 369 = 24 := rfl
      rw [sAI_at]
      unfold filH
      rw [if_neg (by omega)]
    · rw [sAI_ne _ _ c], fun _ _ _ => rfl⟩
  refine Ln.go sH sG ?_
  have lt : (nI t < nI (t + 1)) = True := eq_true (nI_lt (by omega) (by omega))
  rw [q_X6_heatLine_65, q_X12_readsHeat_55]
  have kk : hK (sAI h5 (a + 13) (filH (hAI h5 (a + 13)) s t (nI v))) 3 = 7 := k3
  have kg : hK (sAI g5 369 (filH (hAI g5 369) (24 + s) (24 + t) (nI v))) 348 = 13 := m0
  simp only [am_kd, kk, kg, lt, if_true]
  rcases st_close (d := d) (d2 := d2 + 1) cH mG with F | ⟨h6, g6, x6, y6, q6, r6, c6, m6, -⟩
  · exact Ln.no (fun _ => rfl) (fun _ => rfl) F
  rw [x6, y6, bI_s, bI_s, am_nar4_1, am_nar4_1]
  refine Or.inr ⟨h6, g6, _, np, ny, nc, ne, nw, rfl, rfl, q6.cs a, r6.mz, c6, m6, ?_, ?_⟩
  · have le0 := nxt_le (T := T) c.le
    have le1 := nxt_le (T := T) c1.le
    have le2 := nxt_le (T := T) c2.le
    have le3 := nxt_le (T := T) c3.le
    have le4 := nxt_le (T := T) c4.le
    have le5 := nxt_le (T := T) c5.le
    omega
  · exact (PR.heat (h' := sAI h5 (a + 13) (filH (hAI h5 (a + 13)) s t (nI v))) (g' := sAI g5 369 (filH (hAI g5 369) (24 + s) (24 + t) (nI v))) (j := s) (t := t) P5 u5 (sAI_at _ _ _) (fun k z1 z2 z3 => sAI_ne _ _ (by omega)) rfl (fun _ => rfl) rfl rfl (sAI_at _ _ _) (fun r z1 z2 z3 => sAI_ne _ _ z3) (fun _ _ _ => rfl) rfl).ct ha3 ha30 q6 r6
