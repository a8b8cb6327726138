/-! The reader: the model's head between two parts of a law. -/
/-- a code, then the next token -/
theorem m_put2 {d n b c : Nat} {g : AH} {T : Nat → Nat} (m : MX g n T b) (hc : hFI g 1233 348 = nI (1000 + c)) (h1 : c < 1000) (v : Int32) : ∃ g', am_C PG (d + 2) 166 [.ref 348] (sFI (sEI g 372 (1000 + c) v) 1233 348 (nI (1000 + (c + 1)))) = some (none, g') ∧ MQt (sFI (sEI g 372 (1000 + c) v) 1233 348 (nI (1000 + (c + 1)))) g' ∧ MX g' n T (nxt n T b) := m_adv (m.put c v)
theorem m_h43 {d n b c w : Nat} {g : AH} {T : Nat → Nat} (m : MX g n T b) (hc : hFI g 1233 348 = nI (1000 + c)) (h1 : c < 1000) (e : sgn n T b = 43) : ∃ g', Hd d w 0 g = Hd d w 1 g' ∧ MQt (sFI (sEI g 372 (1000 + c) 20) 1233 348 (nI (1000 + (c + 1)))) g' ∧ MX g' n T (nxt n T b) := by
  obtain ⟨k1, e3, e6, -⟩ := m.ff
  have z1 : ((1 : Int32) = 0) = False := eq_false (by decide)
  have ks43 := m_isSign (d := d + 2) m (s := 43) (by decide)
  have ks45 := m_isSign (d := d + 2) m (s := 45) (by decide)
  have ks42 := m_isSign (d := d + 2) m (s := 42) (by decide)
  have ks60 := m_isSign (d := d + 2) m (s := 60) (by decide)
  have ks61 := m_isSign (d := d + 2) m (s := 61) (by decide)
  have ks41 := m_isSign (d := d + 2) m (s := 41) (by decide)
  have ks59 := m_isSign (d := d + 2) m (s := 59) (by decide)
  have kw1 := m_isWord (d := d + 2) m (w := 1111) (by decide)
  have kw2 := m_isWord (d := d + 2) m (w := 423) (by decide)
  have q43 : (if (43 : Int32) = 43 then (1 : Int32) else 0) = 1 := rfl
  have q45 : (if (43 : Int32) = 45 then (1 : Int32) else 0) = 0 := rfl
  have q42 : (if (43 : Int32) = 42 then (1 : Int32) else 0) = 0 := rfl
  have q60 : (if (43 : Int32) = 60 then (1 : Int32) else 0) = 0 := rfl
  have q61 : (if (43 : Int32) = 61 then (1 : Int32) else 0) = 0 := rfl
  have q41 : (if (43 : Int32) = 41 then (1 : Int32) else 0) = 0 := rfl
  have q59 : (if (43 : Int32) = 59 then (1 : Int32) else 0) = 0 := rfl
  obtain ⟨g', g1, g2, g3⟩ := m_put2 (d := d + 1) m hc h1 20
  have kp := m_puts (d := d + 2) m hc h1 20
  have k2 : hK (sFI (sEI g 372 (1000 + c) 20) 1233 348 (nI (1000 + (c + 1)))) 348 = 13 := k1
  rw [e] at ks43 ks45 ks42 ks60 ks61 ks41 ks59
  refine ⟨g', ?_, g2, g3⟩
  unfold Hd
  rw [q_X12_reads_11]
  simp only [am_kd, k1, if_true, ks43, ks45, ks42, ks60, ks61, ks41, ks59, kw1, kw2, bI_s, z1, if_false, q43, q45, q42, q60, q61, q41, q59, kp, bV_s, k2, g1]
theorem m_h45 {d n b c w : Nat} {g : AH} {T : Nat → Nat} (m : MX g n T b) (hc : hFI g 1233 348 = nI (1000 + c)) (h1 : c < 1000) (e : sgn n T b = 45) : ∃ g', Hd d w 0 g = Hd d w 1 g' ∧ MQt (sFI (sEI g 372 (1000 + c) 21) 1233 348 (nI (1000 + (c + 1)))) g' ∧ MX g' n T (nxt n T b) := by
  obtain ⟨k1, e3, e6, -⟩ := m.ff
  have z1 : ((1 : Int32) = 0) = False := eq_false (by decide)
  have ks43 := m_isSign (d := d + 2) m (s := 43) (by decide)
  have ks45 := m_isSign (d := d + 2) m (s := 45) (by decide)
  have ks42 := m_isSign (d := d + 2) m (s := 42) (by decide)
  have ks60 := m_isSign (d := d + 2) m (s := 60) (by decide)
  have ks61 := m_isSign (d := d + 2) m (s := 61) (by decide)
  have ks41 := m_isSign (d := d + 2) m (s := 41) (by decide)
  have ks59 := m_isSign (d := d + 2) m (s := 59) (by decide)
  have kw1 := m_isWord (d := d + 2) m (w := 1111) (by decide)
  have kw2 := m_isWord (d := d + 2) m (w := 423) (by decide)
  have q43 : (if (45 : Int32) = 43 then (1 : Int32) else 0) = 0 := rfl
  have q45 : (if (45 : Int32) = 45 then (1 : Int32) else 0) = 1 := rfl
  have q42 : (if (45 : Int32) = 42 then (1 : Int32) else 0) = 0 := rfl
  have q60 : (if (45 : Int32) = 60 then (1 : Int32) else 0) = 0 := rfl
  have q61 : (if (45 : Int32) = 61 then (1 : Int32) else 0) = 0 := rfl
  have q41 : (if (45 : Int32) = 41 then (1 : Int32) else 0) = 0 := rfl
  have q59 : (if (45 : Int32) = 59 then (1 : Int32) else 0) = 0 := rfl
  obtain ⟨g', g1, g2, g3⟩ := m_put2 (d := d + 1) m hc h1 21
  have kp := m_puts (d := d + 2) m hc h1 21
  have k2 : hK (sFI (sEI g 372 (1000 + c) 21) 1233 348 (nI (1000 + (c + 1)))) 348 = 13 := k1
  rw [e] at ks43 ks45 ks42 ks60 ks61 ks41 ks59
  refine ⟨g', ?_, g2, g3⟩
  unfold Hd
  rw [q_X12_reads_11]
  simp only [am_kd, k1, if_true, ks43, ks45, ks42, ks60, ks61, ks41, ks59, kw1, kw2, bI_s, z1, if_false, q43, q45, q42, q60, q61, q41, q59, kp, bV_s, k2, g1]
theorem m_h42 {d n b c w : Nat} {g : AH} {T : Nat → Nat} (m : MX g n T b) (hc : hFI g 1233 348 = nI (1000 + c)) (h1 : c < 1000) (e : sgn n T b = 42) : ∃ g', Hd d w 0 g = Hd d w 1 g' ∧ MQt (sFI (sEI g 372 (1000 + c) 22) 1233 348 (nI (1000 + (c + 1)))) g' ∧ MX g' n T (nxt n T b) := by
  obtain ⟨k1, e3, e6, -⟩ := m.ff
  have z1 : ((1 : Int32) = 0) = False := eq_false (by decide)
  have ks43 := m_isSign (d := d + 2) m (s := 43) (by decide)
  have ks45 := m_isSign (d := d + 2) m (s := 45) (by decide)
  have ks42 := m_isSign (d := d + 2) m (s := 42) (by decide)
  have ks60 := m_isSign (d := d + 2) m (s := 60) (by decide)
  have ks61 := m_isSign (d := d + 2) m (s := 61) (by decide)
  have ks41 := m_isSign (d := d + 2) m (s := 41) (by decide)
  have ks59 := m_isSign (d := d + 2) m (s := 59) (by decide)
  have kw1 := m_isWord (d := d + 2) m (w := 1111) (by decide)
  have kw2 := m_isWord (d := d + 2) m (w := 423) (by decide)
  have q43 : (if (42 : Int32) = 43 then (1 : Int32) else 0) = 0 := rfl
  have q45 : (if (42 : Int32) = 45 then (1 : Int32) else 0) = 0 := rfl
  have q42 : (if (42 : Int32) = 42 then (1 : Int32) else 0) = 1 := rfl
  have q60 : (if (42 : Int32) = 60 then (1 : Int32) else 0) = 0 := rfl
  have q61 : (if (42 : Int32) = 61 then (1 : Int32) else 0) = 0 := rfl
  have q41 : (if (42 : Int32) = 41 then (1 : Int32) else 0) = 0 := rfl
  have q59 : (if (42 : Int32) = 59 then (1 : Int32) else 0) = 0 := rfl
  obtain ⟨g', g1, g2, g3⟩ := m_put2 (d := d + 1) m hc h1 22
  have kp := m_puts (d := d + 2) m hc h1 22
  have k2 : hK (sFI (sEI g 372 (1000 + c) 22) 1233 348 (nI (1000 + (c + 1)))) 348 = 13 := k1
  rw [e] at ks43 ks45 ks42 ks60 ks61 ks41 ks59
  refine ⟨g', ?_, g2, g3⟩
  unfold Hd
  rw [q_X12_reads_11]
  simp only [am_kd, k1, if_true, ks43, ks45, ks42, ks60, ks61, ks41, ks59, kw1, kw2, bI_s, z1, if_false, q43, q45, q42, q60, q61, q41, q59, kp, bV_s, k2, g1]
theorem m_h60 {d n b c w : Nat} {g : AH} {T : Nat → Nat} (m : MX g n T b) (hc : hFI g 1233 348 = nI (1000 + c)) (h1 : c < 1000) (hw : w < 7) (e : sgn n T b = 60) (h0 : hAI g 374 w = 0) : ∃ g', Hd d w 0 g = Hd d w 1 g' ∧ MQt (sEI (sFI (sEI g 372 (1000 + c) 24) 1233 348 (nI (1000 + (c + 1)))) 374 w 1) g' ∧ MX g' n T (nxt n T b) := by
  obtain ⟨k1, e3, e6, -⟩ := m.ff
  have z1 : ((1 : Int32) = 0) = False := eq_false (by decide)
  have ks43 := m_isSign (d := d + 2) m (s := 43) (by decide)
  have ks45 := m_isSign (d := d + 2) m (s := 45) (by decide)
  have ks42 := m_isSign (d := d + 2) m (s := 42) (by decide)
  have ks60 := m_isSign (d := d + 2) m (s := 60) (by decide)
  have ks61 := m_isSign (d := d + 2) m (s := 61) (by decide)
  have ks41 := m_isSign (d := d + 2) m (s := 41) (by decide)
  have ks59 := m_isSign (d := d + 2) m (s := 59) (by decide)
  have kw1 := m_isWord (d := d + 2) m (w := 1111) (by decide)
  have kw2 := m_isWord (d := d + 2) m (w := 423) (by decide)
  have q43 : (if (60 : Int32) = 43 then (1 : Int32) else 0) = 0 := rfl
  have q45 : (if (60 : Int32) = 45 then (1 : Int32) else 0) = 0 := rfl
  have q42 : (if (60 : Int32) = 42 then (1 : Int32) else 0) = 0 := rfl
  have q60 : (if (60 : Int32) = 60 then (1 : Int32) else 0) = 1 := rfl
  have q61 : (if (60 : Int32) = 61 then (1 : Int32) else 0) = 0 := rfl
  have q41 : (if (60 : Int32) = 41 then (1 : Int32) else 0) = 0 := rfl
  have q59 : (if (60 : Int32) = 59 then (1 : Int32) else 0) = 0 := rfl
  obtain ⟨g', g1, g2, g3⟩ := m_adv (d := d + 1) ((m.put c 24).ei (r := 374) w 1 (by decide))
  have kp := m_puts (d := d + 2) m hc h1 24
  have hm := m.1.1
  have m0 := hm.1
  have f1235 : hFR _ 1235 348 = some 374 := (hm.2 25 (by decide)).1
  have k374 : hK _ 374 = 52 := (hm.2 25 (by decide)).2.1
  have n374 : hLN _ 374 = 7 := (hm.2 25 (by decide)).2.2
  have ei : ∀ x, am_in (nI w) 7 x = x := am_inN hw (by decide)
  have ti : Int32.toNatClampNeg (nI w) = w := nI_clamp (by omega)
  have h0' : (hAI g 374 w = 0) = True := eq_true h0
  rw [e] at ks43 ks45 ks42 ks60 ks61 ks41 ks59
  refine ⟨g', ?_, g2, g3⟩
  unfold Hd
  rw [q_X12_reads_11]
  simp only [am_kd, m0, f1235, k374, n374, if_true, ks43, ks45, ks42, ks60, ks61, ks41, ks59, kw1, kw2, bI_s, z1, if_false, q43, q45, q42, q60, q61, q41, q59, kp, bV_s, bR_s, ei, ti, h0', am_nar4_1, am_let_e, rd_hK_sFI, rd_hK_sEI, rd_hFR_sFI, rd_hFR_sEI, rd_hLN_sFI, rd_hLN_sEI, g1]
theorem m_h61 {d n b c w : Nat} {g : AH} {T : Nat → Nat} (m : MX g n T b) (hc : hFI g 1233 348 = nI (1000 + c)) (h1 : c < 1000) (hw : w < 7) (e : sgn n T b = 61) (h0 : hAI g 374 w = 0) : ∃ g', Hd d w 0 g = Hd d w 1 g' ∧ MQt (sEI (sFI (sEI g 372 (1000 + c) 25) 1233 348 (nI (1000 + (c + 1)))) 374 w 1) g' ∧ MX g' n T (nxt n T b) := by
  obtain ⟨k1, e3, e6, -⟩ := m.ff
  have z1 : ((1 : Int32) = 0) = False := eq_false (by decide)
  have ks43 := m_isSign (d := d + 2) m (s := 43) (by decide)
  have ks45 := m_isSign (d := d + 2) m (s := 45) (by decide)
  have ks42 := m_isSign (d := d + 2) m (s := 42) (by decide)
  have ks60 := m_isSign (d := d + 2) m (s := 60) (by decide)
  have ks61 := m_isSign (d := d + 2) m (s := 61) (by decide)
  have ks41 := m_isSign (d := d + 2) m (s := 41) (by decide)
  have ks59 := m_isSign (d := d + 2) m (s := 59) (by decide)
  have kw1 := m_isWord (d := d + 2) m (w := 1111) (by decide)
  have kw2 := m_isWord (d := d + 2) m (w := 423) (by decide)
  have q43 : (if (61 : Int32) = 43 then (1 : Int32) else 0) = 0 := rfl
  have q45 : (if (61 : Int32) = 45 then (1 : Int32) else 0) = 0 := rfl
  have q42 : (if (61 : Int32) = 42 then (1 : Int32) else 0) = 0 := rfl
  have q60 : (if (61 : Int32) = 60 then (1 : Int32) else 0) = 0 := rfl
  have q61 : (if (61 : Int32) = 61 then (1 : Int32) else 0) = 1 := rfl
  have q41 : (if (61 : Int32) = 41 then (1 : Int32) else 0) = 0 := rfl
  have q59 : (if (61 : Int32) = 59 then (1 : Int32) else 0) = 0 := rfl
  obtain ⟨g', g1, g2, g3⟩ := m_adv (d := d + 1) ((m.put c 25).ei (r := 374) w 1 (by decide))
  have kp := m_puts (d := d + 2) m hc h1 25
  have hm := m.1.1
  have m0 := hm.1
  have f1235 : hFR _ 1235 348 = some 374 := (hm.2 25 (by decide)).1
  have k374 : hK _ 374 = 52 := (hm.2 25 (by decide)).2.1
  have n374 : hLN _ 374 = 7 := (hm.2 25 (by decide)).2.2
  have ei : ∀ x, am_in (nI w) 7 x = x := am_inN hw (by decide)
  have ti : Int32.toNatClampNeg (nI w) = w := nI_clamp (by omega)
  have h0' : (hAI g 374 w = 0) = True := eq_true h0
  rw [e] at ks43 ks45 ks42 ks60 ks61 ks41 ks59
  refine ⟨g', ?_, g2, g3⟩
  unfold Hd
  rw [q_X12_reads_11]
  simp only [am_kd, m0, f1235, k374, n374, if_true, ks43, ks45, ks42, ks60, ks61, ks41, ks59, kw1, kw2, bI_s, z1, if_false, q43, q45, q42, q60, q61, q41, q59, kp, bV_s, bR_s, ei, ti, h0', am_nar4_1, am_let_e, rd_hK_sFI, rd_hK_sEI, rd_hFR_sFI, rd_hFR_sEI, rd_hLN_sFI, rd_hLN_sEI, g1]
theorem m_w1111 {d n b c w : Nat} {g : AH} {T : Nat → Nat} (m : MX g n T b) (hc : hFI g 1233 348 = nI (1000 + c)) (h1 : c < 1000) (hw : w < 7) (e : wrd n T b = 1111) : ∃ g', Hd d w 0 g = Hd d w 1 g' ∧ MQt (sEI (sFI (sEI g 372 (1000 + c) 26) 1233 348 (nI (1000 + (c + 1)))) 374 w 0) g' ∧ MX g' n T (nxt n T b) := by
  obtain ⟨k1, e3, e6, -⟩ := m.ff
  have z1 : ((1 : Int32) = 0) = False := eq_false (by decide)
  have ks43 := m_isSign (d := d + 2) m (s := 43) (by decide)
  have ks45 := m_isSign (d := d + 2) m (s := 45) (by decide)
  have ks42 := m_isSign (d := d + 2) m (s := 42) (by decide)
  have ks60 := m_isSign (d := d + 2) m (s := 60) (by decide)
  have ks61 := m_isSign (d := d + 2) m (s := 61) (by decide)
  have ks41 := m_isSign (d := d + 2) m (s := 41) (by decide)
  have ks59 := m_isSign (d := d + 2) m (s := 59) (by decide)
  have kw1 := m_isWord (d := d + 2) m (w := 1111) (by decide)
  have kw2 := m_isWord (d := d + 2) m (w := 423) (by decide)
  have q43 : (if (0 : Int32) = 43 then (1 : Int32) else 0) = 0 := rfl
  have q45 : (if (0 : Int32) = 45 then (1 : Int32) else 0) = 0 := rfl
  have q42 : (if (0 : Int32) = 42 then (1 : Int32) else 0) = 0 := rfl
  have q60 : (if (0 : Int32) = 60 then (1 : Int32) else 0) = 0 := rfl
  have q61 : (if (0 : Int32) = 61 then (1 : Int32) else 0) = 0 := rfl
  have q41 : (if (0 : Int32) = 41 then (1 : Int32) else 0) = 0 := rfl
  have q59 : (if (0 : Int32) = 59 then (1 : Int32) else 0) = 0 := rfl
  have s0 : sgn n T b = 0 := (tk1 (n := n) (T := T) (b := b) (by rw [e]; decide)).2
  obtain ⟨g', g1, g2, g3⟩ := m_adv (d := d + 1) ((m.put c 26).ei (r := 374) w 0 (by decide))
  have kp := m_puts (d := d + 2) m hc h1 26
  have hm := m.1.1
  have m0 := hm.1
  have f1235 : hFR _ 1235 348 = some 374 := (hm.2 25 (by decide)).1
  have k374 : hK _ 374 = 52 := (hm.2 25 (by decide)).2.1
  have n374 : hLN _ 374 = 7 := (hm.2 25 (by decide)).2.2
  have ei : ∀ x, am_in (nI w) 7 x = x := am_inN hw (by decide)
  have ti : Int32.toNatClampNeg (nI w) = w := nI_clamp (by omega)
  have i1 : (if (1111 : Int64) = 1111 then (1 : Int32) else 0) = 1 := rfl
  have i2 : (if (1111 : Int64) = 423 then (1 : Int32) else 0) = 0 := rfl
  rw [s0] at ks43 ks45 ks42 ks60 ks61 ks41 ks59
  rw [e] at kw1 kw2
  refine ⟨g', ?_, g2, g3⟩
  unfold Hd
  rw [q_X12_reads_11]
  simp only [am_kd, m0, f1235, k374, n374, if_true, ks43, ks45, ks42, ks60, ks61, ks41, ks59, kw1, kw2, bI_s, if_false, q43, q45, q42, q60, q61, q41, q59]
  rw [q_X12_reads_304]
  simp only [am_kd, m0, f1235, k374, n374, if_true, ks43, ks45, ks42, ks60, ks61, ks41, ks59, kw1, kw2, bI_s, z1, if_false, q43, q45, q42, q60, q61, q41, q59, i1, i2, kp, bV_s, bR_s, ei, ti, am_nar4_0, am_let_e, rd_hK_sFI, rd_hK_sEI, rd_hFR_sFI, rd_hFR_sEI, rd_hLN_sFI, rd_hLN_sEI, g1]
theorem m_w423 {d n b c w : Nat} {g : AH} {T : Nat → Nat} (m : MX g n T b) (hc : hFI g 1233 348 = nI (1000 + c)) (h1 : c < 1000) (hw : w < 7) (e : wrd n T b = 423) : ∃ g', Hd d w 0 g = Hd d w 1 g' ∧ MQt (sEI (sFI (sEI g 372 (1000 + c) 27) 1233 348 (nI (1000 + (c + 1)))) 374 w 0) g' ∧ MX g' n T (nxt n T b) := by
  obtain ⟨k1, e3, e6, -⟩ := m.ff
  have z1 : ((1 : Int32) = 0) = False := eq_false (by decide)
  have ks43 := m_isSign (d := d + 2) m (s := 43) (by decide)
  have ks45 := m_isSign (d := d + 2) m (s := 45) (by decide)
  have ks42 := m_isSign (d := d + 2) m (s := 42) (by decide)
  have ks60 := m_isSign (d := d + 2) m (s := 60) (by decide)
  have ks61 := m_isSign (d := d + 2) m (s := 61) (by decide)
  have ks41 := m_isSign (d := d + 2) m (s := 41) (by decide)
  have ks59 := m_isSign (d := d + 2) m (s := 59) (by decide)
  have kw1 := m_isWord (d := d + 2) m (w := 1111) (by decide)
  have kw2 := m_isWord (d := d + 2) m (w := 423) (by decide)
  have q43 : (if (0 : Int32) = 43 then (1 : Int32) else 0) = 0 := rfl
  have q45 : (if (0 : Int32) = 45 then (1 : Int32) else 0) = 0 := rfl
  have q42 : (if (0 : Int32) = 42 then (1 : Int32) else 0) = 0 := rfl
  have q60 : (if (0 : Int32) = 60 then (1 : Int32) else 0) = 0 := rfl
  have q61 : (if (0 : Int32) = 61 then (1 : Int32) else 0) = 0 := rfl
  have q41 : (if (0 : Int32) = 41 then (1 : Int32) else 0) = 0 := rfl
  have q59 : (if (0 : Int32) = 59 then (1 : Int32) else 0) = 0 := rfl
  have s0 : sgn n T b = 0 := (tk1 (n := n) (T := T) (b := b) (by rw [e]; decide)).2
  obtain ⟨g', g1, g2, g3⟩ := m_adv (d := d + 1) ((m.put c 27).ei (r := 374) w 0 (by decide))
  have kp := m_puts (d := d + 2) m hc h1 27
  have hm := m.1.1
  have m0 := hm.1
  have f1235 : hFR _ 1235 348 = some 374 := (hm.2 25 (by decide)).1
  have k374 : hK _ 374 = 52 := (hm.2 25 (by decide)).2.1
  have n374 : hLN _ 374 = 7 := (hm.2 25 (by decide)).2.2
  have ei : ∀ x, am_in (nI w) 7 x = x := am_inN hw (by decide)
  have ti : Int32.toNatClampNeg (nI w) = w := nI_clamp (by omega)
  have i1 : (if (423 : Int64) = 1111 then (1 : Int32) else 0) = 0 := rfl
  have i2 : (if (423 : Int64) = 423 then (1 : Int32) else 0) = 1 := rfl
  rw [s0] at ks43 ks45 ks42 ks60 ks61 ks41 ks59
  rw [e] at kw1 kw2
  refine ⟨g', ?_, g2, g3⟩
  unfold Hd
  rw [q_X12_reads_11]
  simp only [am_kd, m0, f1235, k374, n374, if_true, ks43, ks45, ks42, ks60, ks61, ks41, ks59, kw1, kw2, bI_s, if_false, q43, q45, q42, q60, q61, q41, q59]
  rw [q_X12_reads_304]
  simp only [am_kd, m0, f1235, k374, n374, if_true, ks43, ks45, ks42, ks60, ks61, ks41, ks59, kw1, kw2, bI_s, z1, if_false, q43, q45, q42, q60, q61, q41, q59, i1, i2, kp, bV_s, bR_s, ei, ti, am_nar4_0, am_let_e, rd_hK_sFI, rd_hK_sEI, rd_hFR_sFI, rd_hFR_sEI, rd_hLN_sFI, rd_hLN_sEI, g1]
/-- a bracket closed -/
theorem m_h41 {d n b c w : Nat} {g : AH} {T : Nat → Nat} (m : MX g n T b) (hc : hFI g 1233 348 = nI (1000 + c)) (h1 : c < 1000) (hw : w < 6) (e : sgn n T b = 41) : ∃ g', Hd d (w + 1) 0 g = Hd d (drp (hAI g 373) w) 0 g' ∧ MQt (sFI (sEI g 372 (1000 + c) 29) 1233 348 (nI (1000 + (c + 1)))) g' ∧ MX g' n T (nxt n T b) := by
  obtain ⟨k1, e3, e6, -⟩ := m.ff
  have z1 : ((1 : Int32) = 0) = False := eq_false (by decide)
  have ks43 := m_isSign (d := d + 2) m (s := 43) (by decide)
  have ks45 := m_isSign (d := d + 2) m (s := 45) (by decide)
  have ks42 := m_isSign (d := d + 2) m (s := 42) (by decide)
  have ks60 := m_isSign (d := d + 2) m (s := 60) (by decide)
  have ks61 := m_isSign (d := d + 2) m (s := 61) (by decide)
  have ks41 := m_isSign (d := d + 2) m (s := 41) (by decide)
  have ks59 := m_isSign (d := d + 2) m (s := 59) (by decide)
  have kw1 := m_isWord (d := d + 2) m (w := 1111) (by decide)
  have kw2 := m_isWord (d := d + 2) m (w := 423) (by decide)
  have q43 : (if (41 : Int32) = 43 then (1 : Int32) else 0) = 0 := rfl
  have q45 : (if (41 : Int32) = 45 then (1 : Int32) else 0) = 0 := rfl
  have q42 : (if (41 : Int32) = 42 then (1 : Int32) else 0) = 0 := rfl
  have q60 : (if (41 : Int32) = 60 then (1 : Int32) else 0) = 0 := rfl
  have q61 : (if (41 : Int32) = 61 then (1 : Int32) else 0) = 0 := rfl
  have q41 : (if (41 : Int32) = 41 then (1 : Int32) else 0) = 1 := rfl
  have q59 : (if (41 : Int32) = 59 then (1 : Int32) else 0) = 0 := rfl
  have w0 : wrd n T b = 0 := wrd_0.2 (by have := (sgn_3 (n := n) (T := T) (b := b) (by rw [e]; decide)).1; omega)
  have i1 : (if (0 : Int64) = 1111 then (1 : Int32) else 0) = 0 := rfl
  have i2 : (if (0 : Int64) = 423 then (1 : Int32) else 0) = 0 := rfl
  obtain ⟨g', g1, g2, g3⟩ := m_put2 (d := d + 1) m hc h1 29
  have kp := m_puts (d := d + 2) m hc h1 29
  have e5 : ((0 : Int32) < nI (w + 1)) = True := eq_true (nI_lt (a := 0) (by omega) (by omega))
  have md := m_drop (d := d) (x := 379) (g := sFI (sEI g 372 (1000 + c) 29) 1233 348 (nI (1000 + (c + 1)))) (m.put c 29).1.1 0 (Or.inr rfl) w (by omega)
  rw [g1, bV_s, rd_hAI_sFI, sEI_ne _ _ _ (by decide)] at md
  rw [e] at ks43 ks45 ks42 ks60 ks61 ks41 ks59
  rw [w0] at kw1 kw2
  refine ⟨g', ?_, g2, g3⟩
  rw [← md]
  unfold Hd
  rw [q_X12_reads_11]
  simp only [am_kd, k1, if_true, ks43, ks45, ks42, ks60, ks61, ks41, ks59, kw1, kw2, bI_s, if_false, q43, q45, q42, q60, q61, q41, q59]
  rw [q_X12_reads_304]
  simp only [am_kd, k1, if_true, ks43, ks45, ks42, ks60, ks61, ks41, ks59, kw1, kw2, bI_s, z1, if_false, q43, q45, q42, q60, q61, q41, q59, i1, i2, e5, kp, bV_s, pk_m1]
/-- the end -/
theorem m_h59 {d n b : Nat} {g : AH} {T : Nat → Nat} (m : MX g n T b) (e : sgn n T b = 59) : ∃ g', Hd d 0 0 g = some (some (.int 1), g') ∧ MQt g g' ∧ MX g' n T (nxt n T b) := by
  obtain ⟨k1, e3, e6, -⟩ := m.ff
  have z1 : ((1 : Int32) = 0) = False := eq_false (by decide)
  have ks43 := m_isSign (d := d + 2) m (s := 43) (by decide)
  have ks45 := m_isSign (d := d + 2) m (s := 45) (by decide)
  have ks42 := m_isSign (d := d + 2) m (s := 42) (by decide)
  have ks60 := m_isSign (d := d + 2) m (s := 60) (by decide)
  have ks61 := m_isSign (d := d + 2) m (s := 61) (by decide)
  have ks41 := m_isSign (d := d + 2) m (s := 41) (by decide)
  have ks59 := m_isSign (d := d + 2) m (s := 59) (by decide)
  have kw1 := m_isWord (d := d + 2) m (w := 1111) (by decide)
  have kw2 := m_isWord (d := d + 2) m (w := 423) (by decide)
  have q43 : (if (59 : Int32) = 43 then (1 : Int32) else 0) = 0 := rfl
  have q45 : (if (59 : Int32) = 45 then (1 : Int32) else 0) = 0 := rfl
  have q42 : (if (59 : Int32) = 42 then (1 : Int32) else 0) = 0 := rfl
  have q60 : (if (59 : Int32) = 60 then (1 : Int32) else 0) = 0 := rfl
  have q61 : (if (59 : Int32) = 61 then (1 : Int32) else 0) = 0 := rfl
  have q41 : (if (59 : Int32) = 41 then (1 : Int32) else 0) = 0 := rfl
  have q59 : (if (59 : Int32) = 59 then (1 : Int32) else 0) = 1 := rfl
  have w0 : wrd n T b = 0 := wrd_0.2 (by have := (sgn_3 (n := n) (T := T) (b := b) (by rw [e]; decide)).1; omega)
  have i1 : (if (0 : Int64) = 1111 then (1 : Int32) else 0) = 0 := rfl
  have i2 : (if (0 : Int64) = 423 then (1 : Int32) else 0) = 0 := rfl
  obtain ⟨g', g1, g2, g3⟩ := m_adv (d := d + 1) m
  have e0 : (nI 0 = 0) = True := eq_true rfl
  rw [e] at ks43 ks45 ks42 ks60 ks61 ks41 ks59
  rw [w0] at kw1 kw2
  refine ⟨g', ?_, g2, g3⟩
  unfold Hd
  rw [q_X12_reads_11]
  simp only [am_kd, k1, if_true, ks43, ks45, ks42, ks60, ks61, ks41, ks59, kw1, kw2, bI_s, if_false, q43, q45, q42, q60, q61, q41, q59]
  rw [q_X12_reads_304]
  simp only [am_kd, k1, if_true, ks43, ks45, ks42, ks60, ks61, ks41, ks59, kw1, kw2, bI_s, z1, if_false, q43, q45, q42, q60, q61, q41, q59, i1, i2, e0, bV_s, g1, am_nar4_1]
/-- nothing that can stand there -/
theorem m_hno {d n b w : Nat} {g : AH} {T : Nat → Nat} (m : MX g n T b) (hw : w < 7) (n1 : sgn n T b ≠ 43) (n2 : sgn n T b ≠ 45) (n3 : sgn n T b ≠ 42) (n4 : (sgn n T b ≠ 60 ∧ sgn n T b ≠ 61) ∨ hAI g 374 w ≠ 0) (n5 : wrd n T b ≠ 1111) (n6 : wrd n T b ≠ 423) (n7 : sgn n T b ≠ 41 ∨ w = 0) (n8 : sgn n T b ≠ 59 ∨ w ≠ 0) : Hd d w 0 g = some (some (.int 0), sFI g 1209 348 (1 + 16 * nI b)) := by
  obtain ⟨k1, e3, e6, -⟩ := m.ff
  have z1 : ((1 : Int32) = 0) = False := eq_false (by decide)
  have ks43 := m_isSign (d := d + 2) m (s := 43) (by decide)
  have ks45 := m_isSign (d := d + 2) m (s := 45) (by decide)
  have ks42 := m_isSign (d := d + 2) m (s := 42) (by decide)
  have ks60 := m_isSign (d := d + 2) m (s := 60) (by decide)
  have ks61 := m_isSign (d := d + 2) m (s := 61) (by decide)
  have ks41 := m_isSign (d := d + 2) m (s := 41) (by decide)
  have ks59 := m_isSign (d := d + 2) m (s := 59) (by decide)
  have kw1 := m_isWord (d := d + 2) m (w := 1111) (by decide)
  have kw2 := m_isWord (d := d + 2) m (w := 423) (by decide)
  have hm := m.1.1
  have m0 := hm.1
  have f1235 : hFR _ 1235 348 = some 374 := (hm.2 25 (by decide)).1
  have k374 : hK _ 374 = 52 := (hm.2 25 (by decide)).2.1
  have n374 : hLN _ 374 = 7 := (hm.2 25 (by decide)).2.2
  have ei : ∀ x, am_in (nI w) 7 x = x := am_inN hw (by decide)
  have ti : Int32.toNatClampNeg (nI w) = w := nI_clamp (by omega)
  have f304 : am_R PG (d + 4) 172 304 [some (.ref 348), some (.int (nI w)), some (.int 0), none, none, none] [] g = some (some (.int 0), sFI g 1209 348 (1 + 16 * nI b)) := by
    rw [if_neg n5] at kw1
    rw [if_neg n6] at kw2
    rw [q_X12_reads_304]
    by_cases w0 : w = 0
    · subst w0
      rw [if_neg (n8.resolve_right (by omega))] at ks59
      have e0 : (nI 0 = 0) = True := eq_true rfl
      have e1 : ((0 : Int32) < nI 0) = False := eq_false (by decide)
      by_cases c : sgn n T b = 41
      · rw [if_pos c] at ks41
        simp only [am_kd, m0, if_true, kw1, kw2, ks41, ks59, bI_s, z1, if_false, e0, e1, m_fails m, am_nar4_0]
      · rw [if_neg c] at ks41
        simp only [am_kd, m0, if_true, kw1, kw2, ks41, ks59, bI_s, e0, m_fails m, am_nar4_0]
    · rw [if_neg (n7.resolve_right w0)] at ks41
      have e0 : (nI w = 0) = False := eq_false (nI_ne0 (by omega) (by omega))
      simp only [am_kd, m0, if_true, kw1, kw2, ks41, bI_s, e0, if_false, m_fails m, am_nar4_0]
  rw [if_neg n1] at ks43
  rw [if_neg n2] at ks45
  rw [if_neg n3] at ks42
  unfold Hd
  rw [q_X12_reads_11]
  by_cases c1 : sgn n T b = 60
  · have h0 : (hAI g 374 w = 0) = False := eq_false (n4.resolve_left (fun z => z.1 c1))
    rw [if_pos c1] at ks60
    simp only [am_kd, m0, f1235, k374, n374, if_true, ks43, ks45, ks42, ks60, bI_s, z1, if_false, bR_s, ei, ti, h0, f304]
  · rw [if_neg c1] at ks60
    by_cases c2 : sgn n T b = 61
    · have h0 : (hAI g 374 w = 0) = False := eq_false (n4.resolve_left (fun z => z.2 c2))
      rw [if_pos c2] at ks61
      simp only [am_kd, m0, f1235, k374, n374, if_true, ks43, ks45, ks42, ks60, ks61, bI_s, z1, if_false, bR_s, ei, ti, h0, f304]
    · rw [if_neg c2] at ks61
      simp only [am_kd, m0, if_true, ks43, ks45, ks42, ks60, ks61, bI_s, f304]
