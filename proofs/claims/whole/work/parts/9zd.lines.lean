/-! The reader: the lines of a post one after the other, both sides. -/
/-- the model's choice of a line, and how it goes on -/
noncomputable def mLine (d2 : Nat) (C : Option Res) : Option Res := bI C fun v h => if v = 0 then some (some (.int 0), h) else am_R PG (d2 + 7) 197 94 [some (.ref 348), none] [] h
theorem tkS_b0 {n b : Nat} {T : Nat → Nat} (hb : b < n) : tkS n T b ≠ 0 := by
  unfold tkS
  rw [if_pos hb]
  repeat' split
  all_goals decide
theorem Ln.nar {a n b : Nat} {T : Nat → Nat} {h g : AH} {C M : Option Res} (L : Ln a n T b h g C M) : Ln a n T b h g (bI C fun v x => am_nar 4 v (some (some (.int v), x))) M := by
  rcases L with ⟨f, h', g', f0, f1, f2, f3⟩ | ⟨h', g', b', np, ny, nc, ne, nw, l1, l2⟩
  · exact Or.inl ⟨f, h', g', f0, by rw [f1, bI_s, am_nar4_0], f2, f3⟩
  · exact Or.inr ⟨h', g', b', np, ny, nc, ne, nw, by rw [l1, bI_s, am_nar4_1], l2⟩
theorem ln_post {d d2 a n b np ny nc ne nw : Nat} {h g : AH} {T : Nat → Nat} (ha : a = 4 ∨ a = 30) (c : CX h a n T b) (m : MX g n T b) (P : PR h g a np ny nc ne nw) (hb : b < n) : ∃ M, am_R PG (d2 + 7) 197 94 [some (.ref 348), none] [] g = mLine d2 M ∧ Ln a n T b h g (am_C PG (d + 35) 86 [.ref 3] h) M := by
  obtain ⟨k3, k1, ka, k14, k17, kr2, kr4, kr5, kr6, kr7, kr8, kr9, kr10, kr11, kr12, kr13, kr18, kr21, kr22, kr24, nr2, nr4, nr5, nr6, nr7, nr8, nr9, nr10, nr11, nr12, nr13, nr18, nr21, nr22, nr24⟩ := c.kl
  obtain ⟨f600, f601, f500, f506, f508, f509, f510, f511, f512, f513, f514, f515, f516, f517, f518, f519, f701, f704, f705, f707⟩ := c.fr
  have k0 := m.ff.1
  have e6 := m.ff.2.2.1
  have ew := c.wd
  have z1 : ((1 : Int32) = 0) = False := eq_false (by decide)
  have w0 := m_isWord (d := d2 + 5) m (w := 8740067) (by decide)
  have w2 := m_isWord (d := d2 + 5) m (w := 16819) (by decide)
  have w3 := m_isWord (d := d2 + 5) m (w := 1841546) (by decide)
  have w8 := m_isWord (d := d2 + 5) m (w := 232608281) (by decide)
  have w9 := m_isWord (d := d2 + 5) m (w := 464141) (by decide)
  have w13 := m_isWord (d := d2 + 5) m (w := 161156) (by decide)
  have w15 := m_isWord (d := d2 + 5) m (w := 291420470) (by decide)
  have t0 : (nI (tkS n T b) = 0) = False := eq_false (fun z => by
    have z1 : tkS n T b = 0 := (nI_eq (b := 0) (by have := tkS_le n T b; omega) (by decide)).1 z
    have := tkS_b0 (T := T) hb
    omega)
  rw [q_X12_readsAll_94, q_X6_postLine]
  have m0 := k0
  simp only [am_kd, k3, k1, k0, f600, e6, t0, if_true, if_false, bR_s, ew, am_wd_w, w0, w2, w3, w8, w9, w13, w15, am_wd_0, wd_0, am_wd_2, wd_2, am_wd_3, wd_3, am_wd_8, wd_8, am_wd_9, wd_9, am_wd_13, wd_13, am_wd_15, wd_15, bI_s]
  by_cases s0 : wrd n T b = 8740067
  · refine ⟨am_C PG (d2 + 6) 189 [.ref 348] g, ?_, ?_⟩
    · simp only [eq_true s0, if_true, if_false, z1]
      unfold mLine
      refine congrArg (bI _) ?_
      funext v x
      rw [am_nar4_0]
    · simp only [eq_true s0, if_true, if_false]
      have L := ln_place (d := d + 29) (d2 := d2 + 1) ha c m P hb
      exact L.nar
  by_cases s2 : wrd n T b = 16819
  · refine ⟨am_C PG (d2 + 6) 190 [.ref 348] g, ?_, ?_⟩
    · simp only [eq_true s2, eq_false s0, if_true, if_false, z1]
      unfold mLine
      refine congrArg (bI _) ?_
      funext v x
      rw [am_nar4_0]
    · simp only [eq_true s2, eq_false s0, if_true, if_false]
      have L := ln_way (d := d + 28) (d2 := d2 + 1) ha c m P hb
      exact L.nar
  by_cases s3 : wrd n T b = 1841546
  · refine ⟨am_C PG (d2 + 6) 191 [.ref 348] g, ?_, ?_⟩
    · simp only [eq_true s3, eq_false s0, eq_false s2, if_true, if_false, z1]
      unfold mLine
      refine congrArg (bI _) ?_
      funext v x
      rw [am_nar4_0]
    · simp only [eq_true s3, eq_false s0, eq_false s2, if_true, if_false]
      have L := ln_clock (d := d + 29) (d2 := d2 + 1) ha c m P hb
      exact L.nar
  by_cases s8 : wrd n T b = 232608281
  · refine ⟨am_C PG (d2 + 6) 192 [.ref 348] g, ?_, ?_⟩
    · simp only [eq_true s8, eq_false s0, eq_false s2, eq_false s3, if_true, if_false, z1]
      unfold mLine
      refine congrArg (bI _) ?_
      funext v x
      rw [am_nar4_0]
    · simp only [eq_true s8, eq_false s0, eq_false s2, eq_false s3, if_true, if_false]
      have L := ln_person (d := d + 29) (d2 := d2 + 1) ha c m P hb
      exact L.nar
  by_cases s9 : wrd n T b = 464141
  · refine ⟨am_C PG (d2 + 6) 193 [.ref 348] g, ?_, ?_⟩
    · simp only [eq_true s9, eq_false s0, eq_false s2, eq_false s3, eq_false s8, if_true, if_false, z1]
      unfold mLine
      refine congrArg (bI _) ?_
      funext v x
      rw [am_nar4_0]
    · simp only [eq_true s9, eq_false s0, eq_false s2, eq_false s3, eq_false s8, if_true, if_false]
      have L := ln_work (d := d + 29) (d2 := d2 + 1) ha c m P hb
      exact L.nar
  by_cases s13 : wrd n T b = 161156
  · refine ⟨am_C PG (d2 + 6) 194 [.ref 348] g, ?_, ?_⟩
    · simp only [eq_true s13, eq_false s0, eq_false s2, eq_false s3, eq_false s8, eq_false s9, if_true, if_false, z1]
      unfold mLine
      refine congrArg (bI _) ?_
      funext v x
      rw [am_nar4_0]
    · simp only [eq_true s13, eq_false s0, eq_false s2, eq_false s3, eq_false s8, eq_false s9, if_true, if_false]
      have L := ln_heat (d := d + 29) (d2 := d2 + 1) ha c m P hb
      exact L.nar
  by_cases s15 : wrd n T b = 291420470
  · refine ⟨am_C PG (d2 + 6) 195 [.ref 348] g, ?_, ?_⟩
    · simp only [eq_true s15, eq_false s0, eq_false s2, eq_false s3, eq_false s8, eq_false s9, eq_false s13, if_true, if_false, z1]
      unfold mLine
      refine congrArg (bI _) ?_
      funext v x
      rw [am_nar4_0]
    · simp only [eq_true s15, eq_false s0, eq_false s2, eq_false s3, eq_false s8, eq_false s9, eq_false s13, if_true, if_false]
      have L := ln_thirst (d := d) (d2 := d2) ha c m P hb
      exact L.nar
  refine ⟨am_C PG (d2 + 6) 169 [.ref 348, .int 1] g, ?_, ?_⟩
  · simp only [eq_false s0, eq_false s2, eq_false s3, eq_false s8, eq_false s9, eq_false s13, eq_false s15, if_true, if_false]
    unfold mLine
    refine congrArg (bI _) ?_
    funext v x
    rw [am_nar4_0]
  · simp only [eq_false s0, eq_false s2, eq_false s3, eq_false s8, eq_false s9, eq_false s13, eq_false s15, if_false]
    obtain ⟨f, h', g', f0, f1, f2, f3, f4⟩ := st_fail (d := d + 33) (d2 := d2 + 5) c m (k := 1) (kk := 1) rfl (by decide) (by decide)
    refine Or.inl ⟨f, h', g', f0, ?_, f2, f3.cq a, f4.mz⟩
    rw [f1, bI_s]
    rfl
/-- all lines -/
theorem post_loop {d d2 a n : Nat} {T : Nat → Nat} (ha : a = 4 ∨ a = 30) : ∀ (j i b np ny nc ne nw : Nat) (h g : AH), n ≤ b + j → i ≤ b → CX h a n T b → MX g n T b → PR h g a np ny nc ne nw →
    (∃ f h' g', f ≠ 0 ∧ am_R PG (d + 36) 76 31 [some (.ref 3), none, some (.int (nI i))] [] h = some (some (.int f), sFI h' 603 3 f) ∧ am_R PG (d2 + 7) 197 94 [some (.ref 348), none] [] g = some (some (.int 0), sFI g' 1209 348 f) ∧ CQ a h h' ∧ MZ g g') ∨
    ∃ h' g' b' np ny nc ne nw, am_R PG (d + 36) 76 31 [some (.ref 3), none, some (.int (nI i))] [] h = bV (am_C PG (d + 35) 54 [.ref a] h') (fun h5 => am_kd h5 3 7 (some (some (.int (hFI h5 603 3)), h5))) ∧ am_R PG (d2 + 7) 197 94 [some (.ref 348), none] [] g = some (some (.int 1), g') ∧ CS a h h' ∧ MZ g g' ∧ CX h' a n T b' ∧ MX g' n T b' ∧ PR h' g' a np ny nc ne nw := by
  have fin : ∀ (i b np ny nc ne nw : Nat) (h g : AH), i ≤ b → CX h a n T b → MX g n T b → PR h g a np ny nc ne nw → n ≤ b → ∃ h' g' b' np ny nc ne nw, am_R PG (d + 36) 76 31 [some (.ref 3), none, some (.int (nI i))] [] h = bV (am_C PG (d + 35) 54 [.ref a] h') (fun h5 => am_kd h5 3 7 (some (some (.int (hFI h5 603 3)), h5))) ∧ am_R PG (d2 + 7) 197 94 [some (.ref 348), none] [] g = some (some (.int 1), g') ∧ CS a h h' ∧ MZ g g' ∧ CX h' a n T b' ∧ MX g' n T b' ∧ PR h' g' a np ny nc ne nw := fun i b np ny nc ne nw h g hi c m P hn => by
    have t0 : tkS n T b = 0 := Classical.byContradiction fun z => by have := tkS_lt z; omega
    refine ⟨h, g, b, np, ny, nc, ne, nw, ?_, ?_, CS.rfl' a h, MZ.rfl' g, c, m, P⟩
    · obtain ⟨k3, k1, ka, k14, k17, kr2, kr4, kr5, kr6, kr7, kr8, kr9, kr10, kr11, kr12, kr13, kr18, kr21, kr22, kr24, nr2, nr4, nr5, nr6, nr7, nr8, nr9, nr10, nr11, nr12, nr13, nr18, nr21, nr22, nr24⟩ := c.kl
      obtain ⟨f600, f601, f500, f506, f508, f509, f510, f511, f512, f513, f514, f515, f516, f517, f518, f519, f701, f704, f705, f707⟩ := c.fr
      have e2 := c.ff.2.2.2.2.2.1
      rw [t0] at e2
      have z0 : (nI 0 = 0) = True := eq_true rfl
      rw [q_X6_readPost_31]
      by_cases q : nI i < (1000 : Int32)
      · simp only [am_kd, k3, k1, ka, f600, f601, eq_true q, if_true, bR_s, e2, z0]
      · simp only [am_kd, k3, ka, f601, eq_false q, if_true, if_false, bR_s]
    · have k0 := m.ff.1
      have e6 := m.ff.2.2.1
      rw [t0] at e6
      have z0 : (nI 0 = 0) = True := eq_true rfl
      rw [q_X12_readsAll_94]
      simp only [am_kd, k0, e6, z0, if_true, am_nar4_1]
  intro j
  induction j with
  | zero => exact fun i b np ny nc ne nw h g hj hi c m P => Or.inr (fin i b np ny nc ne nw h g hi c m P (by omega))
  | succ j ih =>
    intro i b np ny nc ne nw h g hj hi c m P
    by_cases hb : b < n
    · have hn := c.ff.2.2.2.2.2.2.2
      obtain ⟨k3, k1, ka, k14, k17, kr2, kr4, kr5, kr6, kr7, kr8, kr9, kr10, kr11, kr12, kr13, kr18, kr21, kr22, kr24, nr2, nr4, nr5, nr6, nr7, nr8, nr9, nr10, nr11, nr12, nr13, nr18, nr21, nr22, nr24⟩ := c.kl
      obtain ⟨f600, f601, f500, f506, f508, f509, f510, f511, f512, f513, f514, f515, f516, f517, f518, f519, f701, f704, f705, f707⟩ := c.fr
      have e2 := c.ff.2.2.2.2.2.1
      have lt : (nI i < (1000 : Int32)) = True := eq_true (nI_lt (b := 1000) (by omega) (by decide))
      have t0 : (nI (tkS n T b) = 0) = False := eq_false (fun z => by
        have z1 : tkS n T b = 0 := (nI_eq (b := 0) (by have := tkS_le n T b; omega) (by decide)).1 z
        have := tkS_b0 (T := T) hb
        omega)
      have kC : am_R PG (d + 36) 76 31 [some (.ref 3), none, some (.int (nI i))] [] h = bI (am_C PG (d + 35) 86 [.ref 3] h) (fun v h6 => if v = 0 then am_kd h6 3 7 (some (some (.int (hFI h6 603 3)), h6)) else am_R PG (d + 36) 76 31 [some (.ref 3), none, some (.int (nI (i + 1)))] [] h6) := by
        rw [q_X6_readPost_31]
        simp only [am_kd, k3, k1, f600, lt, if_true, bR_s, e2, t0, if_false, nI_1]
      obtain ⟨M, l1, L⟩ := ln_post (d := d) (d2 := d2) ha c m P hb
      rw [kC, l1]
      rcases L with ⟨f, h', g', f0, f1, f2, f3, f4⟩ | ⟨h', g', b', np', ny', nc', ne', nw', q1, q2, q3, q4, q5, q6, q7, q8⟩
      · left
        refine ⟨f, h', g', f0, ?_, ?_, f3, f4⟩
        · have kk : hK (sFI h' 603 3 f) 3 = 7 := by rw [rd_hK_sFI, f3.1]; exact k3
          rw [f1, bI_s, if_pos rfl, am_kd_t kk, sFI_at]
        · unfold mLine
          rw [f2, bI_s, if_pos rfl]
      · have e1 : bI (am_C PG (d + 35) 86 [.ref 3] h) (fun v h6 => if v = 0 then am_kd h6 3 7 (some (some (.int (hFI h6 603 3)), h6)) else am_R PG (d + 36) 76 31 [some (.ref 3), none, some (.int (nI (i + 1)))] [] h6) = am_R PG (d + 36) 76 31 [some (.ref 3), none, some (.int (nI (i + 1)))] [] h' := by
          rw [q1, bI_s, if_neg (by decide)]
        have e2 : mLine d2 M = am_R PG (d2 + 7) 197 94 [some (.ref 348), none] [] g' := by
          unfold mLine
          rw [q2, bI_s, if_neg (by decide)]
        rw [e1, e2]
        rcases ih (i + 1) b' np' ny' nc' ne' nw' h' g' (by omega) (by omega) q5 q6 q8 with ⟨f, h2, g2, f0, f1, f2, f3, f4⟩ | ⟨h2, g2, b2, a1, a2, a3, a4, a5, r1, r2, r3, r4, r5⟩
        · exact Or.inl ⟨f, h2, g2, f0, f1, f2, q3.1.tr f3, q4.tr f4⟩
        · exact Or.inr ⟨h2, g2, b2, a1, a2, a3, a4, a5, r1, r2, q3.tr r3, q4.tr r4, r5⟩
    · exact Or.inr (fin i b np ny nc ne nw h g hi c m P (by omega))
