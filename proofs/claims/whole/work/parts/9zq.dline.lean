/-! The reader: a line of days whole, both sides; all lines. -/
theorem Ld.nar {a n b np nc ne : Nat} {T : Nat → Nat} {h g : AH} {C M : Option Res} (L : Ld a n T b np nc ne h g C M) : Ld a n T b np nc ne h g (bI C fun v x => am_nar 4 v (some (some (.int v), x))) M := by
  rcases L with ⟨f, h', g', f0, f1, f2, f3⟩ | ⟨h', g', b', m', l1, l2⟩
  · exact Or.inl ⟨f, h', g', f0, by rw [f1, bI_s, am_nar4_0], f2, f3⟩
  · exact Or.inr ⟨h', g', b', m', by rw [l1, bI_s, am_nar4_1], l2⟩
/-- behind the word and the PERSON: the reference -/
theorem dy_head {d d2 a n b np nc ne m r l : Nat} {h g : AH} {T : Nat → Nat} (ha : a = 4 ∨ a = 30) (c : CX h a n T b) (mx : MX g n T b) (Y : Yd h g a np nc ne) (D : Dd h g np nc ne m) (hb : b < n) (hr : (r = 1000011 ∧ l = 0) ∨ (r = 1000019 ∧ l = 4) ∨ (r = 1000016 ∧ l = 1) ∨ (r = 1000017 ∧ l = 2) ∨ (r = 1000018 ∧ l = 3)) : Ld a n T b np nc ne h g (am_R PG (d + 6) 101 48 [some (.ref 3), some (.ref r), none, none] [.int (1 : Int32)] h) (am_R PG (d2 + 5) 203 71 [some (.ref 348), none, none] [.int (nI l)] g) := by
  have hl5 : l < 5 := by omega
  have hl : ¬ nI l < 0 := nI_nlt (b := 0) (Nat.zero_le l) (by omega)
  obtain ⟨D1, D2, D3, D4⟩ := id D
  have hms := mx.1.1
  have m0 := hms.1
  have f1248 : hFR _ 1248 348 = some 386 := (hms.2 37 (by decide)).1
  have k386 : hK _ 386 = 50 := (hms.2 37 (by decide)).2.1
  have n386 : hLN _ 386 = 6 := (hms.2 37 (by decide)).2.2
  have k3 := c.1
  have f600 := c.2.1
  have k1 := c.ff.2.2.2.1
  have f602 := Y.1
  have k56 : hK h 56 = 3 := Y.2.1.1
  have i5 : ∀ x, am_in (5 : Int32) 6 x = x := am_inN (i := 5) (by decide) (by decide)
  have t5 : Int32.toNatClampNeg (5 : Int32) = 5 := by decide
  by_cases hm : m < 40
  · have lt : nI m < (40 : Int32) := nI_lt (b := 40) hm (by decide)
    have ne : ¬ nI m = (40 : Int32) := fun z => by
      have := (nI_eq (b := 40) (show m < 2 ^ 31 by omega) (by decide)).1 z
      omega
    obtain ⟨h1, g1, x1, x2, x3, x4, c1, mx1⟩ := st_adv (d := d + 2) (d2 := d2 + 2) c mx
    have k31 : hK h1 3 = 7 := c1.1
    have hm1 := mx1.1.1
    have m1 : hK g1 348 = 13 := hm1.1
    have f1248' : hFR g1 1248 348 = some 386 := (hm1.2 37 (by decide)).1
    have k386' : hK g1 386 = 50 := (hm1.2 37 (by decide)).2.1
    have n386' : hLN g1 386 = 6 := (hm1.2 37 (by decide)).2.2
    have f1249' : hFR g1 1249 348 = some 387 := (hm1.2 38 (by decide)).1
    have k387' : hK g1 387 = 50 := (hm1.2 38 (by decide)).2.1
    have n387' : hLN g1 387 = 240 := (hm1.2 38 (by decide)).2.2
    have e5 : hAI g1 386 5 = nI m := by rw [x4.2.2.2.1]; exact D3
    have e200 : (200 : Int32) + nI m = nI (200 + m) := by rw [show (200 : Int32) = nI 200 from rfl, nI_add]
    obtain ⟨im, tm⟩ := ix2 hm
    have le := (nxt_le (T := T) c.le).2.1
    have Y1 := Y.tr ha x3.cd x4.md
    have D1' := D.ct x3 x4
    rw [q_X6_daysLine_48, if_neg (by decide), am_kd_t k3, f602, bR_s, am_kd_t k56, D2, if_pos lt, am_kd_t k3, f600, bR_s, am_kd_t k1, x1, bV_s, q_X12_readsLine_71, if_neg hl, am_kd_t m0, f1248, bR_s, am_kd_t k386, n386, i5, t5, D3, if_neg ne, am_kd_t m0, x2, bV_s, am_kd_t m1, f1248', bR_s, am_kd_t k386', n386', i5, am_kd_t m1, f1249', bR_s, am_kd_t k387', n387', e5, e200, im, am_let_e, tm]
    have M1 := MD.ei g1 (r := 387) (i := 200 + m) (nI l) (Or.inr ⟨by decide, by decide, by omega⟩)
    have mx5 := mx1.ei (r := 387) (200 + m) (nI l) (by decide)
    have Y5 := Y1.ei ha (r := 387) (m := m) (nI l) (by decide)
    have D5 := D1'.ei (r := 387) (nI l) (by decide)
    have e387 : hAI (sEI g1 387 (200 + m) (nI l)) 387 (200 + m) = nI l := by rw [sEI_at, pk_us]
    generalize sEI g1 387 (200 + m) (nI l) = g5 at M1 mx5 Y5 D5 e387 ⊢
    refine Ld.go x3.ce (x4.md.tr M1) (Ld.mono le ?_)
    have m5 : hK g5 348 = 13 := mx5.1.1.1
    by_cases c0 : l = 0
    · -- hour
      subst c0
      have r0 : r = 1000011 := by omega
      subst r0
      rw [am_wd_11, am_wd_11, if_pos rfl, am_kd_t k31, if_pos (show nI 0 = (0 : Int32) from rfl), show nI 0 = (0 : Int32) from rfl]
      exact (dy_hour ha c1 mx5 Y5 D5 hm e387).nar
    by_cases c4 : l = 4
    · -- steal
      subst c4
      have r0 : r = 1000019 := by omega
      subst r0
      rw [am_wd_19, am_wd_11, if_neg (show ¬ (1000019 : Nat) = 1000011 by decide), am_wd_19, am_wd_19, if_pos rfl, am_kd_t k31, if_neg (show ¬ nI 4 = (0 : Int32) by decide), if_pos (show nI 4 = (4 : Int32) from rfl)]
      have L := (dy_steal (d := d) (d2 := d2) ha c1 mx5 Y5 D5 hm e387).nar
      unfold mSteal at L
      rw [tm] at L
      exact L
    -- a person first
    have r1 : ¬ r = 1000011 := by omega
    have r4 : ¬ r = 1000019 := by omega
    have rr : 1000000 ≤ r ∧ r < 1000031 := by omega
    have wr : ∀ x, am_wd r x = x := fun x => if_pos (Or.inr rr)
    have l0 : ¬ nI l = (0 : Int32) := fun z => by
      have := (nI_eq (b := 0) (show l < 2 ^ 31 by omega) (by decide)).1 z
      omega
    have l4 : ¬ nI l = (4 : Int32) := fun z => by
      have := (nI_eq (b := 4) (show l < 2 ^ 31 by omega) (by decide)).1 z
      omega
    have f601 : hFR h1 601 3 = some a := c1.2.2.1
    have ka : hK h1 a = 6 := c1.2.2.2.1.1.1
    rw [wr, am_wd_11, if_neg r1, wr, am_wd_19, if_neg r4, am_kd_t k31, f601, bR_s, am_kd_t ka, am_kd_t k31, if_neg l0, if_neg l4, am_kd_t m5]
    rcases st_nx2 (d := d + 1) (d2 := d2) (mm := hFI h1 504 a) Y5.2.2.1.2.2.1 Y5.2.2.2.1.2.2 Y5.2.2.1.2.2.2.2.2 Y5.2.2.2.2.2.2 c1 mx5 with F | ⟨e, h2, g2, e1, y1, y2, y3, y4, y5, y6, c2, mx2, bn⟩
    · exact Ld.no (fun _ => rfl) (fun _ => rfl) F
    have z10 : ¬ ((1 : Int32) = 0) := by decide
    rw [y1, y2, bI_s, bI_s, if_neg z10, if_neg z10]
    have k32 : hK h2 3 = 7 := c2.1
    have hm2 := mx2.1.1
    have m2 : hK g2 348 = 13 := hm2.1
    have f1250' : hFR g2 1250 348 = some 388 := (hm2.2 39 (by decide)).1
    have k388' : hK g2 388 = 50 := (hm2.2 39 (by decide)).2.1
    have n388' : hLN g2 388 = 240 := (hm2.2 39 (by decide)).2.2
    have le2 := (nxt_le (T := T) c1.le).2.1
    have Y2 := Y5.tr ha y5.cd y6.md
    have D2' := D5.ct y5 y6
    have e387' : hAI g2 387 (200 + m) = nI l := by rw [y6.2.2.2.1]; exact e387
    rw [am_kd_t k32, wr, am_kd_t m2, f1250', bR_s, am_kd_t m2, am_kd_t k388', n388', im, am_let_e, y3, y4]
    have M2 := MD.ei g2 (r := 388) (i := 200 + m) (nI e) (Or.inr ⟨by decide, by decide, by omega⟩)
    have mx6 := mx2.ei (r := 388) (200 + m) (nI e) (by decide)
    have Y6 := Y2.ei ha (r := 388) (m := m) (nI e) (by decide)
    have D6 := D2'.ei (r := 388) (nI e) (by decide)
    have e388 : hAI (sEI g2 388 (200 + m) (nI e)) 388 (200 + m) = nI e := by rw [sEI_at, pk_us]
    have e387'' : hAI (sEI g2 388 (200 + m) (nI e)) 387 (200 + m) = nI l := by rw [sEI_ne _ _ _ (by decide)]; exact e387'
    generalize sEI g2 388 (200 + m) (nI e) = g6 at M2 mx6 Y6 D6 e388 e387'' ⊢
    refine Ld.go y5.ce (y6.md.tr M2) (Ld.mono le2 ?_)
    by_cases c1' : l = 1
    · subst c1'
      have r0 : r = 1000016 := by omega
      subst r0
      rw [am_wd_16, if_pos rfl, am_kd_t k32, show nI 1 = (1 : Int32) from rfl]
      exact (dy_pour ha c2 mx6 Y6 D6 hm e387'' e1 e388).nar
    by_cases c2' : l = 2
    · subst c2'
      have r0 : r = 1000017 := by omega
      subst r0
      rw [am_wd_16, if_neg (show ¬ (1000017 : Nat) = 1000016 by decide), am_wd_17, am_wd_17, if_pos rfl, am_kd_t k32, show nI 2 = (2 : Int32) from rfl]
      exact (dy_draw ha c2 mx6 Y6 D6 hm e387'' e1 e388).nar
    · have c3' : l = 3 := by omega
      subst c3'
      have r0 : r = 1000018 := by omega
      subst r0
      rw [am_wd_16, if_neg (show ¬ (1000018 : Nat) = 1000016 by decide), am_wd_18, am_wd_17, if_neg (show ¬ (1000018 : Nat) = 1000017 by decide), am_kd_t k32, show nI 3 = (3 : Int32) from rfl]
      exact (dy_go ha c2 mx6 Y6 D6 hm e387'' e1 e388).nar
  · -- a 41st line
    have hm40 : m = 40 := by omega
    subst hm40
    have lt : ¬ nI 40 < (40 : Int32) := by decide
    rw [q_X6_daysLine_48, if_neg (by decide), am_kd_t k3, f602, bR_s, am_kd_t k56, D2, if_neg lt, am_kd_t k3, q_X12_readsLine_71, if_neg hl, am_kd_t m0, f1248, bR_s, am_kd_t k386, n386, i5, t5, D3, if_pos (show nI 40 = (40 : Int32) from rfl), am_kd_t m0]
    exact Ld.no (fun _ => rfl) (fun _ => rfl) (st_fail (d := d + 4) (d2 := d2 + 3) c mx (k := 5) rfl (by decide) (by decide))

theorem dy_line {d d2 a n b np nc ne m : Nat} {h g : AH} {T : Nat → Nat} (ha : a = 4 ∨ a = 30) (c : CX h a n T b) (mx : MX g n T b) (Y : Yd h g a np nc ne) (D : Dd h g np nc ne m) (hb : b < n) : Ld a n T b np nc ne h g (am_C PG (d + 6) 101 [.ref 3] h) (am_C PG (d2 + 5) 203 [.ref 348] g) := by
  have k3 := c.1
  have f600 := c.2.1
  have k1 := c.ff.2.2.2.1
  have m0 := mx.ff.1
  have ew := c.wd
  have z1 : ¬ ((1 : Int32) = 0) := by decide
  have w11 := m_isWord (d := d2 + 3) mx (w := 168984) (by decide)
  have w16 := m_isWord (d := d2 + 3) mx (w := 326448) (by decide)
  have w17 := m_isWord (d := d2 + 3) mx (w := 91904) (by decide)
  have w18 := m_isWord (d := d2 + 3) mx (w := 204) (by decide)
  have w19 := m_isWord (d := d2 + 3) mx (w := 10494723) (by decide)
  rw [q_X6_daysLine, am_kd_t k3, f600, bR_s, am_kd_t k1, ew, am_wd_w, q_X12_readsLine]
  by_cases s11 : wrd n T b = 168984
  · have er : wdo (wrd n T b) 31 0 = 1000011 := by rw [wd_11]; exact s11
    rw [er, am_wd_11, if_pos rfl]
    rw [am_kd_t m0, w11, if_pos s11, bI_s, if_neg z1]
    exact dy_head (d := d) (d2 := d2) (l := 0) ha c mx Y D hb (by decide)
  by_cases s16 : wrd n T b = 326448
  · have er : wdo (wrd n T b) 31 0 = 1000016 := by rw [wd_16]; exact s16
    rw [er, am_wd_11, if_neg (show ¬ (1000016 : Nat) = 1000011 by decide), am_wd_16, am_wd_16, if_pos rfl]
    rw [am_kd_t m0, w11, if_neg s11, bI_s, if_pos rfl, am_kd_t m0, w16, if_pos s16, bI_s, if_neg z1]
    exact dy_head (d := d) (d2 := d2) (l := 1) ha c mx Y D hb (by decide)
  by_cases s17 : wrd n T b = 91904
  · have er : wdo (wrd n T b) 31 0 = 1000017 := by rw [wd_17]; exact s17
    rw [er, am_wd_11, if_neg (show ¬ (1000017 : Nat) = 1000011 by decide), am_wd_17, am_wd_16, if_neg (show ¬ (1000017 : Nat) = 1000016 by decide), am_wd_17, am_wd_17, if_pos rfl]
    rw [am_kd_t m0, w11, if_neg s11, bI_s, if_pos rfl, am_kd_t m0, w16, if_neg s16, bI_s, if_pos rfl, am_kd_t m0, w17, if_pos s17, bI_s, if_neg z1]
    exact dy_head (d := d) (d2 := d2) (l := 2) ha c mx Y D hb (by decide)
  by_cases s18 : wrd n T b = 204
  · have er : wdo (wrd n T b) 31 0 = 1000018 := by rw [wd_18]; exact s18
    rw [er, am_wd_11, if_neg (show ¬ (1000018 : Nat) = 1000011 by decide), am_wd_18, am_wd_16, if_neg (show ¬ (1000018 : Nat) = 1000016 by decide), am_wd_18, am_wd_17, if_neg (show ¬ (1000018 : Nat) = 1000017 by decide), am_wd_18, am_wd_18, if_pos rfl]
    rw [am_kd_t m0, w11, if_neg s11, bI_s, if_pos rfl, am_kd_t m0, w16, if_neg s16, bI_s, if_pos rfl, am_kd_t m0, w17, if_neg s17, bI_s, if_pos rfl, am_kd_t m0, w18, if_pos s18, bI_s, if_neg z1]
    exact dy_head (d := d) (d2 := d2) (l := 3) ha c mx Y D hb (by decide)
  by_cases s19 : wrd n T b = 10494723
  · have er : wdo (wrd n T b) 31 0 = 1000019 := by rw [wd_19]; exact s19
    rw [er, am_wd_11, if_neg (show ¬ (1000019 : Nat) = 1000011 by decide), am_wd_19, am_wd_16, if_neg (show ¬ (1000019 : Nat) = 1000016 by decide), am_wd_19, am_wd_17, if_neg (show ¬ (1000019 : Nat) = 1000017 by decide), am_wd_19, am_wd_18, if_neg (show ¬ (1000019 : Nat) = 1000018 by decide), am_wd_19, am_wd_19, if_pos rfl]
    rw [am_kd_t m0, w11, if_neg s11, bI_s, if_pos rfl, am_kd_t m0, w16, if_neg s16, bI_s, if_pos rfl, am_kd_t m0, w17, if_neg s17, bI_s, if_pos rfl, am_kd_t m0, w18, if_neg s18, bI_s, if_pos rfl, am_kd_t m0, w19, if_pos s19, bI_s, if_neg z1]
    exact dy_head (d := d) (d2 := d2) (l := 4) ha c mx Y D hb (by decide)
  · -- no line begins so
    rw [am_wd_11, if_neg (show ¬ wdo (wrd n T b) 31 0 = 1000011 by rw [wd_11]; exact s11), am_wd_w, am_wd_16, if_neg (show ¬ wdo (wrd n T b) 31 0 = 1000016 by rw [wd_16]; exact s16), am_wd_w, am_wd_17, if_neg (show ¬ wdo (wrd n T b) 31 0 = 1000017 by rw [wd_17]; exact s17), am_wd_w, am_wd_18, if_neg (show ¬ wdo (wrd n T b) 31 0 = 1000018 by rw [wd_18]; exact s18), am_wd_w, am_wd_19, if_neg (show ¬ wdo (wrd n T b) 31 0 = 1000019 by rw [wd_19]; exact s19)]
    rw [am_kd_t m0, w11, if_neg s11, bI_s, if_pos rfl, am_kd_t m0, w16, if_neg s16, bI_s, if_pos rfl, am_kd_t m0, w17, if_neg s17, bI_s, if_pos rfl, am_kd_t m0, w18, if_neg s18, bI_s, if_pos rfl, am_kd_t m0, w19, if_neg s19, bI_s, if_pos rfl]
    rw [q_X6_daysLine_48, if_pos rfl, am_kd_t k3, q_X12_readsLine_71, if_pos (by decide), am_kd_t m0]
    exact Ld.no (fun _ => rfl) (fun _ => rfl) (st_fail (d := d + 4) (d2 := d2 + 3) c mx (k := 1) rfl (by decide) (by decide))
/-- all lines -/
theorem days_loop {d d2 a n np nc ne : Nat} {T : Nat → Nat} (ha : a = 4 ∨ a = 30) : ∀ (j i b m : Nat) (h g : AH), n ≤ b + j → i ≤ b → CX h a n T b → MX g n T b → Yd h g a np nc ne → Dd h g np nc ne m →
    (∃ f h' g', f ≠ 0 ∧ am_R PG (d + 7) 77 32 [some (.ref 3), none, none, some (.int (nI i))] [] h = some (some (.int f), h') ∧ am_R PG (d2 + 6) 208 16 [some (.ref 348)] [] g = some (some (.int f), g') ∧ CD h h' ∧ MD g g') ∨
    ∃ h' g' b' m', am_R PG (d + 7) 77 32 [some (.ref 3), none, none, some (.int (nI i))] [] h = some (some (.int (hFI h 603 3)), h') ∧ am_R PG (d2 + 6) 208 16 [some (.ref 348)] [] g = bV (am_C PG (d2 + 5) 204 [.ref 348, .int (5 : Int32), .int (0 : Int32)] g') (fun h1 => some (some (.int (0 : Int32)), h1)) ∧ CDk h h' ∧ MD g g' ∧ CX h' a n T b' ∧ MX g' n T b' ∧ Dd h' g' np nc ne m' := by
  have fin : ∀ (i b m : Nat) (h g : AH), i ≤ b → CX h a n T b → MX g n T b → Dd h g np nc ne m → n ≤ b → ∃ h' g' b' m', am_R PG (d + 7) 77 32 [some (.ref 3), none, none, some (.int (nI i))] [] h = some (some (.int (hFI h 603 3)), h') ∧ am_R PG (d2 + 6) 208 16 [some (.ref 348)] [] g = bV (am_C PG (d2 + 5) 204 [.ref 348, .int (5 : Int32), .int (0 : Int32)] g') (fun h1 => some (some (.int (0 : Int32)), h1)) ∧ CDk h h' ∧ MD g g' ∧ CX h' a n T b' ∧ MX g' n T b' ∧ Dd h' g' np nc ne m' := fun i b m h g hi c mx D hn => by
    have t0 : tkS n T b = 0 := Classical.byContradiction fun z => by have := tkS_lt z; omega
    refine ⟨h, g, b, m, ?_, ?_, CDk.rfl' h, MD.rfl' g, c, mx, D⟩
    · have k3 := c.1
      have f600 := c.2.1
      have k1 := c.ff.2.2.2.1
      have e2 := c.ff.2.2.2.2.2.1
      rw [t0] at e2
      rw [q_X6_readDays_32]
      by_cases q : nI i < (1000 : Int32)
      · rw [if_pos q, am_kd_t k3, f600, bR_s, am_kd_t k1, e2, nI_0, if_pos rfl, am_kd_t k3]
      · rw [if_neg q, am_kd_t k3]
    · have k0 := mx.ff.1
      have e6 := mx.ff.2.2.1
      rw [t0] at e6
      rw [q_X12_days_16, am_kd_t k0, e6, nI_0, if_pos rfl, am_kd_t k0]
  intro j
  induction j with
  | zero => exact fun i b m h g hj hi c mx Y D => Or.inr (fin i b m h g hi c mx D (by omega))
  | succ j ih =>
    intro i b m h g hj hi c mx Y D
    by_cases hb : b < n
    · have hn := c.ff.2.2.2.2.2.2.2
      have k3 := c.1
      have f600 := c.2.1
      have k1 := c.ff.2.2.2.1
      have k0 := mx.ff.1
      have e2 := c.ff.2.2.2.2.2.1
      have e6 := mx.ff.2.2.1
      have lt : nI i < (1000 : Int32) := nI_lt (b := 1000) (by omega) (by decide)
      have t0 : ¬ nI (tkS n T b) = 0 := fun z => by
        have z1 : tkS n T b = 0 := (nI_eq (b := 0) (by have := tkS_le n T b; omega) (by decide)).1 z
        have := tkS_b0 (T := T) hb
        omega
      rw [q_X6_readDays_32, if_pos lt, am_kd_t k3, f600, bR_s, am_kd_t k1, e2, if_neg t0, am_kd_t k3, q_X12_days_16, am_kd_t k0, e6, if_neg t0, am_kd_t k0, nI_1]
      rcases dy_line (d := d) (d2 := d2) ha c mx Y D hb with ⟨f, h', g', f0, f1, f2, f3, f4⟩ | ⟨h', g', b', m', q1, q2, q3, q4, q5, q6, q7, q8⟩
      · left
        have kk : hK (sFI h' 603 3 f) 3 = 7 := by rw [rd_hK_sFI, f3.1]; exact k3
        have kg : hK (sFI g' 1209 348 f) 348 = 13 := by rw [rd_hK_sFI, f4.1]; exact k0
        refine ⟨f, sFI h' 603 3 f, sFI g' 1209 348 f, f0, ?_, ?_, f3.tr (CD.f3 h' f), f4.tr (MD.f9 g' f)⟩
        · rw [f1, bI_s, if_pos rfl, am_kd_t kk, sFI_at]
        · rw [f2, bI_s, if_pos rfl, am_kd_t kg, sFI_at]
      · rw [q1, q2, bI_s, bI_s, if_neg (by decide), if_neg (by decide), ← q3.2]
        rcases ih (i + 1) b' m' h' g' (by omega) (by omega) q5 q6 (Y.tr ha q3.1 q4) q8 with ⟨f, h2, g2, f0, f1, f2, f3, f4⟩ | ⟨h2, g2, b2, m2, r1, r2, r3, r4, r5⟩
        · exact Or.inl ⟨f, h2, g2, f0, f1, f2, q3.1.tr f3, q4.tr f4⟩
        · exact Or.inr ⟨h2, g2, b2, m2, r1, r2, q3.tr r3, q4.tr r4, r5⟩
    · exact Or.inr (fin i b m h g hi c mx D (by omega))
