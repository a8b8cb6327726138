/-! The reader: the lines of days, both sides. -/
theorem st_nx0 {d d2 a n b cnt : Nat} {h g : AH} {T : Nat → Nat} {mm : Int32} (hmm : mm = nI cnt) (hc : hAI g 350 0 = nI cnt) (hn : cnt ≤ 5) (hN : ∀ i, i < cnt → hAJ h (a + 1) (i) = hAJ g 351 i) (c : CX h a n T b) (m : MX g n T b) :
    Fb h g (am_C PG (d + 4) 83 [.ref 3, .int 0, .int mm] h) (am_C PG (d2 + 4) 202 [.ref 348, .int 0, .int 0] g) ∨
    ∃ i h' g', i < cnt ∧ am_C PG (d + 4) 83 [.ref 3, .int 0, .int mm] h = some (some (.int 1), h') ∧ am_C PG (d2 + 4) 202 [.ref 348, .int 0, .int 0] g = some (some (.int 1), g') ∧ hFI h' 605 3 = nI i ∧ hFI g' 1246 348 = nI i ∧ CT h h' ∧ MT g g' ∧ CX h' a n T (nxt n T b) ∧ MX g' n T (nxt n T b) ∧ b < n := by
  have k0 := m.ff.1
  rcases st_told0 (d := d) (d2 := d2) (r := 0) (rr := 0) (ff := 0) (mm := mm) rfl hmm rfl (by decide) hc hn (fun j hj => by rw [show 5 * 0 + j = j by omega]; exact hN j hj) c m with ⟨f, h', g', f0, f1, f2, f3, f4⟩ | ⟨i, h', g1, g', i1, x1, x2, x3, x4, x5, x6, x7, x8, x9, x10, x11, x12⟩
  · left
    refine ⟨f, h', g', f0, f1, ?_, f3, f4⟩
    rw [q_X12_needsNext, am_kd_t k0, f2, bI_s, if_pos rfl, am_nar4_0]
  · right
    refine ⟨i, h', g', i1, x1, ?_, x6, x7, x8, x9, x10, x11, x12⟩
    rw [q_X12_needsNext, am_kd_t k0, x2, bI_s, if_neg (by decide), am_kd_t x4, x3, bV_s, am_nar4_1]
theorem st_nx1 {d d2 a n b cnt : Nat} {h g : AH} {T : Nat → Nat} {mm : Int32} (hmm : mm = nI cnt) (hc : hAI g 350 2 = nI cnt) (hn : cnt ≤ 6) (hN : ∀ i, i < cnt → hAJ h (a + 1) (5 + i) = hAJ g 352 i) (c : CX h a n T b) (m : MX g n T b) :
    Fb h g (am_C PG (d + 4) 83 [.ref 3, .int 5, .int mm] h) (am_C PG (d2 + 4) 202 [.ref 348, .int 0, .int 1] g) ∨
    ∃ i h' g', i < cnt ∧ am_C PG (d + 4) 83 [.ref 3, .int 5, .int mm] h = some (some (.int 1), h') ∧ am_C PG (d2 + 4) 202 [.ref 348, .int 0, .int 1] g = some (some (.int 1), g') ∧ hFI h' 605 3 = nI i ∧ hFI g' 1246 348 = nI i ∧ CT h h' ∧ MT g g' ∧ CX h' a n T (nxt n T b) ∧ MX g' n T (nxt n T b) ∧ b < n := by
  have k0 := m.ff.1
  rcases st_told1 (d := d) (d2 := d2) (r := 0) (rr := 0) (ff := 5) (mm := mm) rfl hmm rfl (by decide) hc hn (fun j hj => by rw [show 6 * 0 + j = j by omega]; exact hN j hj) c m with ⟨f, h', g', f0, f1, f2, f3, f4⟩ | ⟨i, h', g1, g', i1, x1, x2, x3, x4, x5, x6, x7, x8, x9, x10, x11, x12⟩
  · left
    refine ⟨f, h', g', f0, f1, ?_, f3, f4⟩
    rw [q_X12_needsNext, am_kd_t k0, f2, bI_s, if_pos rfl, am_nar4_0]
  · right
    refine ⟨i, h', g', i1, x1, ?_, x6, x7, x8, x9, x10, x11, x12⟩
    rw [q_X12_needsNext, am_kd_t k0, x2, bI_s, if_neg (by decide), am_kd_t x4, x3, bV_s, am_nar4_1]
theorem st_nx2 {d d2 a n b cnt : Nat} {h g : AH} {T : Nat → Nat} {mm : Int32} (hmm : mm = nI cnt) (hc : hAI g 350 3 = nI cnt) (hn : cnt ≤ 4) (hN : ∀ i, i < cnt → hAJ h (a + 1) (11 + i) = hAJ g 353 i) (c : CX h a n T b) (m : MX g n T b) :
    Fb h g (am_C PG (d + 4) 83 [.ref 3, .int 11, .int mm] h) (am_C PG (d2 + 4) 202 [.ref 348, .int 0, .int 2] g) ∨
    ∃ i h' g', i < cnt ∧ am_C PG (d + 4) 83 [.ref 3, .int 11, .int mm] h = some (some (.int 1), h') ∧ am_C PG (d2 + 4) 202 [.ref 348, .int 0, .int 2] g = some (some (.int 1), g') ∧ hFI h' 605 3 = nI i ∧ hFI g' 1246 348 = nI i ∧ CT h h' ∧ MT g g' ∧ CX h' a n T (nxt n T b) ∧ MX g' n T (nxt n T b) ∧ b < n := by
  have k0 := m.ff.1
  rcases st_told2 (d := d) (d2 := d2) (r := 0) (rr := 0) (ff := 11) (mm := mm) rfl hmm rfl (by decide) hc hn (fun j hj => by rw [show 4 * 0 + j = j by omega]; exact hN j hj) c m with ⟨f, h', g', f0, f1, f2, f3, f4⟩ | ⟨i, h', g1, g', i1, x1, x2, x3, x4, x5, x6, x7, x8, x9, x10, x11, x12⟩
  · left
    refine ⟨f, h', g', f0, f1, ?_, f3, f4⟩
    rw [q_X12_needsNext, am_kd_t k0, f2, bI_s, if_pos rfl, am_nar4_0]
  · right
    refine ⟨i, h', g', i1, x1, ?_, x6, x7, x8, x9, x10, x11, x12⟩
    rw [q_X12_needsNext, am_kd_t k0, x2, bI_s, if_neg (by decide), am_kd_t x4, x3, bV_s, am_nar4_1]
theorem ix2 {m : Nat} (hm : m < 40) : (∀ x, am_in (nI (200 + m)) 240 x = x) ∧ Int32.toNatClampNeg (nI (200 + m)) = 200 + m := ⟨am_inN (by omega) (by decide), nI_clamp (by omega)⟩
theorem Yd.ei {h g : AH} {a np nc ne m r : Nat} (ha : a = 4 ∨ a = 30) (v : Int32) (hr : 387 ≤ r ∧ r ≤ 390) (s : Yd h g a np nc ne) : Yd h (sEI g r (200 + m) v) a np nc ne := s.tr ha (CD.rfl' h) (MD.ei g v (Or.inr ⟨hr.1, hr.2, by omega⟩))
/-- steal, the reference: behind the word -/
theorem dy_hour {d d2 a n b np nc ne m : Nat} {h g : AH} {T : Nat → Nat} (ha : a = 4 ∨ a = 30) (c : CX h a n T b) (mx : MX g n T b) (Y : Yd h g a np nc ne) (D : Dd h g np nc ne m) (hm : m < 40) (e : hAI g 387 (200 + m) = 0) : Ld a n T b np nc ne h g (am_C PG (d + 5) 102 [.ref 3] h) (am_R PG (d2 + 5) 203 155 [some (.ref 348), some (.int 0), some (.int (nI (200 + m)))] [] g) := by
  have k3 : hK h 3 = 7 := c.1
  have L := dy_num (d := d) (d2 := d2) (l1 := 0) (uu := 24) (u := 24) (a0 := 0) (a1 := -1) (a2 := -1) ha c mx Y D hm rfl (Or.inl ⟨rfl, rfl⟩) (fun v v1 v2 => Or.inl ⟨rfl, e, rfl, v, v2, rfl⟩)
  rw [q_X6_hourLine, am_kd_t k3, q_X12_readsLine_155, if_neg (by decide), if_neg (by decide)]
  exact L
theorem nI_rng {v : Nat} (h1 : 1 ≤ v) (h2 : v ≤ 999) : ¬ nI v < 1 ∧ ¬ (999 : Int32) < nI v := ⟨nI_nlt (b := 1) h1 (by omega), nI_nlt (a := 999) h2 (by decide)⟩
theorem dy_draw {d d2 a n b np nc ne m e : Nat} {h g : AH} {T : Nat → Nat} (ha : a = 4 ∨ a = 30) (c : CX h a n T b) (mx : MX g n T b) (Y : Yd h g a np nc ne) (D : Dd h g np nc ne m) (hm : m < 40) (e7 : hAI g 387 (200 + m) = 2) (he : e < ne) (e8 : hAI g 388 (200 + m) = nI e) : Ld a n T b np nc ne h g (am_C PG (d + 5) 104 [.ref 3, .int (nI e)] h) (am_R PG (d2 + 5) 203 155 [some (.ref 348), some (.int 2), some (.int (nI (200 + m)))] [] g) := by
  have k3 : hK h 3 = 7 := c.1
  have L := dy_num (d := d) (d2 := d2) (l1 := 2) (uu := 999) (u := 999) (a0 := 2) (a1 := nI e) (a2 := -1) ha c mx Y D hm rfl (Or.inr ⟨by decide, by decide, rfl⟩) (fun v v1 v2 => Or.inr (Or.inr (Or.inl ⟨rfl, e7, ⟨e, he, rfl, e8⟩, rfl, (nI_rng v1 v2).1, (nI_rng v1 v2).2⟩)))
  rw [q_X6_drawLine, am_kd_t k3, q_X12_readsLine_155, if_neg (by decide), if_neg (by decide)]
  exact L
theorem dy_pour {d d2 a n b np nc ne m e : Nat} {h g : AH} {T : Nat → Nat} (ha : a = 4 ∨ a = 30) (c : CX h a n T b) (mx : MX g n T b) (Y : Yd h g a np nc ne) (D : Dd h g np nc ne m) (hm : m < 40) (e7 : hAI g 387 (200 + m) = 1) (he : e < ne) (e8 : hAI g 388 (200 + m) = nI e) : Ld a n T b np nc ne h g (am_C PG (d + 5) 103 [.ref 3, .int 1, .int (nI e)] h) (am_R PG (d2 + 5) 203 155 [some (.ref 348), some (.int 1), some (.int (nI (200 + m)))] [] g) := by
  have k3 : hK h 3 = 7 := c.1
  have f601 : hFR h 601 3 = some a := c.2.2.1
  have ka : hK h a = 6 := c.2.2.2.1.1.1
  have m0 := mx.ff.1
  rw [q_X6_clockDeed, am_kd_t k3, f601, bR_s, am_kd_t ka, am_kd_t k3, q_X12_readsLine_155, if_pos rfl, if_pos rfl, am_kd_t m0]
  rcases st_nx1 (d := d) (d2 := d2) (mm := hFI h 503 a) Y.2.2.1.2.1 Y.2.2.2.1.2.1 Y.2.2.1.2.2.2.2.1 Y.2.2.2.2.2.1 c mx with F | ⟨i, h1, g1, i1, x1, x2, x3, x4, x5, x6, c1, mx1, bn⟩
  · exact Ld.no (fun _ => rfl) (fun _ => rfl) F
  rw [x1, x2, bI_s, bI_s, if_neg (by decide), if_neg (by decide)]
  refine Ld.go x5.ce x6.md ?_
  have k31 : hK h1 3 = 7 := c1.1
  have hm1 := mx1.1.1
  have m0 := hm1.1
  have f1251 : hFR _ 1251 348 = some 389 := (hm1.2 40 (by decide)).1
  have k389 : hK _ 389 = 50 := (hm1.2 40 (by decide)).2.1
  have n389 : hLN _ 389 = 240 := (hm1.2 40 (by decide)).2.2
  obtain ⟨im, tm⟩ := ix2 hm
  have eg : hAI g1 = hAI g := x6.2.2.2.1
  have Y1 := Y.tr ha x5.cd x6.md
  have D1 := D.ct x5 x6
  have le := (nxt_le (T := T) c.le).2.1
  rw [am_kd_t k31, am_kd_t k31, am_kd_t m0, f1251, bR_s, am_kd_t m0, am_kd_t k389, n389, im, am_let_e, tm, x3, x4]
  refine Ld.go (CDk.rfl' h1) (MD.ei g1 (r := 389) (i := 200 + m) (nI i) (Or.inr ⟨by decide, by decide, by omega⟩)) ?_
  refine Ld.mono le (dy_num (d := d) (d2 := d2) (l1 := 1) (uu := 999) (u := 999) (a0 := 1) (a1 := nI e) (a2 := nI i) ha c1 (mx1.ei (r := 389) (200 + m) (nI i) (by decide)) (Y1.ei ha (nI i) (by decide)) (D1.ei (r := 389) (nI i) (by decide)) hm rfl (Or.inr ⟨by decide, by decide, rfl⟩) (fun v v1 v2 => Or.inr (Or.inl ⟨rfl, ?_, ⟨e, he, rfl, ?_⟩, ⟨i, i1, rfl, ?_⟩, rfl, (nI_rng v1 v2).1, (nI_rng v1 v2).2⟩)))
  · rw [sEI_ne _ _ _ (by decide), eg]; exact e7
  · rw [sEI_ne _ _ _ (by decide), eg]; exact e8
  · rw [sEI_at, pk_us]
/-- steal: the reference stands behind its word -/
noncomputable def mSteal (d2 m : Nat) (g : AH) : Option Res := am_kd g 348 13 (bI (am_C PG (d2 + 4) 202 [.ref 348, .int (0 : Int32), .int (1 : Int32)] g) fun v11 h10 => if v11 = 0 then (am_nar 4 (0 : Int32) (some (some (.int (0 : Int32)), h10))) else (am_kd h10 348 13 (bR (hFR h10 1250 348) fun r12 => am_kd h10 348 13 (am_kd h10 r12 50 (am_in (nI (200 + m)) (hLN h10 r12) (am_let (sEI h10 r12 (Int32.toNatClampNeg (nI (200 + m))) (hFI h10 1246 348)) fun h13 => am_R PG (d2 + 5) 203 155 [some (.ref 348), some (.int 4), some (.int (nI (200 + m)))] [] h13))))))
theorem dy_steal {d d2 a n b np nc ne m : Nat} {h g : AH} {T : Nat → Nat} (ha : a = 4 ∨ a = 30) (c : CX h a n T b) (mx : MX g n T b) (Y : Yd h g a np nc ne) (D : Dd h g np nc ne m) (hm : m < 40) (e7 : hAI g 387 (200 + m) = 4) : Ld a n T b np nc ne h g (am_C PG (d + 5) 103 [.ref 3, .int 4, .int (-1)] h) (mSteal d2 m g) := by
  have k3 : hK h 3 = 7 := c.1
  have f601 : hFR h 601 3 = some a := c.2.2.1
  have ka : hK h a = 6 := c.2.2.2.1.1.1
  have m0 := mx.ff.1
  unfold mSteal
  rw [q_X6_clockDeed, am_kd_t k3, f601, bR_s, am_kd_t ka, am_kd_t k3, am_kd_t m0]
  rcases st_nx1 (d := d) (d2 := d2) (mm := hFI h 503 a) Y.2.2.1.2.1 Y.2.2.2.1.2.1 Y.2.2.1.2.2.2.2.1 Y.2.2.2.2.2.1 c mx with F | ⟨i, h1, g1, i1, x1, x2, x3, x4, x5, x6, c1, mx1, bn⟩
  · exact Ld.no (fun _ => rfl) (fun _ => rfl) F
  rw [x1, x2, bI_s, bI_s, if_neg (by decide), if_neg (by decide)]
  refine Ld.go x5.ce x6.md ?_
  have k31 : hK h1 3 = 7 := c1.1
  have hm1 := mx1.1.1
  have m0 := hm1.1
  have f1250 : hFR _ 1250 348 = some 388 := (hm1.2 39 (by decide)).1
  have k388 : hK _ 388 = 50 := (hm1.2 39 (by decide)).2.1
  have n388 : hLN _ 388 = 240 := (hm1.2 39 (by decide)).2.2
  obtain ⟨im, tm⟩ := ix2 hm
  have eg : hAI g1 = hAI g := x6.2.2.2.1
  have Y1 := Y.tr ha x5.cd x6.md
  have D1 := D.ct x5 x6
  have le := (nxt_le (T := T) c.le).2.1
  rw [am_kd_t k31, am_kd_t k31, am_kd_t m0, f1250, bR_s, am_kd_t m0, am_kd_t k388, n388, im, am_let_e, tm, x3, x4, q_X12_readsLine_155, if_neg (by decide), if_neg (by decide)]
  refine Ld.go (CDk.rfl' h1) (MD.ei g1 (r := 388) (i := 200 + m) (nI i) (Or.inr ⟨by decide, by decide, by omega⟩)) ?_
  refine Ld.mono le (dy_num (d := d) (d2 := d2) (l1 := 4) (uu := 999) (u := 999) (a0 := 4) (a1 := -1) (a2 := nI i) ha c1 (mx1.ei (r := 388) (200 + m) (nI i) (by decide)) (Y1.ei ha (nI i) (by decide)) (D1.ei (r := 388) (nI i) (by decide)) hm rfl (Or.inr ⟨by decide, by decide, rfl⟩) (fun v v1 v2 => Or.inr (Or.inr (Or.inr (Or.inr ⟨rfl, ?_, ⟨i, i1, rfl, ?_⟩, rfl, (nI_rng v1 v2).1, (nI_rng v1 v2).2⟩)))))
  · rw [sEI_ne _ _ _ (by decide), eg]; exact e7
  · rw [sEI_at, pk_us]
theorem dy_go {d d2 a n b np nc ne m e : Nat} {h g : AH} {T : Nat → Nat} (ha : a = 4 ∨ a = 30) (c : CX h a n T b) (mx : MX g n T b) (Y : Yd h g a np nc ne) (D : Dd h g np nc ne m) (hm : m < 40) (e7 : hAI g 387 (200 + m) = 3) (he : e < ne) (e8 : hAI g 388 (200 + m) = nI e) : Ld a n T b np nc ne h g (am_C PG (d + 5) 105 [.ref 3, .int (nI e)] h) (am_R PG (d2 + 5) 203 155 [some (.ref 348), some (.int 3), some (.int (nI (200 + m)))] [] g) := by
  have k3 : hK h 3 = 7 := c.1
  have f601 : hFR h 601 3 = some a := c.2.2.1
  have ka : hK h a = 6 := c.2.2.2.1.1.1
  have m0 := mx.ff.1
  rw [q_X6_goLine, am_kd_t k3, f601, bR_s, am_kd_t ka, am_kd_t k3, q_X12_readsLine_155, if_neg (by decide), if_pos rfl, if_neg (by decide), am_kd_t m0]
  rcases st_nx0 (d := d) (d2 := d2) (mm := hFI h 501 a) Y.2.2.1.1 Y.2.2.2.1.1 Y.2.2.1.2.2.2.1 Y.2.2.2.2.1 c mx with F | ⟨i, h1, g1, i1, x1, x2, x3, x4, x5, x6, c1, mx1, bn⟩
  · exact Ld.no (fun _ => rfl) (fun _ => rfl) F
  rw [x1, x2, bI_s, bI_s, if_neg (by decide), if_neg (by decide)]
  refine Ld.go x5.ce x6.md ?_
  have k31 : hK h1 3 = 7 := c1.1
  have hm1 := mx1.1.1
  have m0 := hm1.1
  have f1251 : hFR _ 1251 348 = some 389 := (hm1.2 40 (by decide)).1
  have k389 : hK _ 389 = 50 := (hm1.2 40 (by decide)).2.1
  have n389 : hLN _ 389 = 240 := (hm1.2 40 (by decide)).2.2
  obtain ⟨im, tm⟩ := ix2 hm
  have eg : hAI g1 = hAI g := x6.2.2.2.1
  have Y1 := Y.tr ha x5.cd x6.md
  have D1 := D.ct x5 x6
  have le := (nxt_le (T := T) c.le).2.1
  have f602 := Y1.1
  have k56 : hK h1 56 = 3 := Y1.2.1.1
  rw [am_kd_t k31, f602, bR_s, am_kd_t k31, am_kd_t k56, am_kd_t m0, f1251, bR_s, am_kd_t m0, am_kd_t k389, n389, im, am_let_e, tm, x3, x4, q_X12_readsLine_195, if_pos rfl]
  refine Ld.go (CDk.rfl' h1) (MD.ei g1 (r := 389) (i := 200 + m) (nI i) (Or.inr ⟨by decide, by decide, by omega⟩)) ?_
  refine Ld.mono le (dy_end (d := d) (d2 := d2) (a0 := 3) (a1 := nI e) (a2 := nI i) (a3 := 0) ha c1 (mx1.ei (r := 389) (200 + m) (nI i) (by decide)) (Y1.ei ha (nI i) (by decide)) (D1.ei (r := 389) (nI i) (by decide)) hm (Or.inr (Or.inr (Or.inr (Or.inl ⟨rfl, ?_, ⟨e, he, rfl, ?_⟩, ⟨i, i1, rfl, ?_⟩⟩)))))
  · rw [sEI_ne _ _ _ (by decide), eg]; exact e7
  · rw [sEI_ne _ _ _ (by decide), eg]; exact e8
  · rw [sEI_at, pk_us]
