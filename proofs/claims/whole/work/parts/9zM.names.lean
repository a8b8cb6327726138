/-! The reader: names looked up. -/
/-- k of the list from i on: which one is s -/
def fdx (f : Nat → Int64) (s : Int64) : Nat → Nat → Int32
  | 0, _ => -1
  | k + 1, i => if f i = s then nI i else fdx f s k (i + 1)
theorem fdx_s (f : Nat → Int64) (s : Int64) (k i : Nat) : fdx f s (k + 1) i = if f i = s then nI i else fdx f s k (i + 1) := rfl
theorem fdx_c (f : Nat → Int64) (s : Int64) : ∀ k i, (fdx f s k i = -1 ∧ ∀ j, i ≤ j → j < i + k → f j ≠ s) ∨ ∃ j, i ≤ j ∧ j < i + k ∧ fdx f s k i = nI j ∧ f j = s
  | 0, i => Or.inl ⟨rfl, fun j h1 h2 => by omega⟩
  | k + 1, i => by
    unfold fdx
    by_cases c : f i = s
    · rw [if_pos c]
      exact Or.inr ⟨i, by omega, by omega, rfl, c⟩
    · rw [if_neg c]
      rcases fdx_c f s k (i + 1) with ⟨h1, h2⟩ | ⟨j, h1, h2, h3, h4⟩
      · refine Or.inl ⟨h1, fun j j1 j2 => ?_⟩
        by_cases e : j = i
        · rw [e]; exact c
        · exact h2 j (by omega) (by omega)
      · exact Or.inr ⟨j, by omega, by omega, h3, h4⟩
theorem fdx_congr {f g : Nat → Int64} {s : Int64} : ∀ k i, (∀ j, i ≤ j → j < i + k → f j = g j) → fdx f s k i = fdx g s k i
  | 0, _, _ => rfl
  | k + 1, i, h => by
    unfold fdx
    rw [h i (by omega) (by omega), fdx_congr k (i + 1) (fun j h1 h2 => h j (by omega) (by omega))]
/-- found or not -/
theorem fdx_lt {f : Nat → Int64} {s : Int64} {k : Nat} (hk : k ≤ 1000) : (fdx f s k 0 < 0 ∧ ∀ j, j < k → f j ≠ s) ∨ ((¬ fdx f s k 0 < 0) ∧ ∃ j, j < k ∧ fdx f s k 0 = nI j ∧ f j = s) := by
  rcases fdx_c f s k 0 with ⟨h1, h2⟩ | ⟨j, h1, h2, h3, h4⟩
  · left
    rw [h1]
    exact ⟨by decide, fun j hj => h2 j (by omega) (by omega)⟩
  · right
    rw [h3]
    exact ⟨nI_pos (by omega), j, by omega, rfl, h4⟩
theorem r_index0 {d a n b : Nat} {h : AH} {T : Nat → Nat} (c : CX h a n T b) {f m : Nat} (hfm : f + m ≤ 21) : ∀ k i, i + k = m → am_R PG (d + 1) 84 2 [some (.ref 3), some (.int (nI f)), some (.int (nI m)), some (.int (nI i))] [] h = some (some (.int (fdx (fun j => hAJ h (a + 1) (f + j)) (hFJ h 905 1) k i)), h)
  | 0, i, hi => by
    have e5 : ¬ nI i < nI m := nI_nlt (by omega) (by omega)
    rw [q_X6_indexOfName_2, if_neg e5]
    rfl
  | k + 1, i, hi => by
    have ih := r_index0 (d := d) c hfm k (i + 1) (by omega)
    obtain ⟨k3, f6, f61, k1, -⟩ := c.ff
    obtain ⟨⟨p0, pf1, pf2, pf3, pf4, pf5, pf6, pf7, pf8, pf9, pf10, pf11, pf12, pf13, pf14, pf17, pk1, pk2, pk3, pk4, pk5, pk6, pk7, pk8, pk9, pk10, pk11, pk12, pk13, pn1, pn2, pn3, pn4, pn5, pn6, pn7, pn8, pn9, pn10, pn11, pn12, pn13⟩, -, -⟩ := c.2.2.2.1
    have e5 : (nI i < nI m) = True := eq_true (nI_lt (by omega) (by omega))
    have ei : ∀ x, am_in (nI (f + i)) 21 x = x := am_inN (by omega) (by decide)
    have ti : Int32.toNatClampNeg (nI (f + i)) = f + i := nI_clamp (by omega)
    rw [q_X6_indexOfName_2]
    simp only [am_kd, k3, f61, f6, k1, p0, pf1, pk1, pn1, if_true, bR_s, e5, nI_add, ei, ti, lg0, nI_1, ih]
    rw [fdx_s]
    by_cases c1 : hAJ h (a + 1) (f + i) = hFJ h 905 1
    · rw [if_pos c1, if_pos c1]
    · rw [if_neg c1, if_neg c1]
theorem r_index {d a n b : Nat} {h : AH} {T : Nat → Nat} (c : CX h a n T b) {f m : Nat} (hfm : f + m ≤ 21) : am_C PG (d + 1) 84 [.ref 3, .int (nI f), .int (nI m)] h = some (some (.int (fdx (fun j => hAJ h (a + 1) (f + j)) (hFJ h 905 1) m 0)), h) := by
  rw [q_X6_indexOfName]
  exact r_index0 c hfm m 0 (by omega)
theorem m_named0 {d row N : Nat} {g : AH} (hk : hK g row = 53) (hl : hLN g row = N) (hN : N ≤ 1000) {f m : Nat} (hfm : f + m ≤ N) (s : Int64) : ∀ k i, i + k = m → am_R PG (d + 1) 178 3 [some (.ref row), some (.int (nI f)), some (.int (nI m)), some (.long s), none, some (.int (nI (f + i)))] [] g = some (some (.int (fdx (fun j => hAJ g row (f + j)) s k i)), g)
  | 0, i, hi => by
    have e5 : ¬ nI (f + i) < nI f + nI m := by
      rw [nI_add]
      exact nI_nlt (by omega) (by omega)
    rw [q_X12_named_3, if_neg e5]
    rfl
  | k + 1, i, hi => by
    have ih := m_named0 (d := d) hk hl hN hfm s k (i + 1) (by omega)
    have e5 : (nI (f + i) < nI (f + m)) = True := eq_true (nI_lt (by omega) (by omega))
    have ei : ∀ x, am_in (nI (f + i)) N x = x := am_inN (by omega) (by omega)
    have ti : Int32.toNatClampNeg (nI (f + i)) = f + i := nI_clamp (by omega)
    have es : nI (f + i) - nI f = nI i := by
      rw [nI_subN (by omega)]
      congr 1
      omega
    rw [show f + (i + 1) = f + i + 1 by omega] at ih
    rw [q_X12_named_3]
    simp only [am_kd, hk, hl, if_true, nI_add, e5, ei, ti, lg0, nI_1, ih, es]
    rw [fdx_s]
    by_cases c1 : hAJ g row (f + i) = s
    · rw [if_pos c1, if_pos c1]
    · rw [if_neg c1, if_neg c1]
theorem m_named {d row N : Nat} {g : AH} (hk : hK g row = 53) (hl : hLN g row = N) (hN : N ≤ 1000) {f m : Nat} (hfm : f + m ≤ N) (s : Int64) : am_C PG (d + 1) 178 [.ref row, .int (nI f), .int (nI m), .long s] g = some (some (.int (fdx (fun j => hAJ g row (f + j)) s m 0)), g) := by
  rw [q_X12_named]
  exact m_named0 hk hl hN hfm s m 0 (by omega)
theorem m_placeNamed {d r cnt : Nat} {g : AH} (hm : MSh g) (hr : r < 2) (hc : hAI g 350 (5 * r + 0) = nI cnt) (hn : cnt ≤ 5) : am_C PG (d + 2) 179 [.ref 348, .int (nI r)] g = some (some (.int (fdx (fun j => hAJ g 351 (5 * r + j)) (hFJ g 1207 348) cnt 0)), g) := by
  have m0 := hm.1
  have f1210 : hFR _ 1210 348 = some 350 := (hm.2 1 (by decide)).1
  have k350 : hK _ 350 = 50 := (hm.2 1 (by decide)).2.1
  have n350 : hLN _ 350 = 10 := (hm.2 1 (by decide)).2.2
  have f1211 : hFR _ 1211 348 = some 351 := (hm.2 2 (by decide)).1
  have k351 : hK _ 351 = 53 := (hm.2 2 (by decide)).2.1
  have n351 : hLN _ 351 = 10 := (hm.2 2 (by decide)).2.2
  have x1 : (5 : Int32) * nI r = nI (5 * r) := pk_mul 5 r
  have x2 : (5 : Int32) * nI r = nI (5 * r) := pk_mul 5 r
  have x3 : nI (5 * r) + (0 : Int32) = nI (5 * r + 0) := nI_add (5 * r) 0
  have ei : ∀ x, am_in (nI (5 * r + 0)) 10 x = x := am_inN (by omega) (by decide)
  have ti : Int32.toNatClampNeg (nI (5 * r + 0)) = 5 * r + 0 := nI_clamp (by omega)
  have kn := m_named (d := d) (g := g) k351 n351 (by decide) (f := 5 * r) (m := cnt) (by omega) (hFJ g 1207 348)
  rw [q_X12_placeNamed]
  simp only [am_kd, m0, f1210, k350, n350, f1211, k351, n351, if_true, bR_s, x1, x2, x3, ei, ti, hc, kn, bI_s]
theorem m_timerNamed {d r cnt : Nat} {g : AH} (hm : MSh g) (hr : r < 2) (hc : hAI g 350 (5 * r + 2) = nI cnt) (hn : cnt ≤ 6) : am_C PG (d + 2) 180 [.ref 348, .int (nI r)] g = some (some (.int (fdx (fun j => hAJ g 352 (6 * r + j)) (hFJ g 1207 348) cnt 0)), g) := by
  have m0 := hm.1
  have f1210 : hFR _ 1210 348 = some 350 := (hm.2 1 (by decide)).1
  have k350 : hK _ 350 = 50 := (hm.2 1 (by decide)).2.1
  have n350 : hLN _ 350 = 10 := (hm.2 1 (by decide)).2.2
  have f1212 : hFR _ 1212 348 = some 352 := (hm.2 3 (by decide)).1
  have k352 : hK _ 352 = 53 := (hm.2 3 (by decide)).2.1
  have n352 : hLN _ 352 = 12 := (hm.2 3 (by decide)).2.2
  have x1 : (5 : Int32) * nI r = nI (5 * r) := pk_mul 5 r
  have x2 : (6 : Int32) * nI r = nI (6 * r) := pk_mul 6 r
  have x3 : nI (5 * r) + (2 : Int32) = nI (5 * r + 2) := nI_add (5 * r) 2
  have ei : ∀ x, am_in (nI (5 * r + 2)) 10 x = x := am_inN (by omega) (by decide)
  have ti : Int32.toNatClampNeg (nI (5 * r + 2)) = 5 * r + 2 := nI_clamp (by omega)
  have kn := m_named (d := d) (g := g) k352 n352 (by decide) (f := 6 * r) (m := cnt) (by omega) (hFJ g 1207 348)
  rw [q_X12_timerNamed]
  simp only [am_kd, m0, f1210, k350, n350, f1212, k352, n352, if_true, bR_s, x1, x2, x3, ei, ti, hc, kn, bI_s]
theorem m_personNamed {d r cnt : Nat} {g : AH} (hm : MSh g) (hr : r < 2) (hc : hAI g 350 (5 * r + 3) = nI cnt) (hn : cnt ≤ 4) : am_C PG (d + 2) 181 [.ref 348, .int (nI r)] g = some (some (.int (fdx (fun j => hAJ g 353 (4 * r + j)) (hFJ g 1207 348) cnt 0)), g) := by
  have m0 := hm.1
  have f1210 : hFR _ 1210 348 = some 350 := (hm.2 1 (by decide)).1
  have k350 : hK _ 350 = 50 := (hm.2 1 (by decide)).2.1
  have n350 : hLN _ 350 = 10 := (hm.2 1 (by decide)).2.2
  have f1213 : hFR _ 1213 348 = some 353 := (hm.2 4 (by decide)).1
  have k353 : hK _ 353 = 53 := (hm.2 4 (by decide)).2.1
  have n353 : hLN _ 353 = 8 := (hm.2 4 (by decide)).2.2
  have x1 : (5 : Int32) * nI r = nI (5 * r) := pk_mul 5 r
  have x2 : (4 : Int32) * nI r = nI (4 * r) := pk_mul 4 r
  have x3 : nI (5 * r) + (3 : Int32) = nI (5 * r + 3) := nI_add (5 * r) 3
  have ei : ∀ x, am_in (nI (5 * r + 3)) 10 x = x := am_inN (by omega) (by decide)
  have ti : Int32.toNatClampNeg (nI (5 * r + 3)) = 5 * r + 3 := nI_clamp (by omega)
  have kn := m_named (d := d) (g := g) k353 n353 (by decide) (f := 4 * r) (m := cnt) (by omega) (hFJ g 1207 348)
  rw [q_X12_personNamed]
  simp only [am_kd, m0, f1210, k350, n350, f1213, k353, n353, if_true, bR_s, x1, x2, x3, ei, ti, hc, kn, bI_s]
theorem r_toldName {d a n b : Nat} {h : AH} {T : Nat → Nat} (c : CX h a n T b) {f m : Nat} (hfm : f + m ≤ 21) {ff mm : Int32} (hf : ff = nI f) (hmm : mm = nI m) :
    (nam n T b = false → am_C PG (d + 4) 83 [.ref 3, .int ff, .int mm] h = some (some (.int 0), sFI h 603 3 (1 + 16 * nI b))) ∧
    (nam n T b = true → fdx (fun j => hAJ h (a + 1) (f + j)) (wrd n T b) m 0 < 0 → am_C PG (d + 4) 83 [.ref 3, .int ff, .int mm] h = some (some (.int 0), sFI (sFI h 605 3 (fdx (fun j => hAJ h (a + 1) (f + j)) (wrd n T b) m 0)) 603 3 (2 + 16 * nI b))) ∧
    (nam n T b = true → ¬ fdx (fun j => hAJ h (a + 1) (f + j)) (wrd n T b) m 0 < 0 → ∃ g, am_C PG (d + 4) 83 [.ref 3, .int ff, .int mm] h = some (some (.int 1), g) ∧ CT h g ∧ CX g a n T (nxt n T b) ∧ hFI g 605 3 = fdx (fun j => hAJ h (a + 1) (f + j)) (wrd n T b) m 0) := by
  subst hf
  subst hmm
  obtain ⟨k3, f6, f61, k1, e3, e2, e7, -⟩ := c.ff
  have kx := r_index (d := d + 2) c hfm
  have z1 : ((1 : Int32) = 0) = False := eq_false (by decide)
  refine ⟨fun z => ?_, fun z y => ?_, fun z y => ?_⟩
  · have kn := r_isName (d := d + 2) c
    rw [z, if_neg (by decide)] at kn
    rw [q_X6_toldName]
    simp only [am_kd, k3, k1, if_true, f6, bR_s, kn, bI_s, r_wrong c, am_nar4_0]
  · have kn := r_isName (d := d + 2) c
    rw [z, if_pos rfl] at kn
    rw [c.spelt (nam_1 z)] at kx
    generalize fdx (fun j => hAJ h (a + 1) (f + j)) (wrd n T b) m 0 = v at kx y ⊢
    have w3 : hK (sFI h 605 3 v) 3 = 7 := k3
    have w5 : hFI (sFI h 605 3 v) 605 3 = v := sFI_at _ _ _ _
    rw [q_X6_toldName]
    simp only [am_kd, k3, k1, if_true, f6, bR_s, kn, bI_s, z1, if_false, kx, am_let_e, w3, w5, y, r_wrong (c.fi 605 v), am_nar4_0]
  · have kn := r_isName (d := d + 2) c
    rw [z, if_pos rfl] at kn
    rw [c.spelt (nam_1 z)] at kx
    generalize fdx (fun j => hAJ h (a + 1) (f + j)) (wrd n T b) m 0 = v at kx y ⊢
    have w3 : hK (sFI h 605 3 v) 3 = 7 := k3
    have w1 : hK (sFI h 605 3 v) 1 = 10 := k1
    have w6 : hFR (sFI h 605 3 v) 600 3 = some 1 := f6
    have w5 : hFI (sFI h 605 3 v) 605 3 = v := sFI_at _ _ _ _
    obtain ⟨g, g1, g2, g3⟩ := r_adv (d := d) (c.fi 605 v)
    refine ⟨g, ?_, (CT.fi _ _).tr g2.ct, g3, ?_⟩
    · rw [q_X6_toldName]
      simp only [am_kd, k3, k1, if_true, f6, bR_s, kn, bI_s, z1, if_false, kx, am_let_e, w3, w1, w5, w6, y, g1, bV_s, am_nar4_1]
    · rw [g2.2.2.2.2.2.2.2.2 _ _ (by omega)]
      exact w5
theorem r_newName {d a n b : Nat} {h : AH} {T : Nat → Nat} (c : CX h a n T b) {at' : Nat} (hat : at' < 21) {av : Int32} (hav : av = nI at') :
    (nam n T b = false → am_C PG (d + 4) 82 [.ref 3, .int av] h = some (some (.int 0), sFI h 603 3 (1 + 16 * nI b))) ∧
    (nam n T b = true → (∃ j, j < 21 ∧ hAJ h (a + 1) j = wrd n T b) → am_C PG (d + 4) 82 [.ref 3, .int av] h = some (some (.int 0), sFI h 603 3 (3 + 16 * nI b))) ∧
    (nam n T b = true → (∀ j, j < 21 → hAJ h (a + 1) j ≠ wrd n T b) → ∃ g, am_C PG (d + 4) 82 [.ref 3, .int av] h = some (some (.int 1), g) ∧ CT (sEJ h (a + 1) at' (wrd n T b)) g ∧ CX g a n T (nxt n T b)) := by
  subst hav
  obtain ⟨k3, f6, f61, k1, e3, e2, e7, -⟩ := c.ff
  have kx : am_C PG (d + 2 + 1) 84 [.ref 3, .int (0 : Int32), .int (21 : Int32)] h = _ := r_index (d := d + 2) c (f := 0) (m := 21) (by decide)
  have z1 : ((1 : Int32) = 0) = False := eq_false (by decide)
  have ei : ∀ x, am_in (nI at') 21 x = x := am_inN hat (by decide)
  have ti : Int32.toNatClampNeg (nI at') = at' := nI_clamp (by omega)
  obtain ⟨⟨p0, pf1, pf2, pf3, pf4, pf5, pf6, pf7, pf8, pf9, pf10, pf11, pf12, pf13, pf14, pf17, pk1, pk2, pk3, pk4, pk5, pk6, pk7, pk8, pk9, pk10, pk11, pk12, pk13, pn1, pn2, pn3, pn4, pn5, pn6, pn7, pn8, pn9, pn10, pn11, pn12, pn13⟩, -, -⟩ := c.2.2.2.1
  refine ⟨fun z => ?_, fun z y => ?_, fun z y => ?_⟩
  · have kn := r_isName (d := d + 2) c
    rw [z, if_neg (by decide)] at kn
    rw [q_X6_newName]
    simp only [am_kd, k3, k1, if_true, f6, bR_s, kn, bI_s, r_wrong c, am_nar4_0]
  · have kn := r_isName (d := d + 2) c
    rw [z, if_pos rfl] at kn
    have sp := c.spelt (nam_1 z)
    have y' : ¬ fdx (fun j => hAJ h (a + 1) (0 + j)) (hFJ h 905 1) 21 0 < 0 := by
      rw [sp]
      rcases fdx_lt (f := fun j => hAJ h (a + 1) (0 + j)) (s := wrd n T b) (k := 21) (by decide) with ⟨q1, q2⟩ | ⟨q1, q2⟩
      · obtain ⟨j, j1, j2⟩ := y
        exact absurd (by rw [Nat.zero_add]; exact j2) (q2 j j1)
      · exact q1
    rw [q_X6_newName]
    simp only [am_kd, k3, k1, if_true, f6, bR_s, kn, bI_s, z1, if_false, kx, y', r_wrong c, am_nar4_0]
  · have kn := r_isName (d := d + 2) c
    rw [z, if_pos rfl] at kn
    have sp := c.spelt (nam_1 z)
    have y' : fdx (fun j => hAJ h (a + 1) (0 + j)) (wrd n T b) 21 0 < 0 := by
      rcases fdx_lt (f := fun j => hAJ h (a + 1) (0 + j)) (s := wrd n T b) (k := 21) (by decide) with ⟨q1, q2⟩ | ⟨q1, j, j1, j2, j3⟩
      · exact q1
      · exact absurd (by rw [Nat.zero_add] at j3; exact j3) (y j j1)
    have w3 : hK (sEJ h (a + 1) at' (wrd n T b)) 3 = 7 := k3
    have w1 : hK (sEJ h (a + 1) at' (wrd n T b)) 1 = 10 := k1
    have w6 : hFR (sEJ h (a + 1) at' (wrd n T b)) 600 3 = some 1 := f6
    obtain ⟨g, g1, g2, g3⟩ := r_adv (d := d) (h := sEJ h (a + 1) at' (wrd n T b)) (c.to rfl rfl rfl rfl rfl (fun _ _ _ => rfl) rfl)
    refine ⟨g, ?_, g2.ct, g3⟩
    rw [q_X6_newName]
    simp only [am_kd, k3, k1, if_true, f6, f61, bR_s, kn, bI_s, z1, if_false, kx, y', p0, pf1, pk1, pn1, ei, ti, sp, am_let_e, w3, w1, w6, g1, bV_s, am_nar4_1]
theorem m_told0 {d n b r cnt : Nat} {g : AH} {T : Nat → Nat} (m : MX g n T b) (hr : r < 2) (hc : hAI g 350 (5 * r + 0) = nI cnt) (hn : cnt ≤ 5) {rr : Int32} (hrr : rr = nI r) :
    (nam n T b = false → am_C PG (d + 3) 187 [.ref 348, .int rr, .int 0] g = some (some (.int 0), sFI g 1209 348 (1 + 16 * nI b))) ∧
    (nam n T b = true → fdx (fun j => hAJ g 351 (5 * r + j)) (wrd n T b) cnt 0 < 0 → am_C PG (d + 3) 187 [.ref 348, .int rr, .int 0] g = some (some (.int 0), sFI (sFI g 1246 348 (fdx (fun j => hAJ g 351 (5 * r + j)) (wrd n T b) cnt 0)) 1209 348 (2 + 16 * nI b))) ∧
    (nam n T b = true → ¬ fdx (fun j => hAJ g 351 (5 * r + j)) (wrd n T b) cnt 0 < 0 → am_C PG (d + 3) 187 [.ref 348, .int rr, .int 0] g = some (some (.int 1), sFI g 1246 348 (fdx (fun j => hAJ g 351 (5 * r + j)) (wrd n T b) cnt 0))) := by
  subst hrr
  have k1 := m.ff.1
  have kn := m_placeNamed (d := d) m.1.1 hr hc hn
  have kp := m_isKept (d := d + 1) m
  have z1 : ((1 : Int32) = 0) = False := eq_false (by decide)
  have z2 : ((2 : Int32) = 0) = False := eq_false (by decide)
  have z3 : ((2 : Int32) = 1) = False := eq_false (by decide)
  refine ⟨fun z => ?_, fun z y => ?_, fun z y => ?_⟩
  · rw [z, if_neg (by decide)] at kp
    rw [q_X12_needsTold]
    simp only [am_kd, k1, if_true, kp, bI_s, z1, if_false, m_fails m, am_nar4_0]
  · rw [z, if_pos rfl] at kp
    rw [m.spelt (nam_1 z)] at kn
    generalize fdx (fun j => hAJ g 351 (5 * r + j)) (wrd n T b) cnt 0 = v at kn y ⊢
    have w1 : hK (sFI g 1246 348 v) 348 = 13 := k1
    have w5 : hFI (sFI g 1246 348 v) 1246 348 = v := sFI_at _ _ _ _
    rw [q_X12_needsTold]
    simp only [am_kd, k1, if_true, kp, bI_s, z1, z2, z3, if_false, kn, am_let_e, w1, w5, y, m_fails (m.fi (k := 1246) v (by omega)), am_nar4_0]
  · rw [z, if_pos rfl] at kp
    rw [m.spelt (nam_1 z)] at kn
    generalize fdx (fun j => hAJ g 351 (5 * r + j)) (wrd n T b) cnt 0 = v at kn y ⊢
    have w1 : hK (sFI g 1246 348 v) 348 = 13 := k1
    have w5 : hFI (sFI g 1246 348 v) 1246 348 = v := sFI_at _ _ _ _
    rw [q_X12_needsTold]
    simp only [am_kd, k1, if_true, kp, bI_s, z1, z2, z3, if_false, kn, am_let_e, w1, w5, y, am_nar4_1]
theorem m_told1 {d n b r cnt : Nat} {g : AH} {T : Nat → Nat} (m : MX g n T b) (hr : r < 2) (hc : hAI g 350 (5 * r + 2) = nI cnt) (hn : cnt ≤ 6) {rr : Int32} (hrr : rr = nI r) :
    (nam n T b = false → am_C PG (d + 3) 187 [.ref 348, .int rr, .int 1] g = some (some (.int 0), sFI g 1209 348 (1 + 16 * nI b))) ∧
    (nam n T b = true → fdx (fun j => hAJ g 352 (6 * r + j)) (wrd n T b) cnt 0 < 0 → am_C PG (d + 3) 187 [.ref 348, .int rr, .int 1] g = some (some (.int 0), sFI (sFI g 1246 348 (fdx (fun j => hAJ g 352 (6 * r + j)) (wrd n T b) cnt 0)) 1209 348 (2 + 16 * nI b))) ∧
    (nam n T b = true → ¬ fdx (fun j => hAJ g 352 (6 * r + j)) (wrd n T b) cnt 0 < 0 → am_C PG (d + 3) 187 [.ref 348, .int rr, .int 1] g = some (some (.int 1), sFI g 1246 348 (fdx (fun j => hAJ g 352 (6 * r + j)) (wrd n T b) cnt 0))) := by
  subst hrr
  have k1 := m.ff.1
  have kn := m_timerNamed (d := d) m.1.1 hr hc hn
  have kp := m_isKept (d := d + 1) m
  have z1 : ((1 : Int32) = 0) = False := eq_false (by decide)
  have z2 : ((2 : Int32) = 0) = False := eq_false (by decide)
  have z3 : ((2 : Int32) = 1) = False := eq_false (by decide)
  refine ⟨fun z => ?_, fun z y => ?_, fun z y => ?_⟩
  · rw [z, if_neg (by decide)] at kp
    rw [q_X12_needsTold]
    simp only [am_kd, k1, if_true, kp, bI_s, z1, if_false, m_fails m, am_nar4_0]
  · rw [z, if_pos rfl] at kp
    rw [m.spelt (nam_1 z)] at kn
    generalize fdx (fun j => hAJ g 352 (6 * r + j)) (wrd n T b) cnt 0 = v at kn y ⊢
    have w1 : hK (sFI g 1246 348 v) 348 = 13 := k1
    have w5 : hFI (sFI g 1246 348 v) 1246 348 = v := sFI_at _ _ _ _
    rw [q_X12_needsTold]
    simp only [am_kd, k1, if_true, kp, bI_s, z1, z2, z3, if_false, kn, am_let_e, w1, w5, y, m_fails (m.fi (k := 1246) v (by omega)), am_nar4_0]
  · rw [z, if_pos rfl] at kp
    rw [m.spelt (nam_1 z)] at kn
    generalize fdx (fun j => hAJ g 352 (6 * r + j)) (wrd n T b) cnt 0 = v at kn y ⊢
    have w1 : hK (sFI g 1246 348 v) 348 = 13 := k1
    have w5 : hFI (sFI g 1246 348 v) 1246 348 = v := sFI_at _ _ _ _
    rw [q_X12_needsTold]
    simp only [am_kd, k1, if_true, kp, bI_s, z1, z2, z3, if_false, kn, am_let_e, w1, w5, y, am_nar4_1]
theorem m_told2 {d n b r cnt : Nat} {g : AH} {T : Nat → Nat} (m : MX g n T b) (hr : r < 2) (hc : hAI g 350 (5 * r + 3) = nI cnt) (hn : cnt ≤ 4) {rr : Int32} (hrr : rr = nI r) :
    (nam n T b = false → am_C PG (d + 3) 187 [.ref 348, .int rr, .int 2] g = some (some (.int 0), sFI g 1209 348 (1 + 16 * nI b))) ∧
    (nam n T b = true → fdx (fun j => hAJ g 353 (4 * r + j)) (wrd n T b) cnt 0 < 0 → am_C PG (d + 3) 187 [.ref 348, .int rr, .int 2] g = some (some (.int 0), sFI (sFI g 1246 348 (fdx (fun j => hAJ g 353 (4 * r + j)) (wrd n T b) cnt 0)) 1209 348 (2 + 16 * nI b))) ∧
    (nam n T b = true → ¬ fdx (fun j => hAJ g 353 (4 * r + j)) (wrd n T b) cnt 0 < 0 → am_C PG (d + 3) 187 [.ref 348, .int rr, .int 2] g = some (some (.int 1), sFI g 1246 348 (fdx (fun j => hAJ g 353 (4 * r + j)) (wrd n T b) cnt 0))) := by
  subst hrr
  have k1 := m.ff.1
  have kn := m_personNamed (d := d) m.1.1 hr hc hn
  have kp := m_isKept (d := d + 1) m
  have z1 : ((1 : Int32) = 0) = False := eq_false (by decide)
  have z2 : ((2 : Int32) = 0) = False := eq_false (by decide)
  have z3 : ((2 : Int32) = 1) = False := eq_false (by decide)
  refine ⟨fun z => ?_, fun z y => ?_, fun z y => ?_⟩
  · rw [z, if_neg (by decide)] at kp
    rw [q_X12_needsTold]
    simp only [am_kd, k1, if_true, kp, bI_s, z1, if_false, m_fails m, am_nar4_0]
  · rw [z, if_pos rfl] at kp
    rw [m.spelt (nam_1 z)] at kn
    generalize fdx (fun j => hAJ g 353 (4 * r + j)) (wrd n T b) cnt 0 = v at kn y ⊢
    have w1 : hK (sFI g 1246 348 v) 348 = 13 := k1
    have w5 : hFI (sFI g 1246 348 v) 1246 348 = v := sFI_at _ _ _ _
    rw [q_X12_needsTold]
    simp only [am_kd, k1, if_true, kp, bI_s, z1, z2, z3, if_false, kn, am_let_e, w1, w5, y, m_fails (m.fi (k := 1246) v (by omega)), am_nar4_0]
  · rw [z, if_pos rfl] at kp
    rw [m.spelt (nam_1 z)] at kn
    generalize fdx (fun j => hAJ g 353 (4 * r + j)) (wrd n T b) cnt 0 = v at kn y ⊢
    have w1 : hK (sFI g 1246 348 v) 348 = 13 := k1
    have w5 : hFI (sFI g 1246 348 v) 1246 348 = v := sFI_at _ _ _ _
    rw [q_X12_needsTold]
    simp only [am_kd, k1, if_true, kp, bI_s, z1, z2, z3, if_false, kn, am_let_e, w1, w5, y, am_nar4_1]
theorem m_isNew {d n b np nc ne nw : Nat} {g : AH} {T : Nat → Nat} (m : MX g n T b) (h0 : hAI g 350 5 = nI np) (h2 : hAI g 350 7 = nI nc) (h3 : hAI g 350 8 = nI ne) (h4 : hAI g 350 9 = nI nw) (l0 : np ≤ 5) (l2 : nc ≤ 6) (l3 : ne ≤ 4) (l4 : nw ≤ 6) :
    (nam n T b = false → am_C PG (d + 3) 186 [.ref 348] g = some (some (.int 0), sFI g 1209 348 (1 + 16 * nI b))) ∧
    (nam n T b = true → ((∃ i, i < np ∧ hAJ g 351 (5 + i) = wrd n T b) ∨ (∃ i, i < nc ∧ hAJ g 352 (6 + i) = wrd n T b) ∨ (∃ i, i < ne ∧ hAJ g 353 (4 + i) = wrd n T b) ∨ ∃ i, i < nw ∧ hAJ g 354 (6 + i) = wrd n T b) → am_C PG (d + 3) 186 [.ref 348] g = some (some (.int 0), sFI g 1209 348 (3 + 16 * nI b))) ∧
    (nam n T b = true → (∀ i, i < np → hAJ g 351 (5 + i) ≠ wrd n T b) → (∀ i, i < nc → hAJ g 352 (6 + i) ≠ wrd n T b) → (∀ i, i < ne → hAJ g 353 (4 + i) ≠ wrd n T b) → (∀ i, i < nw → hAJ g 354 (6 + i) ≠ wrd n T b) → am_C PG (d + 3) 186 [.ref 348] g = some (some (.int 1), g)) := by
  have kp := m_isKept (d := d + 1) m
  have n0 : am_C PG (d + 2) 179 [.ref 348, .int (1 : Int32)] g = _ := m_placeNamed (d := d) (r := 1) m.1.1 (by decide) h0 l0
  have n1 : am_C PG (d + 2) 180 [.ref 348, .int (1 : Int32)] g = _ := m_timerNamed (d := d) (r := 1) m.1.1 (by decide) h2 l2
  have n2 : am_C PG (d + 2) 181 [.ref 348, .int (1 : Int32)] g = _ := m_personNamed (d := d) (r := 1) m.1.1 (by decide) h3 l3
  have hm := m.1.1
  have m0 := hm.1
  have f1210 : hFR _ 1210 348 = some 350 := (hm.2 1 (by decide)).1
  have k350 : hK _ 350 = 50 := (hm.2 1 (by decide)).2.1
  have n350 : hLN _ 350 = 10 := (hm.2 1 (by decide)).2.2
  have f1214 : hFR _ 1214 348 = some 354 := (hm.2 5 (by decide)).1
  have k354 : hK _ 354 = 53 := (hm.2 5 (by decide)).2.1
  have n354 : hLN _ 354 = 12 := (hm.2 5 (by decide)).2.2
  have n3 : am_C PG (d + 2) 178 [.ref 354, .int (6 : Int32), .int (nI nw), .long (hFJ g 1207 348)] g = _ := m_named (d := d + 1) (g := g) k354 n354 (by decide) (f := 6) (m := nw) (by omega) (hFJ g 1207 348)
  have z1 : ((1 : Int32) = 0) = False := eq_false (by decide)
  have ei : ∀ x, am_in (9 : Int32) 10 x = x := am_inN (i := 9) (by decide) (by decide)
  have ti : Int32.toNatClampNeg (9 : Int32) = 9 := by decide
  refine ⟨fun z => ?_, fun z => ?_, fun z => ?_⟩
  · rw [z, if_neg (by decide)] at kp
    rw [q_X12_isNew]
    simp only [am_kd, m0, if_true, kp, bI_s, z1, if_false, m_fails m, am_nar4_0]
  all_goals
    rw [z, if_pos rfl] at kp
    rw [m.spelt (nam_1 z)] at n0 n1 n2 n3
    have f0 := fdx_lt (f := fun j => hAJ g 351 (5 * 1 + j)) (s := wrd n T b) (k := np) (by omega)
    have f1 := fdx_lt (f := fun j => hAJ g 352 (6 * 1 + j)) (s := wrd n T b) (k := nc) (by omega)
    have f2 := fdx_lt (f := fun j => hAJ g 353 (4 * 1 + j)) (s := wrd n T b) (k := ne) (by omega)
    have f3 := fdx_lt (f := fun j => hAJ g 354 (6 + j)) (s := wrd n T b) (k := nw) (by omega)
    simp only [Nat.mul_one] at f0 f1 f2 n0 n1 n2
    generalize fdx (fun j => hAJ g 351 (5 + j)) (wrd n T b) np 0 = v0 at n0 f0
    generalize fdx (fun j => hAJ g 352 (6 + j)) (wrd n T b) nc 0 = v1 at n1 f1
    generalize fdx (fun j => hAJ g 353 (4 + j)) (wrd n T b) ne 0 = v2 at n2 f2
    generalize fdx (fun j => hAJ g 354 (6 + j)) (wrd n T b) nw 0 = v3 at n3 f3
    rw [q_X12_isNew]
  · intro y
    simp only [am_kd, m0, f1210, k350, n350, f1214, k354, n354, if_true, kp, bI_s, n0, n1, n2, bR_s, ei, ti, h4, m.spelt (nam_1 z), n3, m_fails m, am_nar4_0]
    by_cases c0 : v0 < 0
    · by_cases c1 : v1 < 0
      · by_cases c2 : v2 < 0
        · by_cases c3 : v3 < 0
          · exfalso
            rcases f0 with ⟨-, f0⟩ | ⟨f0, -⟩
            · rcases f1 with ⟨-, f1⟩ | ⟨f1, -⟩
              · rcases f2 with ⟨-, f2⟩ | ⟨f2, -⟩
                · rcases f3 with ⟨-, f3⟩ | ⟨f3, -⟩
                  · rcases y with ⟨i, i1, i2⟩ | ⟨i, i1, i2⟩ | ⟨i, i1, i2⟩ | ⟨i, i1, i2⟩
                    · exact f0 i i1 i2
                    · exact f1 i i1 i2
                    · exact f2 i i1 i2
                    · exact f3 i i1 i2
                  · exact f3 c3
                · exact f2 c2
              · exact f1 c1
            · exact f0 c0
          · rw [if_pos c0, if_pos c1, if_pos c2, if_neg c3]
        · rw [if_pos c0, if_pos c1, if_neg c2]
      · rw [if_pos c0, if_neg c1]
    · rw [if_neg c0]
  · intro y0 y1 y2 y3
    have c0 : v0 < 0 := by
      rcases f0 with ⟨f0, -⟩ | ⟨-, j, j1, -, j2⟩
      · exact f0
      · exact absurd j2 (y0 j j1)
    have c1 : v1 < 0 := by
      rcases f1 with ⟨f0, -⟩ | ⟨-, j, j1, -, j2⟩
      · exact f0
      · exact absurd j2 (y1 j j1)
    have c2 : v2 < 0 := by
      rcases f2 with ⟨f0, -⟩ | ⟨-, j, j1, -, j2⟩
      · exact f0
      · exact absurd j2 (y2 j j1)
    have c3 : v3 < 0 := by
      rcases f3 with ⟨f0, -⟩ | ⟨-, j, j1, -, j2⟩
      · exact f0
      · exact absurd j2 (y3 j j1)
    simp only [am_kd, m0, f1210, k350, n350, f1214, k354, n354, if_true, kp, bI_s, n0, n1, n2, bR_s, ei, ti, h4, m.spelt (nam_1 z), n3, am_nar4_1, c0, c1, c2, c3]
