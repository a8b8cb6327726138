/-! The reference's lays: a post under way becomes the post told. -/
def mvI (f : Nat → Int32) (n i : Nat) : Nat → Int32 := fun x => if x < i then f (n + x) else f x
def mvJ (f : Nat → Int64) (n i : Nat) : Nat → Int64 := fun x => if x < i then f (n + x) else f x
theorem mvI_0 (f : Nat → Int32) (n : Nat) : mvI f n 0 = f := by
  funext x
  exact if_neg (by omega)
theorem mvJ_0 (f : Nat → Int64) (n : Nat) : mvJ f n 0 = f := by
  funext x
  exact if_neg (by omega)
theorem mvI_s (f : Nat → Int32) {n i : Nat} : upd (mvI f n i) i (f (n + i)) = mvI f n (i + 1) := by
  funext x
  by_cases c : x = i
  · rw [c, pk_us]
    exact (if_pos (by omega)).symm
  · rw [pk_un c]
    unfold mvI
    by_cases c2 : x < i
    · rw [if_pos c2, if_pos (by omega)]
    · rw [if_neg c2, if_neg (by omega)]
theorem mvJ_s (f : Nat → Int64) {n i : Nat} : vp_updL (mvJ f n i) i (f (n + i)) = mvJ f n (i + 1) := by
  funext x
  by_cases c : x = i
  · rw [c]
    exact (if_pos rfl).trans (if_pos (by omega)).symm
  · rw [pk_uLn c]
    unfold mvJ
    by_cases c2 : x < i
    · rw [if_pos c2, if_pos (by omega)]
    · rw [if_neg c2, if_neg (by omega)]
theorem sEJ_sAJ (h : AH) (a i : Nat) (f : Nat → Int64) (v : Int64) : sEJ (sAJ h a f) a i v = sAJ h a (vp_updL f i v) := by
  unfold sEJ
  rw [sAJ_at, sAJ_sAJ]
theorem r_moves {d r n : Nat} {g : AH} (k5 : hK g r = 50) (l : n + n ≤ hLN g r) (l2 : hLN g r ≤ 100000) : ∀ k j, j + k = n → am_R PG (d + 1) 198 2 [some (.ref r), some (.int (nI n)), some (.int (nI j))] [] (sAI g r (mvI (hAI g r) n j)) = some (none, sAI g r (mvI (hAI g r) n n))
  | 0, j, hj => by
    rw [q_X12_moves_2, if_neg (nI_nlt (by omega) (by omega)), show j = n by omega]
  | k + 1, j, hj => by
    have y1 : hK (sAI g r (mvI (hAI g r) n j)) r = 50 := by rw [rd_hK_sAI]; exact k5
    have y2 : hLN (sAI g r (mvI (hAI g r) n j)) r = hLN g r := by rw [rd_hLN_sAI]
    have e : mvI (hAI g r) n j (n + j) = hAI g r (n + j) := if_neg (by omega)
    rw [q_X12_moves_2, if_pos (nI_lt (by omega) (by omega)), am_kd_t y1, y2, nI_add, am_inN (by omega) (by omega), am_kd_t y1, am_inN (by omega) (by omega), am_let_e, nI_clamp (by omega), nI_clamp (by omega), sAI_at, e, sEI_sAI, mvI_s, nI_1]
    exact r_moves k5 l l2 k (j + 1) (by omega)
theorem c_moves {d r n : Nat} {g : AH} (k5 : hK g r = 50) (l : n + n ≤ hLN g r) (l2 : hLN g r ≤ 100000) : am_C PG (d + 1) 198 [.ref r, .int (nI n)] g = some (none, sAI g r (mvI (hAI g r) n n)) := by
  have z := r_moves (d := d) k5 l l2 n 0 (by omega)
  rw [mvI_0, sAI_self] at z
  rw [q_X12_moves, ← z, nI_0]
theorem r_movesN {d r n : Nat} {g : AH} (k5 : hK g r = 53) (l : n + n ≤ hLN g r) (l2 : hLN g r ≤ 100000) : ∀ k j, j + k = n → am_R PG (d + 1) 199 2 [some (.ref r), some (.int (nI n)), some (.int (nI j))] [] (sAJ g r (mvJ (hAJ g r) n j)) = some (none, sAJ g r (mvJ (hAJ g r) n n))
  | 0, j, hj => by
    rw [q_X12_movesNames_2, if_neg (nI_nlt (by omega) (by omega)), show j = n by omega]
  | k + 1, j, hj => by
    have y1 : hK (sAJ g r (mvJ (hAJ g r) n j)) r = 53 := by rw [rd_hK_sAJ]; exact k5
    have y2 : hLN (sAJ g r (mvJ (hAJ g r) n j)) r = hLN g r := by rw [rd_hLN_sAJ]
    have e : mvJ (hAJ g r) n j (n + j) = hAJ g r (n + j) := if_neg (by omega)
    rw [q_X12_movesNames_2, if_pos (nI_lt (by omega) (by omega)), am_kd_t y1, y2, nI_add, am_inN (by omega) (by omega), am_kd_t y1, am_inN (by omega) (by omega), am_let_e, nI_clamp (by omega), nI_clamp (by omega), sAJ_at, e, sEJ_sAJ, mvJ_s, nI_1]
    exact r_movesN k5 l l2 k (j + 1) (by omega)
theorem c_movesN {d r n : Nat} {g : AH} (k5 : hK g r = 53) (l : n + n ≤ hLN g r) (l2 : hLN g r ≤ 100000) : am_C PG (d + 1) 199 [.ref r, .int (nI n)] g = some (none, sAJ g r (mvJ (hAJ g r) n n)) := by
  have z := r_movesN (d := d) k5 l l2 n 0 (by omega)
  rw [mvJ_0, sAJ_self] at z
  rw [q_X12_movesNames, ← z, nI_0]
/-- rows whose second half lies over the first -/
def MV (L : List Nat) (h g : AH) : Prop := (hK g = hK h ∧ hFR g = hFR h ∧ hLN g = hLN h ∧ hAR g = hAR h ∧ hNX g = hNX h ∧ hFI g = hFI h ∧ hFJ g = hFJ h) ∧ (∀ x, hAI g x = if x ∈ L ∧ ¬ (351 ≤ x ∧ x ≤ 354) then mvI (hAI h x) (hf x) (hf x) else hAI h x) ∧ ∀ x, hAJ g x = if x ∈ L ∧ (351 ≤ x ∧ x ≤ 354) then mvJ (hAJ h x) (hf x) (hf x) else hAJ h x
theorem MV.zero (h : AH) : MV [] h h := ⟨⟨rfl, rfl, rfl, rfl, rfl, rfl, rfl⟩, fun x => (if_neg (fun z => nomatch z.1)).symm, fun x => (if_neg (fun z => nomatch z.1)).symm⟩
theorem MV.I {L : List Nat} {h g : AH} {r : Nat} (m : MV L h g) (hr : r ∉ L) (hn : ¬ (351 ≤ r ∧ r ≤ 354)) : MV (r :: L) h (sAI g r (mvI (hAI g r) (hf r) (hf r))) := by
  obtain ⟨m1, m2, m3⟩ := m
  refine ⟨m1, fun x => ?_, fun x => ?_⟩
  · by_cases c : x = r
    · subst c
      rw [sAI_at, m2, if_neg (fun z => hr z.1), if_pos ⟨List.mem_cons_self, hn⟩]
    · rw [sAI_ne _ _ c, m2]
      by_cases c2 : x ∈ L
      · by_cases c3 : 351 ≤ x ∧ x ≤ 354
        · rw [if_neg (fun z => z.2 c3), if_neg (fun z => z.2 c3)]
        · rw [if_pos ⟨c2, c3⟩, if_pos ⟨List.mem_cons_of_mem _ c2, c3⟩]
      · rw [if_neg (fun z => c2 z.1), if_neg (fun z => (List.mem_cons.1 z.1).elim c c2)]
  · rw [rd_hAJ_sAI, m3]
    by_cases c3 : 351 ≤ x ∧ x ≤ 354
    · by_cases c2 : x ∈ L
      · rw [if_pos ⟨c2, c3⟩, if_pos ⟨List.mem_cons_of_mem _ c2, c3⟩]
      · have nz : ¬ (x ∈ r :: L ∧ (351 ≤ x ∧ x ≤ 354)) := fun z => (List.mem_cons.1 z.1).elim (fun e => by rw [e] at c3; exact hn c3) c2
        rw [if_neg (fun z => c2 z.1), if_neg nz]
    · rw [if_neg (fun z => c3 z.2), if_neg (fun z => c3 z.2)]
theorem MV.J {L : List Nat} {h g : AH} {r : Nat} (m : MV L h g) (hr : r ∉ L) (hn : 351 ≤ r ∧ r ≤ 354) : MV (r :: L) h (sAJ g r (mvJ (hAJ g r) (hf r) (hf r))) := by
  obtain ⟨m1, m2, m3⟩ := m
  refine ⟨m1, fun x => ?_, fun x => ?_⟩
  · rw [rd_hAI_sAJ, m2]
    by_cases c3 : 351 ≤ x ∧ x ≤ 354
    · rw [if_neg (fun z => z.2 c3), if_neg (fun z => z.2 c3)]
    · by_cases c2 : x ∈ L
      · rw [if_pos ⟨c2, c3⟩, if_pos ⟨List.mem_cons_of_mem _ c2, c3⟩]
      · have nz : ¬ (x ∈ r :: L ∧ ¬ (351 ≤ x ∧ x ≤ 354)) := fun z => (List.mem_cons.1 z.1).elim (fun e => by rw [e] at c3; exact c3 hn) c2
        rw [if_neg (fun z => c2 z.1), if_neg nz]
  · by_cases c : x = r
    · subst c
      rw [sAJ_at, m3, if_neg (fun z => hr z.1), if_pos ⟨List.mem_cons_self, hn⟩]
    · rw [sAJ_ne _ _ c, m3]
      by_cases c2 : x ∈ L
      · by_cases c3 : 351 ≤ x ∧ x ≤ 354
        · rw [if_pos ⟨c2, c3⟩, if_pos ⟨List.mem_cons_of_mem _ c2, c3⟩]
        · rw [if_neg (fun z => c3 z.2), if_neg (fun z => c3 z.2)]
      · rw [if_neg (fun z => c2 z.1), if_neg (fun z => (List.mem_cons.1 z.1).elim c c2)]
theorem ly_I {d r n f j : Nat} {L : List Nat} {h g : AH} (hm : MSh h) (m : MV L h g) (hj : j < 61) (ej : r = 349 + j) (ef : f = m_fl.getD j 0) (ek : m_kl.getD j 0 = 50) (el : m_nl.getD j 0 = n + n) (hn : n ≤ 1000) (eh : hf r = n) (hr : r ∉ L) (hnn : ¬ (351 ≤ r ∧ r ≤ 354)) : ∃ g', MV (r :: L) h g' ∧ ∀ F : AH → Option Res, am_kd g 348 13 (bR (hFR g f 348) fun x => bV (am_C PG (d + 1) 198 [.ref x, .int (nI n)] g) F) = F g' := by
  have m0 := m
  obtain ⟨⟨a1, a2, a3, a4, a5, a6, a7⟩, b, c⟩ := m
  obtain ⟨s1, s2, s3⟩ := hm.2 j hj
  rw [← ej] at s1 s2 s3
  rw [← ef] at s1
  have y1 : hK g 348 = 13 := by rw [a1]; exact hm.1
  have y2 : hFR g f 348 = some r := by rw [a2]; exact s1
  have y3 : hK g r = 50 := by rw [a1, s2]; exact ek
  have y4 : hLN g r = n + n := by rw [a3, s3]; exact el
  have k := c_moves (d := d) (n := n) y3 (by omega) (by omega)
  refine ⟨_, m0.I hr hnn, fun F => ?_⟩
  rw [am_kd_t y1, y2, bR_s, k, bV_s, eh]
theorem ly_J {d r n f j : Nat} {L : List Nat} {h g : AH} (hm : MSh h) (m : MV L h g) (hj : j < 61) (ej : r = 349 + j) (ef : f = m_fl.getD j 0) (ek : m_kl.getD j 0 = 53) (el : m_nl.getD j 0 = n + n) (hn : n ≤ 1000) (eh : hf r = n) (hr : r ∉ L) (hnn : 351 ≤ r ∧ r ≤ 354) : ∃ g', MV (r :: L) h g' ∧ ∀ F : AH → Option Res, am_kd g 348 13 (bR (hFR g f 348) fun x => bV (am_C PG (d + 1) 199 [.ref x, .int (nI n)] g) F) = F g' := by
  have m0 := m
  obtain ⟨⟨a1, a2, a3, a4, a5, a6, a7⟩, b, c⟩ := m
  obtain ⟨s1, s2, s3⟩ := hm.2 j hj
  rw [← ej] at s1 s2 s3
  rw [← ef] at s1
  have y1 : hK g 348 = 13 := by rw [a1]; exact hm.1
  have y2 : hFR g f 348 = some r := by rw [a2]; exact s1
  have y3 : hK g r = 53 := by rw [a1, s2]; exact ek
  have y4 : hLN g r = n + n := by rw [a3, s3]; exact el
  have k := c_movesN (d := d) (n := n) y3 (by omega) (by omega)
  refine ⟨_, m0.J hr hnn, fun F => ?_⟩
  rw [am_kd_t y1, y2, bR_s, k, bV_s, eh]
/-- the two lines of the law -/
theorem m_ly2 {d : Nat} {g : AH} (hm : MSh g) : ∃ g', (am_kd g 348 13 (bR (hFR g 1230 348) fun r41 => am_kd g 348 13 (bR (hFR g 1230 348) fun r42 => am_kd g r42 50 (am_in (1 : Int32) (hLN g r42) (am_kd g r41 50 (am_in (0 : Int32) (hLN g r41) (am_let (sEI g r41 (Int32.toNatClampNeg (0 : Int32)) ((hAI g r42 (Int32.toNatClampNeg (1 : Int32))) - (1000 : Int32))) fun h43 => am_kd h43 348 13 (bR (hFR h43 1231 348) fun r44 => am_kd h43 348 13 (bR (hFR h43 1231 348) fun r45 => am_kd h43 r45 50 (am_in (1 : Int32) (hLN h43 r45) (am_kd h43 r44 50 (am_in (0 : Int32) (hLN h43 r44) (am_let (sEI h43 r44 (Int32.toNatClampNeg (0 : Int32)) ((hAI h43 r45 (Int32.toNatClampNeg (1 : Int32))) - (1000 : Int32))) fun h46 => am_R PG (d + 2) 200 208 [some (.ref 348), some (.int ((0 : Int32))), none] [] h46))))))))))))) = am_R PG (d + 2) 200 208 [some (.ref 348), some (.int (nI 0)), none] [] g' ∧ (hK g' = hK g ∧ hFR g' = hFR g ∧ hLN g' = hLN g ∧ hAR g' = hAR g ∧ hNX g' = hNX g ∧ hFI g' = hFI g ∧ hFJ g' = hFJ g ∧ (∀ x, hAI g' x = if x = 370 ∨ x = 371 then upd (hAI g x) 0 (hAI g x 1 - 1000) else hAI g x) ∧ ∀ x, hAJ g' x = hAJ g x) := by
  have m0 := hm.1
  have f1230 : hFR _ 1230 348 = some 370 := (hm.2 21 (by decide)).1
  have k370 : hK _ 370 = 50 := (hm.2 21 (by decide)).2.1
  have n370 : hLN _ 370 = 2 := (hm.2 21 (by decide)).2.2
  have f1231 : hFR _ 1231 348 = some 371 := (hm.2 22 (by decide)).1
  have k371 : hK _ 371 = 50 := (hm.2 22 (by decide)).2.1
  have n371 : hLN _ 371 = 2 := (hm.2 22 (by decide)).2.2
  have i0 : ∀ x, am_in (0 : Int32) 2 x = x := am_inN (i := 0) (by decide) (by decide)
  have i1 : ∀ x, am_in (1 : Int32) 2 x = x := am_inN (i := 1) (by decide) (by decide)
  have t1 : Int32.toNatClampNeg (1 : Int32) = 1 := by decide
  refine ⟨sEI (sEI g 370 0 (hAI g 370 1 - 1000)) 371 0 (hAI g 371 1 - 1000), ?_, rfl, rfl, rfl, rfl, rfl, rfl, rfl, fun x => ?_, fun x => rfl⟩
  · have w1 : hK (sEI g 370 0 (hAI g 370 1 - 1000)) 348 = 13 := by rw [rd_hK_sEI]; exact m0
    have w2 : hFR (sEI g 370 0 (hAI g 370 1 - 1000)) 1231 348 = some 371 := by rw [rd_hFR_sEI]; exact f1231
    have w3 : hK (sEI g 370 0 (hAI g 370 1 - 1000)) 371 = 50 := by rw [rd_hK_sEI]; exact k371
    have w4 : hLN (sEI g 370 0 (hAI g 370 1 - 1000)) 371 = 2 := by rw [rd_hLN_sEI]; exact n371
    have w5 : hAI (sEI g 370 0 (hAI g 370 1 - 1000)) 371 = hAI g 371 := sEI_ne _ _ _ (by decide)
    rw [am_kd_t m0, f1230, bR_s, am_kd_t m0, bR_s, am_kd_t k370, n370, i1, am_kd_t k370, i0, am_let_e, t1, nI_cl0, am_kd_t w1, w2, bR_s, am_kd_t w1, bR_s, am_kd_t w3, w4, i1, am_kd_t w3, i0, am_let_e, w5, nI_0]
  · by_cases c1 : x = 371
    · subst c1
      rw [sEI_at, sEI_ne _ _ _ (by decide), if_pos (Or.inr rfl)]
    · rw [sEI_ne _ _ _ c1]
      by_cases c2 : x = 370
      · subst c2
        rw [sEI_at, if_pos (Or.inl rfl)]
      · rw [sEI_ne _ _ _ c2, if_neg (by omega)]
def lyL : List Nat := [372, 369, 368, 367, 366, 365, 364, 363, 362, 361, 360, 359, 358, 357, 356, 355, 353, 352, 351, 350]
/-- what lays did, but for the hours between places -/
def LY0 (h g : AH) : Prop := hK g = hK h ∧ hFR g = hFR h ∧ hLN g = hLN h ∧ hAR g = hAR h ∧ hNX g = hNX h ∧ hFI g = hFI h ∧ hFJ g = hFJ h ∧ (∀ x, hAI g x = if x = 370 ∨ x = 371 then upd (hAI h x) 0 (hAI h x 1 - 1000) else if x ∈ lyL ∧ ¬ (351 ≤ x ∧ x ≤ 354) then mvI (hAI h x) (hf x) (hf x) else hAI h x) ∧ ∀ x, hAJ g x = if x ∈ lyL ∧ (351 ≤ x ∧ x ≤ 354) then mvJ (hAJ h x) (hf x) (hf x) else hAJ h x
theorem m_lays0 {d : Nat} {h : AH} (hm : MSh h) : ∃ g, am_C PG (d + 2) 200 [.ref 348] h = am_R PG (d + 2) 200 208 [some (.ref 348), some (.int (nI 0)), none] [] g ∧ LY0 h g := by
  have y0 := MV.zero h
  obtain ⟨g1, y1, e1⟩ := ly_I (d := d) (r := 350) (n := 5) (f := 1210) (j := 1) hm y0 (by decide) rfl rfl rfl rfl (by decide) rfl (by decide) (by decide)
  obtain ⟨g2, y2, e2⟩ := ly_J (d := d) (r := 351) (n := 5) (f := 1211) (j := 2) hm y1 (by decide) rfl rfl rfl rfl (by decide) rfl (by decide) (by decide)
  obtain ⟨g3, y3, e3⟩ := ly_J (d := d) (r := 352) (n := 6) (f := 1212) (j := 3) hm y2 (by decide) rfl rfl rfl rfl (by decide) rfl (by decide) (by decide)
  obtain ⟨g4, y4, e4⟩ := ly_J (d := d) (r := 353) (n := 4) (f := 1213) (j := 4) hm y3 (by decide) rfl rfl rfl rfl (by decide) rfl (by decide) (by decide)
  obtain ⟨g5, y5, e5⟩ := ly_I (d := d) (r := 355) (n := 5) (f := 1215) (j := 6) hm y4 (by decide) rfl rfl rfl rfl (by decide) rfl (by decide) (by decide)
  obtain ⟨g6, y6, e6⟩ := ly_I (d := d) (r := 356) (n := 25) (f := 1216) (j := 7) hm y5 (by decide) rfl rfl rfl rfl (by decide) rfl (by decide) (by decide)
  obtain ⟨g7, y7, e7⟩ := ly_I (d := d) (r := 357) (n := 6) (f := 1217) (j := 8) hm y6 (by decide) rfl rfl rfl rfl (by decide) rfl (by decide) (by decide)
  obtain ⟨g8, y8, e8⟩ := ly_I (d := d) (r := 358) (n := 6) (f := 1218) (j := 9) hm y7 (by decide) rfl rfl rfl rfl (by decide) rfl (by decide) (by decide)
  obtain ⟨g9, y9, e9⟩ := ly_I (d := d) (r := 359) (n := 6) (f := 1219) (j := 10) hm y8 (by decide) rfl rfl rfl rfl (by decide) rfl (by decide) (by decide)
  obtain ⟨g10, y10, e10⟩ := ly_I (d := d) (r := 360) (n := 6) (f := 1220) (j := 11) hm y9 (by decide) rfl rfl rfl rfl (by decide) rfl (by decide) (by decide)
  obtain ⟨g11, y11, e11⟩ := ly_I (d := d) (r := 361) (n := 6) (f := 1221) (j := 12) hm y10 (by decide) rfl rfl rfl rfl (by decide) rfl (by decide) (by decide)
  obtain ⟨g12, y12, e12⟩ := ly_I (d := d) (r := 362) (n := 4) (f := 1222) (j := 13) hm y11 (by decide) rfl rfl rfl rfl (by decide) rfl (by decide) (by decide)
  obtain ⟨g13, y13, e13⟩ := ly_I (d := d) (r := 363) (n := 4) (f := 1223) (j := 14) hm y12 (by decide) rfl rfl rfl rfl (by decide) rfl (by decide) (by decide)
  obtain ⟨g14, y14, e14⟩ := ly_I (d := d) (r := 364) (n := 4) (f := 1224) (j := 15) hm y13 (by decide) rfl rfl rfl rfl (by decide) rfl (by decide) (by decide)
  obtain ⟨g15, y15, e15⟩ := ly_I (d := d) (r := 365) (n := 6) (f := 1225) (j := 16) hm y14 (by decide) rfl rfl rfl rfl (by decide) rfl (by decide) (by decide)
  obtain ⟨g16, y16, e16⟩ := ly_I (d := d) (r := 366) (n := 6) (f := 1226) (j := 17) hm y15 (by decide) rfl rfl rfl rfl (by decide) rfl (by decide) (by decide)
  obtain ⟨g17, y17, e17⟩ := ly_I (d := d) (r := 367) (n := 6) (f := 1227) (j := 18) hm y16 (by decide) rfl rfl rfl rfl (by decide) rfl (by decide) (by decide)
  obtain ⟨g18, y18, e18⟩ := ly_I (d := d) (r := 368) (n := 6) (f := 1228) (j := 19) hm y17 (by decide) rfl rfl rfl rfl (by decide) rfl (by decide) (by decide)
  obtain ⟨g19, y19, e19⟩ := ly_I (d := d) (r := 369) (n := 24) (f := 1229) (j := 20) hm y18 (by decide) rfl rfl rfl rfl (by decide) rfl (by decide) (by decide)
  obtain ⟨g20, y20, e20⟩ := ly_I (d := d) (r := 372) (n := 1000) (f := 1232) (j := 23) hm y19 (by decide) rfl rfl rfl rfl (by decide) rfl (by decide) (by decide)
  obtain ⟨⟨a1, a2, a3, a4, a5, a6, a7⟩, b, c⟩ := y20
  have hmN : MSh g20 := MSh.to (h := h) a1 (fun k => by rw [a2]) a3 hm
  obtain ⟨gz, ez, hz⟩ := m_ly2 (d := d) hmN
  refine ⟨gz, ?_, ?_⟩
  · refine Eq.trans (q_X12_lays (d + 1) 348 h) ?_
    refine Eq.trans (e1 _) ?_
    refine Eq.trans (e2 _) ?_
    refine Eq.trans (e3 _) ?_
    refine Eq.trans (e4 _) ?_
    refine Eq.trans (e5 _) ?_
    refine Eq.trans (e6 _) ?_
    refine Eq.trans (e7 _) ?_
    refine Eq.trans (e8 _) ?_
    refine Eq.trans (e9 _) ?_
    refine Eq.trans (e10 _) ?_
    refine Eq.trans (e11 _) ?_
    refine Eq.trans (e12 _) ?_
    refine Eq.trans (e13 _) ?_
    refine Eq.trans (e14 _) ?_
    refine Eq.trans (e15 _) ?_
    refine Eq.trans (e16 _) ?_
    refine Eq.trans (e17 _) ?_
    refine Eq.trans (e18 _) ?_
    refine Eq.trans (e19 _) ?_
    refine Eq.trans (e20 _) ?_
    exact ez
  · obtain ⟨z1, z2, z3, z4, z5, z6, z7, z8, z9⟩ := hz
    refine ⟨z1.trans a1, z2.trans a2, z3.trans a3, z4.trans a4, z5.trans a5, z6.trans a6, z7.trans a7, fun x => ?_, fun x => ?_⟩
    · rw [z8]
      by_cases c1 : x = 370 ∨ x = 371
      · rw [if_pos c1, if_pos c1, b, if_neg (fun z => by rcases c1 with rfl | rfl <;> exact absurd z.1 (by decide))]
      · rw [if_neg c1, if_neg c1, b]
        rfl
    · rw [z9, c]
      rfl
/-! the hours between places -/
theorem ix25 {k : Nat} (hk : k < 25) : nI k / (5 : Int32) = nI (k / 5) ∧ am_rem (nI k) (5 : Int32) = nI (k % 5) ∧ Int32.toNatClampNeg (nI k) = k ∧ (∀ x, am_in (nI k) 25 x = x) ∧ ∀ x, am_dz (5 : Int32) x = x := by
  refine ⟨pk_div (d := 5) (by omega) (by decide) (by decide), rem_nI (d := 5) (by omega) (by decide) (by decide), nI_clamp (by omega), am_inN (by omega) (by decide), am_dz_t (by decide)⟩
/-- the steps lie in the model -/
def HtS (g : AH) (S : Nat → Nat → Nat) : Prop := MSh g ∧ (∀ i j, i < 5 → j < 5 → hAI g 356 (5 * i + j) = nI (S i j)) ∧ (∀ i j, S i j ≤ 9) ∧ ∀ i j, (5 ≤ i ∨ 5 ≤ j) → S i j = 0
theorem r_h208 {d : Nat} {g : AH} {S : Nat → Nat → Nat} (w : HtS g S) : ∀ k j, j + k = 25 → ∀ f : Nat → Int32, (∀ i, i < j → f i = nI (ds0 S (i / 5) (i % 5))) → ∃ f', am_R PG (d + 1) 200 208 [some (.ref 348), some (.int (nI j)), none] [] (sAI g 385 f) = am_R PG (d + 1) 200 262 [some (.ref 348), some (.int (nI 0)), none] [] (sAI g 385 f') ∧ ∀ i, i < 25 → f' i = nI (ds0 S (i / 5) (i % 5))
  | 0, j, hj, f, hf => by
    refine ⟨f, ?_, fun i hi => hf i (by omega)⟩
    rw [q_X12_lays_208, if_neg (show ¬ nI j < (25 : Int32) from nI_nlt (b := 25) (by omega) (by omega)), nI_0]
  | k + 1, j, hj, f, hf => by
    obtain ⟨hm, w2, w3, w4⟩ := w
    have w : HtS g S := ⟨hm, w2, w3, w4⟩
    have m0 := hm.1
    have f1216 : hFR _ 1216 348 = some 356 := (hm.2 7 (by decide)).1
    have k356 : hK _ 356 = 50 := (hm.2 7 (by decide)).2.1
    have n356 : hLN _ 356 = 50 := (hm.2 7 (by decide)).2.2
    have f1247 : hFR _ 1247 348 = some 385 := (hm.2 36 (by decide)).1
    have k385 : hK _ 385 = 50 := (hm.2 36 (by decide)).2.1
    have n385 : hLN _ 385 = 25 := (hm.2 36 (by decide)).2.2
    obtain ⟨x1, x2, x3, x4, x5⟩ := ix25 (k := j) (by omega)
    have v : ∀ u, j = u → hAI g 356 u = nI (S (j / 5) (j % 5)) := fun u e => by rw [← w2 _ _ (by omega) (by omega), ← e]; congr 1; omega
    have v := v j rfl
    have s9 := w3 (j / 5) (j % 5)
    have y1 : hK (sAI g 385 f) 348 = 13 := by rw [rd_hK_sAI]; exact m0
    have y2 : hFR (sAI g 385 f) 1247 348 = some 385 := by rw [rd_hFR_sAI]; exact f1247
    have y3 : hFR (sAI g 385 f) 1216 348 = some 356 := by rw [rd_hFR_sAI]; exact f1216
    have y4 : hK (sAI g 385 f) 385 = 50 := by rw [rd_hK_sAI]; exact k385
    have y5 : hLN (sAI g 385 f) 385 = 25 := by rw [rd_hLN_sAI]; exact n385
    have y6 : hK (sAI g 385 f) 356 = 50 := by rw [rd_hK_sAI]; exact k356
    have y7 : hLN (sAI g 385 f) 356 = 50 := by rw [rd_hLN_sAI]; exact n356
    have y8 : hAI (sAI g 385 f) 356 j = nI (S (j / 5) (j % 5)) := by rw [sAI_ne _ _ (by decide)]; exact v
    have x50 : ∀ x, am_in (nI j) 50 x = x := am_inN (by omega) (by decide)
    obtain ⟨f', g1, g2⟩ := r_h208 (d := d) w k (j + 1) (by omega) (upd f j (nI (ds0 S (j / 5) (j % 5)))) (fun i hi => by
      by_cases c : i = j
      · rw [c, pk_us]
      · rw [pk_un c]
        exact hf i (by omega))
    refine ⟨f', ?_, g2⟩
    rw [← g1, q_X12_lays_208, if_pos (show nI j < (25 : Int32) from nI_lt (b := 25) (by omega) (by decide)), am_kd_t y1, y2, bR_s, x5, x5, x1, x2]
    unfold ds0
    by_cases c : j / 5 = j % 5
    · rw [if_pos (by rw [c]), am_kd_t y4, y5, x4, am_let_e, x3, sEI_sAI, nI_1, if_pos c, nI_0]
    · rw [if_neg (fun z => c ((nI_eq (by omega) (by omega)).1 z)), am_kd_t y1, y3, bR_s, am_kd_t y6, y7, x50, x3, y8, if_neg c]
      by_cases c2 : 0 < S (j / 5) (j % 5)
      · rw [if_pos (show (0 : Int32) < nI (S (j / 5) (j % 5)) from nI_lt (a := 0) c2 (by omega)), am_kd_t y1, bR_s, am_kd_t y6, y7, x50, y8, am_kd_t y4, y5, x4, am_let_e, sEI_sAI, nI_1, if_pos c2]
      · rw [if_neg (show ¬ (0 : Int32) < nI (S (j / 5) (j % 5)) from nI_nlt (a := 0) (by omega) (by omega)), am_kd_t y4, y5, x4, am_let_e, sEI_sAI, nI_1, if_neg c2]
        rfl
theorem r_h269 {d o B : Nat} {g : AH} {S : Nat → Nat → Nat} {D : Nat → Nat → Nat} (w : HtS g S) (hD : DI 5 B D) (hB : B ≤ 1000) (ho : o < 5) : ∀ k j, j + k = 25 → ∀ f : Nat → Int32, (∀ i, i < 25 → f i = nI (if i < j then fw D o (i / 5) (i % 5) else D (i / 5) (i % 5))) → ∃ f', am_R PG (d + 2) 200 269 [some (.ref 348), some (.int (nI o)), some (.int (nI j))] [] (sAI g 385 f) = am_R PG (d + 2) 200 262 [some (.ref 348), some (.int (nI (o + 1))), none] [] (sAI g 385 f') ∧ ∀ i, i < 25 → f' i = nI (fw D o (i / 5) (i % 5))
  | 0, j, hj, f, hf => by
    refine ⟨f, ?_, fun i hi => by rw [hf i hi, if_pos (by omega)]⟩
    rw [q_X12_lays_269, if_neg (show ¬ nI j < (25 : Int32) from nI_nlt (b := 25) (by omega) (by omega)), nI_1]
  | k + 1, j, hj, f, hf => by
    obtain ⟨hm, w2, w3, w4⟩ := w
    have w : HtS g S := ⟨hm, w2, w3, w4⟩
    have m0 := hm.1
    have f1247 : hFR _ 1247 348 = some 385 := (hm.2 36 (by decide)).1
    have k385 : hK _ 385 = 50 := (hm.2 36 (by decide)).2.1
    have n385 : hLN _ 385 = 25 := (hm.2 36 (by decide)).2.2
    obtain ⟨x1, x2, x3, x4, x5⟩ := ix25 (k := j) (by omega)
    have y1 : hK (sAI g 385 f) 348 = 13 := by rw [rd_hK_sAI]; exact m0
    have y2 : hFR (sAI g 385 f) 1247 348 = some 385 := by rw [rd_hFR_sAI]; exact f1247
    have y4 : hK (sAI g 385 f) 385 = 50 := by rw [rd_hK_sAI]; exact k385
    have y5 : hLN (sAI g 385 f) 385 = 25 := by rw [rd_hLN_sAI]; exact n385
    have fj := hf j (by omega)
    rw [if_neg (by omega)] at fj
    obtain ⟨d1, d2, d3⟩ := hD
    have fa := hf (5 * (j / 5) + o) (by omega)
    have ea : (5 * (j / 5) + o) / 5 = j / 5 := by omega
    have eb : (5 * (j / 5) + o) % 5 = o := by omega
    rw [ea, eb] at fa
    have fa : f (5 * (j / 5) + o) = nI (D (j / 5) o) := by
      rw [fa]
      by_cases c : 5 * (j / 5) + o < j
      · rw [if_pos c]
        unfold fw
        rw [d1 o ho, Nat.add_zero, if_neg (by omega)]
      · rw [if_neg c]
    have fb := hf (5 * o + j % 5) (by omega)
    have ec : (5 * o + j % 5) / 5 = o := by omega
    have ed : (5 * o + j % 5) % 5 = j % 5 := by omega
    rw [ec, ed] at fb
    have fb : f (5 * o + j % 5) = nI (D o (j % 5)) := by
      rw [fb]
      by_cases c : 5 * o + j % 5 < j
      · rw [if_pos c]
        unfold fw
        rw [d1 o ho, Nat.zero_add, if_neg (by omega)]
      · rw [if_neg c]
    have u1 := d2 (j / 5) o
    have u2 := d2 o (j % 5)
    have u3 := d2 (j / 5) (j % 5)
    have s1 : nI (j / 5) * (5 : Int32) + nI o = nI (5 * (j / 5) + o) := by rw [show (5 : Int32) = nI 5 from rfl, pk_mul, nI_add, Nat.mul_comm]
    have s2 : (5 : Int32) * nI o + nI (j % 5) = nI (5 * o + j % 5) := by rw [show (5 : Int32) = nI 5 from rfl, pk_mul, nI_add]
    have xa : ∀ x, am_in (nI (5 * (j / 5) + o)) 25 x = x := am_inN (by omega) (by decide)
    have xb : ∀ x, am_in (nI (5 * o + j % 5)) 25 x = x := am_inN (by omega) (by decide)
    have ta : Int32.toNatClampNeg (nI (5 * (j / 5) + o)) = 5 * (j / 5) + o := nI_clamp (by omega)
    have tb : Int32.toNatClampNeg (nI (5 * o + j % 5)) = 5 * o + j % 5 := nI_clamp (by omega)
    have mn := c_min d (nI (D (j / 5) (j % 5))) (nI (D (j / 5) o) + nI (D o (j % 5))) (sAI g 385 f)
    have mv : (if nI (D (j / 5) o) + nI (D o (j % 5)) < nI (D (j / 5) (j % 5)) then nI (D (j / 5) o) + nI (D o (j % 5)) else nI (D (j / 5) (j % 5))) = nI (fw D o (j / 5) (j % 5)) := by
      unfold fw
      rw [nI_add]
      by_cases c : D (j / 5) o + D o (j % 5) < D (j / 5) (j % 5)
      · rw [if_pos (nI_lt c (by omega)), if_pos c]
      · rw [if_neg (nI_nlt (by omega) (by omega)), if_neg c]
    rw [mv] at mn
    obtain ⟨f', g1, g2⟩ := r_h269 (d := d) w ⟨d1, d2, d3⟩ hB ho k (j + 1) (by omega) (upd f j (nI (fw D o (j / 5) (j % 5)))) (fun i hi => by
      by_cases c : i = j
      · rw [c, pk_us, if_pos (by omega)]
      · rw [pk_un c, hf i hi]
        by_cases c2 : i < j
        · rw [if_pos c2, if_pos (by omega)]
        · rw [if_neg c2, if_neg (by omega)])
    refine ⟨f', ?_, g2⟩
    rw [← g1, q_X12_lays_269, if_pos (show nI j < (25 : Int32) from nI_lt (b := 25) (by omega) (by decide)), am_kd_t y1, y2, bR_s, am_kd_t y1, bR_s, am_kd_t y4, y5, x4, am_kd_t y1, bR_s, x5, x1, s1, am_kd_t y4, y5, xa, am_kd_t y1, bR_s, x5, x2, s2, am_kd_t y4, y5, xb, x3, ta, tb, sAI_at, fj, fa, fb, mn, bI_s, am_kd_t y4, y5, x4, am_let_e, sEI_sAI, nI_1]
theorem r_h262 {d : Nat} {g : AH} {S : Nat → Nat → Nat} (w : HtS g S) : ∀ k o, o + k = 5 → ∀ f : Nat → Int32, (∀ i, i < 25 → f i = nI (fwN S o (i / 5) (i % 5))) → ∃ f', am_R PG (d + 2) 200 262 [some (.ref 348), some (.int (nI o)), none] [] (sAI g 385 f) = some (none, sAI g 385 f') ∧ ∀ i, i < 25 → f' i = nI (fwN S 5 (i / 5) (i % 5))
  | 0, o, ho, f, hf => by
    have eo : o = 5 := by omega
    refine ⟨f, ?_, fun i hi => by subst eo; exact hf i hi⟩
    rw [q_X12_lays_262, if_neg (show ¬ nI o < (5 : Int32) from nI_nlt (b := 5) (by omega) (by omega))]
  | k + 1, o, ho, f, hf => by
    have e : 2 ^ o ≤ 2 ^ 5 := Nat.pow_le_pow_right (by decide) (by omega)
    have e2 : (2 : Nat) ^ 5 = 32 := by decide
    obtain ⟨f1, g1, g2⟩ := r_h269 (d := d) w (DI.N w.2.2.1 w.2.2.2 o (by omega)) (by omega) (show o < 5 by omega) 25 0 rfl f (fun i hi => by rw [hf i hi, if_neg (by omega)])
    obtain ⟨f2, e1, e3⟩ := r_h262 (d := d) w k (o + 1) (by omega) f1 g2
    refine ⟨f2, ?_, e3⟩
    rw [← e1, ← g1, q_X12_lays_262, if_pos (show nI o < (5 : Int32) from nI_lt (b := 5) (by omega) (by decide)), nI_0]
/-- what lays did -/
def LY (h g : AH) (S : Nat → Nat → Nat) : Prop := hK g = hK h ∧ hFR g = hFR h ∧ hLN g = hLN h ∧ hAR g = hAR h ∧ hNX g = hNX h ∧ hFI g = hFI h ∧ hFJ g = hFJ h ∧ (∀ x, x ≠ 385 → hAI g x = if x = 370 ∨ x = 371 then upd (hAI h x) 0 (hAI h x 1 - 1000) else if x ∈ lyL ∧ ¬ (351 ≤ x ∧ x ≤ 354) then mvI (hAI h x) (hf x) (hf x) else hAI h x) ∧ (∀ x, hAJ g x = if x ∈ lyL ∧ (351 ≤ x ∧ x ≤ 354) then mvJ (hAJ h x) (hf x) (hf x) else hAJ h x) ∧ ∀ i j, i < 5 → j < 5 → hAI g 385 (5 * i + j) = nI (fwN S 5 i j)
theorem m_lays {d : Nat} {h : AH} {S : Nat → Nat → Nat} (hm : MSh h) (hS : ∀ i j, i < 5 → j < 5 → hAI h 356 (25 + (5 * i + j)) = nI (S i j)) (h9 : ∀ i j, S i j ≤ 9) (h0 : ∀ i j, (5 ≤ i ∨ 5 ≤ j) → S i j = 0) : ∃ g, am_C PG (d + 2) 200 [.ref 348] h = some (none, g) ∧ LY h g S := by
  obtain ⟨g, e1, z1, z2, z3, z4, z5, z6, z7, z8, z9⟩ := m_lays0 (d := d) hm
  have w : HtS g S := by
    refine ⟨MSh.to (h := h) z1 (fun k => by rw [z2]) z3 hm, fun i j hi hj => ?_, h9, h0⟩
    rw [z8, if_neg (by decide), if_pos ⟨by decide, by decide⟩]
    unfold mvI
    rw [if_pos (show 5 * i + j < hf 356 from (show 5 * i + j < 25 by omega))]
    exact hS i j hi hj
  obtain ⟨f1, e2, e3⟩ := r_h208 (d := d + 1) w 25 0 rfl (hAI g 385) (fun i hi => absurd hi (Nat.not_lt_zero _))
  obtain ⟨f2, e4, e5⟩ := r_h262 (d := d) w 5 0 rfl f1 e3
  rw [sAI_self] at e2
  refine ⟨sAI g 385 f2, ?_, ?_⟩
  · rw [e1, e2, e4]
  · refine ⟨by rw [rd_hK_sAI, z1], by rw [rd_hFR_sAI, z2], by rw [rd_hLN_sAI, z3], by rw [rd_hAR_sAI, z4], by rw [rd_hNX_sAI, z5], by rw [rd_hFI_sAI, z6], by rw [rd_hFJ_sAI, z7], fun x hx => by rw [sAI_ne _ _ hx, z8], fun x => by rw [rd_hAJ_sAI, z9], fun i j hi hj => ?_⟩
    rw [sAI_at, e5 _ (by omega), show (5 * i + j) / 5 = i by omega, show (5 * i + j) % 5 = j by omega]

