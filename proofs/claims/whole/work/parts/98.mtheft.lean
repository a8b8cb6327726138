/-! Thefts: the reference's side. -/
def rvB (G : Nat → Bool) (m y : Nat) : Bool := decide (y + 1 ≤ m) && G (m - (y + 1))
theorem cnt_rev1 (G : Nat → Bool) (m : Nat) : ∀ y, y ≤ m → cntB (rvB G m) y + cntB G (m - y) = cntB G m
  | 0, _ => Nat.zero_add _
  | y + 1, h => by
    have := cnt_rev1 G m y (by omega)
    obtain ⟨k, hk⟩ : ∃ k, m - y = k + 1 := ⟨m - y - 1, by omega⟩
    rw [hk] at this
    have e : m - (y + 1) = k := by omega
    have r : rvB G m y = G k := by
      unfold rvB
      rw [e, decide_eq_true h, Bool.true_and]
    show cntB (rvB G m) y + (if rvB G m y then 1 else 0) + cntB G (m - (y + 1)) = _
    rw [e, r]
    have r2 : cntB G (k + 1) = cntB G k + (if G k then 1 else 0) := rfl
    omega
theorem cnt_rev2 (G : Nat → Bool) (m : Nat) : ∀ k, cntB (rvB G m) (m + k) = cntB (rvB G m) m
  | 0 => rfl
  | k + 1 => by
    have r : rvB G m (m + k) = false := by
      unfold rvB
      rw [decide_eq_false (by omega), Bool.false_and]
    show cntB (rvB G m) (m + k) + (if rvB G m (m + k) then 1 else 0) = _
    rw [r, cnt_rev2 G m k]
    rfl
theorem cnt_rev {G : Nat → Bool} {m H : Nat} (h : m ≤ H) : cntB (rvB G m) H = cntB G m := by
  obtain ⟨k, rfl⟩ : ∃ k, H = m + k := ⟨H - m, by omega⟩
  rw [cnt_rev2]
  have := cnt_rev1 G m m (Nat.le_refl _)
  rw [Nat.sub_self] at this
  exact this
def h3 (s : Nat × Nat × Bool) (dr : Int32) : M4 := (nI s.1, nI s.2.1, bi s.2.2, dr)
theorem c_goesN {dp n c hr hN : Nat} {W : Int32 → Int32 → Int32 → Int32 → Int32} {g : AH} {f : Nat → Int32} {ρ : Nat → Nat → Int32} {s : Nat × Nat × Bool} {dr : Int32} (hm : MSh g) (hl : MoL g n W) (hc : c < 6) (hh : hr < 2 ^ 31) (hho : hAI g 359 c = nI hN) (h9 : hN ≤ 999) (hs : s.1 ≤ hN) :
    ∃ τ, am_C PG (dp + 5) 213 [.ref 348, .int (nI c), .int (nI hr)] (HM g f ρ (h3 s dr)) = some (none, HM g f τ (h3 (nst (vN W (hAI g 357) (hAI g 361) (hAI g 369) c) (dewN (hAI g 357) c) (decide (hAI g 357 c = 1)) hN (incN (hAI g 357) c) hr s) dr)) := by
  obtain ⟨τ, k⟩ := c_goesM (dp := dp) (f := f) (ρ := ρ) hm hl (show c < 12 by omega) hh (h3 s dr) (by rw [hho]; exact nI_nlt hs (by omega)) (by rw [hho]; exact nI_lt (b := 1000) (by omega) (by decide))
  have e : ((h3 s dr).1, (h3 s dr).2.1, (h3 s dr).2.2.1) = e3 s := rfl
  rw [e, xclk_n hh hho h9 hs] at k
  exact ⟨τ, k⟩
theorem c_isTheft {d len c n at_ x hN mN : Nat} {W : Int32 → Int32 → Int32 → Int32 → Int32} {g : AH} {f : Nat → Int32} {ρ : Nat → Nat → Int32} {w : M4} {sh : Int32} (hm : MSh g) (hl : MoL g len W) (hc : c < 6) (hho : hAI g 359 c = nI hN) (h9 : hN ≤ 999) (hm0 : mN ≤ hN) (hh : hAI g 360 c = nI mN) (hn : n ≤ 48) (hat : at_ < n) (hx : x ≤ 999) :
    ∃ τ y, am_C PG (d + 6) 256 [.ref 348, .int (nI c), .int (nI at_), .int (nI x), .int sh, .int (nI n)] (HM g f ρ w) = some (some (.int (bi (decide (x ≤ (nrun (vN W (hAI g 357) (hAI g 361) (hAI g 369) c) (dewN (hAI g 357) c) (decide (hAI g 357 c = 1)) hN (incN (hAI g 357) c) 0 (mN, 0, false) at_).1) && nG (vN W (hAI g 357) (hAI g 361) (hAI g 369) c) (dewN (hAI g 357) c) (decide (hAI g 357 c = 1)) hN (incN (hAI g 357) c) at_ (nrun (vN W (hAI g 357) (hAI g 361) (hAI g 369) c) (dewN (hAI g 357) c) (decide (hAI g 357 c = 1)) hN (incN (hAI g 357) c) 0 (mN, 0, false) at_).2 sh (n - at_) ((nrun (vN W (hAI g 357) (hAI g 361) (hAI g 369) c) (dewN (hAI g 357) c) (decide (hAI g 357 c = 1)) hN (incN (hAI g 357) c) 0 (mN, 0, false) at_).1 - x)))), HM g f τ y) := by
  have hmm := hm
  have m0 := hmm.1
  have f1220 : hFR _ 1220 348 = some 360 := (hmm.2 11 (by decide)).1
  have k360 : hK _ 360 = 50 := (hmm.2 11 (by decide)).2.1
  have n360 : hLN _ 360 = 12 := (hmm.2 11 (by decide)).2.2
  have ec : ∀ x, am_in (nI c) 12 x = x := am_inN (by omega) (by decide)
  have tc : Int32.toNatClampNeg (nI c) = c := nI_clamp (by omega)
  have o360 : ∀ f ρ w, hAI (HM g f ρ w) 360 = hAI g 360 := fun _ _ _ => hm_o _ _ _ _ (by decide) (by decide)
  generalize hQ : am_C PG (d + 6) 256 [.ref 348, .int (nI c), .int (nI at_), .int (nI x), .int sh, .int (nI n)] (HM g f ρ w) = Q
  have hb := fun i => nrun_ho (v := vN W (hAI g 357) (hAI g 361) (hAI g 369) c) (dew := dewN (hAI g 357) c) (old := decide (hAI g 357 c = 1)) (hr := 0) (s := (mN, 0, false)) hm0 (incN_le (hAI g 357) c) i
  have lp : ∀ i, i ≤ at_ → ∃ τ, Q = am_R PG (d + 6) 256 23 [some (.ref 348), some (.int (nI c)), some (.int (nI at_)), some (.int (nI x)), some (.int sh), some (.int (nI n)), some (.int (nI i))] [] (HM g f τ (h3 (nrun (vN W (hAI g 357) (hAI g 361) (hAI g 369) c) (dewN (hAI g 357) c) (decide (hAI g 357 c = 1)) hN (incN (hAI g 357) c) 0 (mN, 0, false) i) w.2.2.2)) := by
    intro i
    induction i with
    | zero =>
      intro _
      refine ⟨ρ, ?_⟩
      rw [← hQ, q_X12_isTheft]
      simp only [hm_K, hm_R, hm_L, hm_at, hm_5, hm_6, hm_7, hm_8, hm_s5, hm_s6, hm_s7, hm_s8, am_kd, m0, f1220, k360, n360, if_true, bR_s, ec, tc, o360, hh, am_let_e]
      rfl
    | succ i ih =>
      intro hi
      obtain ⟨τ, k1⟩ := ih (by omega)
      obtain ⟨τ2, k2⟩ := c_goesN (dp := d) (hr := i) (f := f) (ρ := τ) (dr := w.2.2.2) hm hl hc (by omega) hho h9 (hb i).1
      have e5 : (nI i < nI n) = True := eq_true (nI_lt (by omega) (by omega))
      have e6 : (nI i = nI at_) = False := eq_false (fun z => by have := (nI_eq (by omega) (by omega)).1 z; omega)
      have hrn : nrun (vN W (hAI g 357) (hAI g 361) (hAI g 369) c) (dewN (hAI g 357) c) (decide (hAI g 357 c = 1)) hN (incN (hAI g 357) c) 0 (mN, 0, false) (i + 1) = nst (vN W (hAI g 357) (hAI g 361) (hAI g 369) c) (dewN (hAI g 357) c) (decide (hAI g 357 c = 1)) hN (incN (hAI g 357) c) (0 + i) (nrun (vN W (hAI g 357) (hAI g 361) (hAI g 369) c) (dewN (hAI g 357) c) (decide (hAI g 357 c = 1)) hN (incN (hAI g 357) c) 0 (mN, 0, false) i) := rfl
      rw [Nat.zero_add] at hrn
      refine ⟨τ2, ?_⟩
      rw [k1, q_X12_isTheft_23, hrn]
      simp only [hm_K, am_kd, m0, if_true, if_false, e5, e6, k2, bV_s, nI_1]
  obtain ⟨τ, k1⟩ := lp at_ (Nat.le_refl _)
  obtain ⟨hb1, hb2, hb3⟩ := hb at_
  dsimp only at hb3
  generalize nrun (vN W (hAI g 357) (hAI g 361) (hAI g 369) c) (dewN (hAI g 357) c) (decide (hAI g 357 c = 1)) hN (incN (hAI g 357) c) 0 (mN, 0, false) at_ = s at k1 hb1 hb3 ⊢
  obtain ⟨a, s⟩ := s
  dsimp only at hb1 hb3 ⊢
  have e5 : (nI at_ < nI n) = True := eq_true (nI_lt (by omega) (by omega))
  have hw : (h3 (a, s) w.2.2.2).1 = nI a := rfl
  by_cases cx : x ≤ a
  · have d1 : (nI a < nI x) = False := eq_false (nI_nlt cx (by omega))
    have hsub : nI a - nI x = nI (a - x) := pk_sub cx
    have hax : (a - x, s).1 ≤ hN := by dsimp only; omega
    have hb4 := fun j => nrun_ho (v := vN W (hAI g 357) (hAI g 361) (hAI g 369) c) (dew := dewN (hAI g 357) c) (old := decide (hAI g 357 c = 1)) (hr := at_) (s := (a - x, s)) hax (incN_le (hAI g 357) c) j
    have lp2 : ∀ j, j < n - at_ → ∃ τ, Q = am_R PG (d + 6) 256 23 [some (.ref 348), some (.int (nI c)), some (.int (nI at_)), some (.int (nI x)), some (.int sh), some (.int (nI n)), some (.int (nI (at_ + (j + 1))))] [] (HM g f τ (h3 (nrun (vN W (hAI g 357) (hAI g 361) (hAI g 369) c) (dewN (hAI g 357) c) (decide (hAI g 357 c = 1)) hN (incN (hAI g 357) c) at_ (a - x, s) (j + 1)) w.2.2.2)) := by
      intro j
      induction j with
      | zero =>
        intro _
        obtain ⟨τ2, k2⟩ := c_goesN (dp := d) (hr := at_) (f := f) (ρ := τ) (s := (a - x, s)) (dr := w.2.2.2) hm hl hc (by omega) hho h9 hax
        have h31 : (nI (a - x), (h3 (a, s) w.2.2.2).2) = h3 (a - x, s) w.2.2.2 := rfl
        refine ⟨τ2, ?_⟩
        rw [k1, q_X12_isTheft_23]
        simp only [hm_K, hm_R, hm_L, hm_at, hm_5, hm_6, hm_7, hm_8, hm_s5, hm_s6, hm_s7, hm_s8, am_kd, m0, if_true, if_false, e5, hw, d1, hsub, am_let_e, h31, k2, bV_s, nI_1]
        rfl
      | succ j ih =>
        intro hj
        obtain ⟨τ, k1⟩ := ih (by omega)
        obtain ⟨τ2, k2⟩ := c_goesN (dp := d) (hr := at_ + (j + 1)) (f := f) (ρ := τ) (dr := w.2.2.2) hm hl hc (by omega) hho h9 (hb4 (j + 1)).1
        have e7 : (nI (at_ + (j + 1)) < nI n) = True := eq_true (nI_lt (by omega) (by omega))
        have e6 : (nI (at_ + (j + 1)) = nI at_) = False := eq_false (fun z => by have := (nI_eq (by omega) (by omega)).1 z; omega)
        have hrn : nrun (vN W (hAI g 357) (hAI g 361) (hAI g 369) c) (dewN (hAI g 357) c) (decide (hAI g 357 c = 1)) hN (incN (hAI g 357) c) at_ (a - x, s) (j + 1 + 1) = nst (vN W (hAI g 357) (hAI g 361) (hAI g 369) c) (dewN (hAI g 357) c) (decide (hAI g 357 c = 1)) hN (incN (hAI g 357) c) (at_ + (j + 1)) (nrun (vN W (hAI g 357) (hAI g 361) (hAI g 369) c) (dewN (hAI g 357) c) (decide (hAI g 357 c = 1)) hN (incN (hAI g 357) c) at_ (a - x, s) (j + 1)) := rfl
        refine ⟨τ2, ?_⟩
        rw [k1, q_X12_isTheft_23, hrn]
        simp only [hm_K, am_kd, m0, if_true, if_false, e7, e6, k2, bV_s, nI_1]
        rfl
    obtain ⟨j, hj⟩ : ∃ j, n - at_ = j + 1 := ⟨n - at_ - 1, by omega⟩
    obtain ⟨τ3, k3⟩ := lp2 j (by omega)
    have ej : at_ + (j + 1) = n := by omega
    rw [ej] at k3
    refine ⟨τ3, h3 (nrun (vN W (hAI g 357) (hAI g 361) (hAI g 369) c) (dewN (hAI g 357) c) (decide (hAI g 357 c = 1)) hN (incN (hAI g 357) c) at_ (a - x, s) (j + 1)) w.2.2.2, ?_⟩
    rw [k3, q_X12_isTheft_23, if_neg (nI_nlt (Nat.le_refl _) (by omega)), decide_eq_true cx, Bool.true_and, hj]
    unfold nG
    generalize nrun (vN W (hAI g 357) (hAI g 361) (hAI g 369) c) (dewN (hAI g 357) c) (decide (hAI g 357 c = 1)) hN (incN (hAI g 357) c) at_ (a - x, s) (j + 1) = z
    have z6 : hFI (HM g f τ3 (h3 z w.2.2.2)) 1266 348 = nI z.2.1 := hm_6 _ _ _ _
    have z7 : hFI (HM g f τ3 (h3 z w.2.2.2)) 1267 348 = bi z.2.2 := hm_7 _ _ _ _
    simp only [hm_K, am_kd, m0, if_true, z6, z7, am_nar4_0, am_nar4_1]
    by_cases c1 : nI z.2.1 = sh
    · cases c2 : z.2.2 with
      | true => simp [c1, bi_t]
      | false => simp [c1, bi_f]
    · simp [c1, bi_f]
  · have d1 : (nI a < nI x) = True := eq_true (nI_lt (by omega) (by omega))
    refine ⟨τ, h3 (a, s) w.2.2.2, ?_⟩
    rw [k1, q_X12_isTheft_23, decide_eq_false cx, Bool.false_and]
    simp only [hm_K, hm_R, hm_L, hm_at, hm_5, hm_6, hm_7, hm_8, hm_s5, hm_s6, hm_s7, hm_s8, am_kd, m0, if_true, e5, hw, d1, am_nar4_0, bi_f]
theorem c_mtheft {d len c n hN mN : Nat} {W : Int32 → Int32 → Int32 → Int32 → Int32} {g : AH} {f : Nat → Int32} {ρ : Nat → Nat → Int32} {w : M4} {sh a : Int32} (hm : MSh g) (hl : MoL g len W) (hc : c < 6) (hho : hAI g 359 c = nI hN) (h9 : hN ≤ 999) (hm0 : mN ≤ hN) (hh : hAI g 360 c = nI mN) (hn : n ≤ 48) :
    ∃ τ y, am_R PG (d + 7) 257 47 [some (.ref 348), some (.int (nI c)), some (.int sh), some (.int (nI n)), some (.int a), some (.int 0), some (.int (-1)), some (.int (-1)), some (.int 0), none] [] (HM g f ρ w) = some (some (.int (thA a (thC (vN W (hAI g 357) (hAI g 361) (hAI g 369) c) (dewN (hAI g 357) c) (decide (hAI g 357 c = 1)) hN (incN (hAI g 357) c) (mN, 0, false) sh n) n)), HM g f τ y) := by
  have hmm := hm
  have m0 := hmm.1
  have f1219 : hFR _ 1219 348 = some 359 := (hmm.2 10 (by decide)).1
  have k359 : hK _ 359 = 50 := (hmm.2 10 (by decide)).2.1
  have n359 : hLN _ 359 = 12 := (hmm.2 10 (by decide)).2.2
  have ec : ∀ x, am_in (nI c) 12 x = x := am_inN (by omega) (by decide)
  have tc : Int32.toNatClampNeg (nI c) = c := nI_clamp (by omega)
  have o359 : ∀ ρ w, hAI (HM g f ρ w) 359 = hAI g 359 := fun _ _ => hm_o _ _ _ _ (by decide) (by decide)
  have hb := fun i => nrun_ho (v := vN W (hAI g 357) (hAI g 361) (hAI g 369) c) (dew := dewN (hAI g 357) c) (old := decide (hAI g 357 c = 1)) (hr := 0) (s := (mN, 0, false)) hm0 (incN_le (hAI g 357) c) i
  have kx : ∀ i x ρ w, i < n → x ≤ 999 → ∃ τ y, am_C PG (d + 6) 256 [.ref 348, .int (nI c), .int (nI i), .int (nI x), .int sh, .int (nI n)] (HM g f ρ w) = some (some (.int (bi (decide (x ≤ (nrun (vN W (hAI g 357) (hAI g 361) (hAI g 369) c) (dewN (hAI g 357) c) (decide (hAI g 357 c = 1)) hN (incN (hAI g 357) c) 0 (mN, 0, false) i).1) && nG (vN W (hAI g 357) (hAI g 361) (hAI g 369) c) (dewN (hAI g 357) c) (decide (hAI g 357 c = 1)) hN (incN (hAI g 357) c) i (nrun (vN W (hAI g 357) (hAI g 361) (hAI g 369) c) (dewN (hAI g 357) c) (decide (hAI g 357 c = 1)) hN (incN (hAI g 357) c) 0 (mN, 0, false) i).2 sh (n - i) ((nrun (vN W (hAI g 357) (hAI g 361) (hAI g 369) c) (dewN (hAI g 357) c) (decide (hAI g 357 c = 1)) hN (incN (hAI g 357) c) 0 (mN, 0, false) i).1 - x)))), HM g f τ y) := fun i x ρ w hi hx => c_isTheft hm hl hc hho h9 hm0 hh hn hi hx
  generalize hC : thC (vN W (hAI g 357) (hAI g 361) (hAI g 369) c) (dewN (hAI g 357) c) (decide (hAI g 357 c = 1)) hN (incN (hAI g 357) c) (mN, 0, false) sh n = C
  have hCi : ∀ i, C i = cntB (nG (vN W (hAI g 357) (hAI g 361) (hAI g 369) c) (dewN (hAI g 357) c) (decide (hAI g 357 c = 1)) hN (incN (hAI g 357) c) i (nrun (vN W (hAI g 357) (hAI g 361) (hAI g 369) c) (dewN (hAI g 357) c) (decide (hAI g 357 c = 1)) hN (incN (hAI g 357) c) 0 (mN, 0, false) i).2 sh (n - i)) (nrun (vN W (hAI g 357) (hAI g 361) (hAI g 369) c) (dewN (hAI g 357) c) (decide (hAI g 357 c = 1)) hN (incN (hAI g 357) c) 0 (mN, 0, false) i).1 := fun i => by rw [← hC]; rfl
  generalize hN1 : (fun i => (nrun (vN W (hAI g 357) (hAI g 361) (hAI g 369) c) (dewN (hAI g 357) c) (decide (hAI g 357 c = 1)) hN (incN (hAI g 357) c) 0 (mN, 0, false) i).1) = NM at *
  have hb1 : ∀ i, NM i ≤ hN := fun i => by rw [← hN1]; exact (hb i).1
  generalize hG1 : (fun i => nG (vN W (hAI g 357) (hAI g 361) (hAI g 369) c) (dewN (hAI g 357) c) (decide (hAI g 357 c = 1)) hN (incN (hAI g 357) c) i (nrun (vN W (hAI g 357) (hAI g 361) (hAI g 369) c) (dewN (hAI g 357) c) (decide (hAI g 357 c = 1)) hN (incN (hAI g 357) c) 0 (mN, 0, false) i).2 sh (n - i)) = GG
  have kx : ∀ i x ρ w, i < n → x + 1 ≤ 999 → ∃ τ y, am_C PG (d + 6) 256 [.ref 348, .int (nI c), .int (nI i), .int (nI (x + 1)), .int sh, .int (nI n)] (HM g f ρ w) = some (some (.int (bi (rvB (GG i) (NM i) x))), HM g f τ y) := fun i x ρ w hi hx => by
    rw [← hG1, ← hN1]
    exact kx i (x + 1) ρ w hi hx
  have hCi : ∀ i, C i = cntB (GG i) (NM i) := fun i => by rw [hCi i, ← hG1, ← hN1]
  have hCb : ∀ i, C i ≤ 999 := fun i => by
    rw [hCi]
    refine Nat.le_trans (cntB_le _ _) ?_
    have := hb1 i
    omega
  generalize hQ : am_R PG (d + 7) 257 47 [some (.ref 348), some (.int (nI c)), some (.int sh), some (.int (nI n)), some (.int a), some (.int 0), some (.int (-1)), some (.int (-1)), some (.int 0), none] [] (HM g f ρ w) = Q
  have lp : ∀ i, i ≤ n → ∃ τ y, Q = am_R PG (d + 7) 257 47 [some (.ref 348), some (.int (nI c)), some (.int sh), some (.int (nI n)), some (.int a), some (.int (nI (sumC C i))), some (.int (ff (fun i => decide (0 < C i)) i)), some (.int (lf (fun i => decide (0 < C i)) i)), some (.int (nI i)), none] [] (HM g f τ y) := by
    intro i
    induction i with
    | zero => intro _; exact ⟨ρ, w, hQ.symm⟩
    | succ i ih =>
      intro hi
      obtain ⟨τ, y, k1⟩ := ih (by omega)
      have e5 : (nI i < nI n) = True := eq_true (nI_lt (by omega) (by omega))
      have hsc : sumC C i ≤ 999 * i := sumC_le i (fun j hj => hCb j)
      have hs1 : sumC C (i + 1) = sumC C i + C i := rfl
      have u1 : ff (fun i => decide (0 < C i)) (i + 1) = (if decide (0 < C i) = true then (if ff (fun i => decide (0 < C i)) i < 0 then nI i else ff (fun i => decide (0 < C i)) i) else ff (fun i => decide (0 < C i)) i) := rfl
      have u2 : lf (fun i => decide (0 < C i)) (i + 1) = (if decide (0 < C i) = true then nI i else lf (fun i => decide (0 < C i)) i) := rfl
      rw [u1, u2, hs1]
      generalize ff (fun i => decide (0 < C i)) i = F at k1 ⊢
      generalize lf (fun i => decide (0 < C i)) i = L at k1 ⊢
      have lx : ∀ x, x ≤ hN → ∃ τ y, Q = am_R PG (d + 7) 257 56 [some (.ref 348), some (.int (nI c)), some (.int sh), some (.int (nI n)), some (.int a), some (.int (nI (sumC C i + cntB (rvB (GG i) (NM i)) x))), some (.int (if 0 < cntB (rvB (GG i) (NM i)) x then (if F < 0 then nI i else F) else F)), some (.int (if 0 < cntB (rvB (GG i) (NM i)) x then nI i else L)), some (.int (nI i)), some (.int (nI (x + 1)))] [] (HM g f τ y) := by
        intro x
        induction x with
        | zero =>
          intro _
          refine ⟨τ, y, ?_⟩
          rw [k1, q_X12_theft_47, if_pos (of_eq_true e5)]
          rfl
        | succ x ihx =>
          intro hx
          obtain ⟨τ2, y2, k2⟩ := ihx (by omega)
          obtain ⟨τ3, y3, k3⟩ := kx i x τ2 y2 (by omega) (by omega)
          have d1 : (nI hN < nI (x + 1)) = False := eq_false (nI_nlt hx (by omega))
          have r2 : cntB (rvB (GG i) (NM i)) (x + 1) = cntB (rvB (GG i) (NM i)) x + (if rvB (GG i) (NM i) x then 1 else 0) := rfl
          have z1 : ((1 : Int32) = 0) = False := eq_false (by decide)
          refine ⟨τ3, y3, ?_⟩
          rw [k2, q_X12_theft_56, r2]
          simp only [hm_K, hm_R, hm_L, hm_at, hm_5, hm_6, hm_7, hm_8, hm_s5, hm_s6, hm_s7, hm_s8, am_kd, m0, f1219, k359, n359, if_true, bR_s, ec, tc, o359, hho, d1, if_false, k3, bI_s, nI_1]
          generalize cntB (rvB (GG i) (NM i)) x = D
          cases c1 : rvB (GG i) (NM i) x with
          | false => simp only [bi_f, if_true, Bool.false_eq_true, if_false, Nat.add_zero]
          | true =>
            simp only [bi_t, z1, if_true, if_false, show (0 < D + 1) = True from eq_true (by omega), ← Nat.add_assoc]
            have hi0 : ¬ nI i < 0 := nI_pos (by omega)
            by_cases c2 : 0 < D
            · by_cases c3 : F < 0
              · simp only [if_pos c2, if_pos c3, if_neg hi0]
              · simp only [if_pos c2, if_neg c3]
            · by_cases c3 : F < 0
              · simp only [if_neg c2, if_pos c3]
              · simp only [if_neg c2, if_neg c3]
      obtain ⟨τ2, y2, k2⟩ := lx hN (Nat.le_refl _)
      rw [cnt_rev (hb1 i), ← hCi] at k2
      have d1 : (nI hN < nI (hN + 1)) = True := eq_true (nI_lt (by omega) (by omega))
      refine ⟨τ2, y2, ?_⟩
      rw [k2, q_X12_theft_56]
      simp only [hm_K, hm_R, hm_L, hm_at, hm_5, hm_6, hm_7, hm_8, hm_s5, hm_s6, hm_s7, hm_s8, am_kd, m0, f1219, k359, n359, if_true, bR_s, ec, tc, o359, hho, d1, nI_1, decide_eq_true_eq]
  obtain ⟨τ, y, k1⟩ := lp n (Nat.le_refl _)
  refine ⟨τ, y, ?_⟩
  rw [k1, q_X12_theft_47, if_neg (nI_nlt (Nat.le_refl _) (by omega))]
  unfold thA
  by_cases c0 : a = 0
  · rw [if_pos c0, if_pos c0]
  · by_cases c1 : a = 1
    · rw [if_neg c0, if_pos c1, if_neg c0, if_pos c1]
    · rw [if_neg c0, if_neg c1, if_neg c0, if_neg c1]
