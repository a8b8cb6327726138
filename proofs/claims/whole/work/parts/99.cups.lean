/-! Cups: the search by naturals; the class's side. -/
def foldB {α : Type} (f : Nat → α → α) : Nat → α → α
  | 0, s => s
  | n + 1, s => f n (foldB f n s)
def updN (f : Nat → Nat) (k v : Nat) : Nat → Nat := fun j => if j = k then v else f j
theorem updN_s (f : Nat → Nat) (k v : Nat) : updN f k v k = v := if_pos rfl
theorem updN_n (f : Nat → Nat) {k j : Nat} (v : Nat) (h : j ≠ k) : updN f k v j = f j := if_neg h
/-- the clocks of cup 0, as bits -/
def bF (K : Nat → Nat) : Nat → Int32
  | 0 => 0
  | n + 1 => bF K n ||| (if K n = 0 then (1 : Int32) <<< (nI n &&& 31) else 0)
theorem bF_congr {K K' : Nat → Nat} : ∀ n, (∀ j, j < n → K j = K' j) → bF K n = bF K' n
  | 0, _ => rfl
  | n + 1, h => by
    unfold bF
    rw [bF_congr n (fun j hj => h j (by omega)), h n (by omega)]
theorem bF_upd (K : Nat → Nat) (c v : Nat) : bF (updN K c v) (c + 1) = bF K c ||| (if v = 0 then (1 : Int32) <<< (nI c &&& 31) else 0) := by
  show bF (updN K c v) c ||| (if updN K c v c = 0 then (1 : Int32) <<< (nI c &&& 31) else 0) = _
  rw [bF_congr c (fun j hj => updN_n K v (by omega)), updN_s]
def fillC (N : Nat → Nat) (H nc : Nat) : Nat → (Nat → Nat) → (Nat → Nat) → Nat → Nat × Int32 → Nat × Int32
  | 0, _, K, used, b => if used < b.1 then (used, bF K nc) else b
  | r + 1, L, K, used, b => foldB (fun cup b => if L cup + N (nc - (r + 1)) ≤ H then fillC N H nc r (updN L cup (L cup + N (nc - (r + 1)))) (updN K (nc - (r + 1)) cup) (if cup = used then used + 1 else used) b else b) (used + 1) b
theorem foldB_le {f : Nat → Nat × Int32 → Nat × Int32} (h : ∀ n b, (f n b).1 ≤ b.1) : ∀ n b, (foldB f n b).1 ≤ b.1
  | 0, b => Nat.le_refl _
  | n + 1, b => Nat.le_trans (h n _) (foldB_le h n b)
theorem fillC_le {N : Nat → Nat} {H nc : Nat} : ∀ r L K used b, (fillC N H nc r L K used b).1 ≤ b.1
  | 0, L, K, used, b => by
    unfold fillC
    split
    · rename_i h; exact Nat.le_of_lt h
    · exact Nat.le_refl _
  | r + 1, L, K, used, b => by
    unfold fillC
    refine foldB_le (fun n b => ?_) _ _
    split
    · exact fillC_le r _ _ _ _
    · exact Nat.le_refl _
theorem foldB_id {f : Nat → Nat × Int32 → Nat × Int32} {b : Nat × Int32} : ∀ n, (∀ k, k < n → f k b = b) → foldB f n b = b
  | 0, _ => rfl
  | n + 1, h => by
    unfold foldB
    rw [foldB_id n (fun k hk => h k (by omega)), h n (by omega)]
/-- no fewer can come of so many -/
theorem fillC_prune {N : Nat → Nat} {H nc : Nat} : ∀ r L K used b, b.1 ≤ used → fillC N H nc r L K used b = b
  | 0, L, K, used, b, h => by
    unfold fillC
    rw [if_neg (by omega)]
  | r + 1, L, K, used, b, h => by
    unfold fillC
    refine foldB_id _ (fun k hk => ?_)
    split
    · refine fillC_prune r _ _ _ _ ?_
      split <;> omega
    · rfl
/-- one cup a clock always does -/
theorem fillC_ex {N : Nat → Nat} {H nc : Nat} (hN : ∀ j, j < nc → N j ≤ H) : ∀ r L K used b, r ≤ nc → (∀ j, used ≤ j → L j = 0) → (fillC N H nc r L K used b).1 ≤ used + r
  | 0, L, K, used, b, _, _ => by
    unfold fillC
    split
    · exact Nat.le_refl _
    · omega
  | r + 1, L, K, used, b, hr, hL => by
    unfold fillC
    show ((fun cup b => if L cup + N (nc - (r + 1)) ≤ H then fillC N H nc r (updN L cup (L cup + N (nc - (r + 1)))) (updN K (nc - (r + 1)) cup) (if cup = used then used + 1 else used) b else b) used (foldB _ used b)).1 ≤ _
    dsimp only
    have h0 : L used = 0 := hL used (Nat.le_refl _)
    rw [if_pos (by rw [h0, Nat.zero_add]; exact hN _ (by omega)), if_pos rfl]
    have := fillC_ex hN r (updN L used (L used + N (nc - (r + 1)))) (updN K (nc - (r + 1)) used) (used + 1) (foldB (fun cup b => if L cup + N (nc - (r + 1)) ≤ H then fillC N H nc r (updN L cup (L cup + N (nc - (r + 1)))) (updN K (nc - (r + 1)) cup) (if cup = used then used + 1 else used) b else b) used b) (by omega) (fun j hj => by rw [updN_n _ _ (by omega)]; exact hL j (by omega))
    omega
/-- the class's heap: loads, best -/
def FC (g : AH) (u : Nat → Int32) (b : Nat × Int32) : AH := sFI (sFI (sAI g 121 u) 113 112 (nI b.1)) 114 112 b.2
theorem FC_K (g : AH) (u : Nat → Int32) (b : Nat × Int32) : hK (FC g u b) = hK g := rfl
theorem FC_R (g : AH) (u : Nat → Int32) (b : Nat × Int32) : hFR (FC g u b) = hFR g := rfl
theorem FC_L (g : AH) (u : Nat → Int32) (b : Nat × Int32) : hLN (FC g u b) = hLN g := rfl
theorem FC_at (g : AH) (u : Nat → Int32) (b : Nat × Int32) : hAI (FC g u b) 121 = u := sAI_at _ _ _
theorem FC_o (g : AH) (u : Nat → Int32) (b : Nat × Int32) {a : Nat} (h : a ≠ 121) : hAI (FC g u b) a = hAI g a := sAI_ne _ _ h
theorem FC_1 (g : AH) (u : Nat → Int32) (b : Nat × Int32) : hFI (FC g u b) 113 112 = nI b.1 := by
  unfold FC
  rw [sFI_o _ _ (Or.inl (by decide)), sFI_at]
theorem FC_2 (g : AH) (u : Nat → Int32) (b : Nat × Int32) : hFI (FC g u b) 114 112 = b.2 := sFI_at _ _ _ _
theorem sFI_comm (h : AH) {k a j b : Nat} (v w : Int32) (e : k ≠ j ∨ a ≠ b) : sFI (sFI h k a v) j b w = sFI (sFI h j b w) k a v := by
  apply AH_ext
  all_goals simp only [rd_hK_sFI, rd_hFI_sFI, rd_hFJ_sFI, rd_hFR_sFI, rd_hLN_sFI, rd_hAI_sFI, rd_hAJ_sFI, rd_hAR_sFI, rd_hNX_sFI, rd_hK_sEI, rd_hFI_sEI, rd_hFJ_sEI, rd_hFR_sEI, rd_hLN_sEI, rd_hAI_sEI, rd_hAJ_sEI, rd_hAR_sEI, rd_hNX_sEI, rd_hK_sAI, rd_hFI_sAI, rd_hFJ_sAI, rd_hFR_sAI, rd_hLN_sAI, rd_hAI_sAI, rd_hAJ_sAI, rd_hAR_sAI, rd_hNX_sAI, rd_hK_sCP, rd_hFI_sCP, rd_hFJ_sCP, rd_hFR_sCP, rd_hLN_sCP, rd_hAI_sCP, rd_hAJ_sCP, rd_hAR_sCP, rd_hNX_sCP]
  funext x y
  unfold am_up2
  by_cases c1 : x = j ∧ y = b
  · rw [if_pos c1, if_neg (by omega)]
    rw [if_pos c1]
  · rw [if_neg c1]
    by_cases c2 : x = k ∧ y = a
    · rw [if_pos c2, if_pos c2]
    · rw [if_neg c2, if_neg c2, if_neg c1]
theorem FC_put (g : AH) (u : Nat → Int32) (b : Nat × Int32) (x : Nat) (y : Int32) : sFI (sFI (FC g u b) 113 112 (nI x)) 114 112 y = FC g u (x, y) := by
  unfold FC
  dsimp only
  rw [sFI_comm _ _ _ (Or.inl (show 114 ≠ 113 by decide)), sFI_sFI, sFI_sFI]
theorem FC_E (g : AH) (u : Nat → Int32) (b : Nat × Int32) (j : Nat) (v : Int32) : sEI (FC g u b) 121 j v = FC g (upd u j v) b := by
  rw [sEI_e, FC_at]
  unfold FC
  rw [sFI_sAI, sFI_sAI, sAI_sAI]
theorem FC_mk (g : AH) (u : Nat → Int32) : sFI (sFI (sAI g 121 u) 113 112 (7 : Int32)) 114 112 (0 : Int32) = FC g u (7, 0) := by
  unfold FC
  dsimp only
  rw [show nI 7 = (7 : Int32) from rfl]
theorem FC_fo (g : AH) (u : Nat → Int32) (b : Nat × Int32) {k a : Nat} (h : a ≠ 112) : hFI (FC g u b) k a = hFI g k a := by
  unfold FC
  rw [sFI_o _ _ (Or.inr h), sFI_o _ _ (Or.inr h), rd_hFI_sAI]
theorem FC_qt (g : AH) (u : Nat → Int32) (b : Nat × Int32) : Qt g (FC g u b) := by
  unfold FC
  exact (Qt.ai _ 121 _ (by omega)).tr ((Qt.fi _ 113 112 _ (by unfold cFld; omega)).tr (Qt.fi _ 114 112 _ (by unfold cFld; omega)))
theorem i32_as (a b : Int32) : a + b - b = a := by
  rw [Int32.sub_eq_add_neg, Int32.add_assoc, Int32.add_right_neg, add0]
theorem or0 (a : Int32) : a ||| 0 = a := Int32.or_zero
theorem c_fill {nc H : Nat} {N : Nat → Nat} {g : AH} (hc : ChoSh g) (hN : ∀ j, j < nc → hAI g 120 j = nI (N j) ∧ N j ≤ 9999) (hn : nc ≤ 6) (hH : H ≤ 9999) : ∀ r d clock (L K : Nat → Nat) used (b : Nat × Int32) (u : Nat → Int32), clock + r = nc → used ≤ clock → (∀ j, j < nc → u j = nI (L j) ∧ L j ≤ 9999) → b.1 ≤ 7 →
    am_C PG (d + r + 2) 26 [.ref 112, .int (nI nc), .int (nI H), .int (nI clock), .int (nI used), .int (bF K clock)] (FC g u b) = some (none, FC g u (fillC N H nc r L K used b)) := by
  obtain ⟨c0, -, cs⟩ := hc
  obtain ⟨r1, k1, l1⟩ := cs 7 (by decide)
  obtain ⟨r2, k2, l2⟩ := cs 8 (by decide)
  have r1 : hFR g 111 112 = some 120 := r1
  have k1 : hK g 120 = 50 := k1
  have l1 : hLN g 120 = 6 := l1
  have r2 : hFR g 112 112 = some 121 := r2
  have k2 : hK g 121 = 50 := k2
  have l2 : hLN g 121 = 6 := l2
  have o : ∀ u b, hAI (FC g u b) 120 = hAI g 120 := fun u b => FC_o _ _ _ (by decide)
  intro r
  induction r with
  | zero =>
    intro d clock L K used b u hcl hu hL hb
    have : clock = nc := by omega
    subst this
    rw [q_X1_fillCups, if_neg (nI_nlt (Nat.le_refl _) (by omega))]
    unfold fillC
    by_cases c1 : used < b.1
    · have d1 : (nI used < nI b.1) = True := eq_true (nI_lt c1 (by omega))
      simp only [FC_K, FC_1, am_kd, c0, if_true, d1, am_let_e, FC_put, if_pos c1, rd_hK_sFI]
    · have d1 : (nI used < nI b.1) = False := eq_false (nI_nlt (by omega) (by omega))
      simp only [FC_K, FC_1, am_kd, c0, if_true, if_false, d1, if_neg c1]
  | succ r ih =>
    intro d clock L K used b u hcl hu hL hb
    have hcn : nc - (r + 1) = clock := by omega
    have e5 : (nI clock < nI nc) = True := eq_true (nI_lt (by omega) (by omega))
    have e6 : (nI clock < (6 : Int32)) = True := eq_true (nI_lt (b := 6) (by omega) (by decide))
    have ec : ∀ x, am_in (nI clock) 6 x = x := am_inN (by omega) (by decide)
    have tc : Int32.toNatClampNeg (nI clock) = clock := nI_clamp (by omega)
    obtain ⟨hn1, hn2⟩ := hN clock (by omega)
    rw [show d + (r + 1) + 2 = d + r + 2 + 1 by omega]
    unfold fillC
    rw [hcn]
    generalize hF : (fun cup (b : Nat × Int32) => if L cup + N clock ≤ H then fillC N H nc r (updN L cup (L cup + N clock)) (updN K clock cup) (if cup = used then used + 1 else used) b else b) = F
    have hFle : ∀ n b, (F n b).1 ≤ b.1 := fun n b => by
      rw [← hF]
      dsimp only
      split
      · exact fillC_le _ _ _ _ _
      · exact Nat.le_refl _
    have lp : ∀ j, j ≤ used + 1 → am_C PG (d + r + 2 + 1) 26 [.ref 112, .int (nI nc), .int (nI H), .int (nI clock), .int (nI used), .int (bF K clock)] (FC g u b) = am_R PG (d + r + 2 + 1) 26 36 [some (.ref 112), some (.int (nI nc)), some (.int (nI H)), some (.int (nI clock)), some (.int (nI used)), some (.int (bF K clock)), some (.int (nI j)), none] [] (FC g u (foldB F j b)) := by
      intro j
      induction j with
      | zero => intro _; rw [q_X1_fillCups, if_pos (of_eq_true e5), if_pos (of_eq_true e6)]; rfl
      | succ j ihj =>
        intro hj
        have hf : foldB F (j + 1) b = F j (foldB F j b) := rfl
        have hb2 : (foldB F j b).1 ≤ 7 := Nat.le_trans (foldB_le hFle j b) hb
        rw [ihj (by omega), hf]
        generalize foldB F j b = B at hb2
        obtain ⟨hl1, hl2⟩ := hL j (by omega)
        have d1 : (nI used < nI j) = False := eq_false (nI_nlt (by omega) (by omega))
        have d2 : (nI j < (6 : Int32)) = True := eq_true (nI_lt (b := 6) (by omega) (by decide))
        have ej : ∀ x, am_in (nI j) 6 x = x := am_inN (by omega) (by decide)
        have tj : Int32.toNatClampNeg (nI j) = j := nI_clamp (by omega)
        have hFj : F j B = (if L j + N clock ≤ H then fillC N H nc r (updN L j (L j + N clock)) (updN K clock j) (if j = used then used + 1 else used) B else B) := by rw [← hF]
        rw [q_X1_fillCups_36, hFj]
        by_cases c1 : L j + N clock ≤ H
        · have d3 : (nI H < nI (L j + N clock)) = False := eq_false (nI_nlt c1 (by omega))
          have hmax : (if nI used < nI (j + 1) then nI (j + 1) else nI used) = nI (if j = used then used + 1 else used) := by
            by_cases z : j = used
            · rw [if_pos (nI_lt (by omega) (by omega)), if_pos z, z]
            · rw [if_neg (nI_nlt (by omega) (by omega)), if_neg z]
          have key := ih d (clock + 1) (updN L j (L j + N clock)) (updN K clock j) (if j = used then used + 1 else used) B (upd u j (nI (L j + N clock))) (by omega) (by split <;> omega) (fun i hi => by
            by_cases z : i = j
            · subst z
              rw [pk_us, updN_s]
              exact ⟨rfl, by omega⟩
            · rw [pk_un z, updN_n _ _ z]
              exact hL i hi) hb2
          rw [bF_upd] at key
          have back : upd (upd u j (nI (L j + N clock))) j (nI (L j + N clock) - nI (N clock)) = u := by
            rw [← nI_add, i32_as, upd_upd, ← hl1, upd_self]
          by_cases z : j = 0
          · subst z
            have z0 : (nI 0 = 0) = True := eq_true rfl
            rw [if_pos rfl] at key
            simp only [FC_K, FC_R, FC_L, FC_at, FC_E, o, am_kd, c0, r1, k1, l1, r2, k2, l2, if_true, if_false, bR_s, d1, d2, d3, z0, ej, tj, ec, tc, hl1, hn1, nI_add, am_let_e, pk_us, c_max, bI_s, nI_1, hmax, key, bV_s, back, if_pos c1]
          · have z0 : (nI j = 0) = False := eq_false (nI_ne0 (by omega) (by omega))
            rw [if_neg z] at key
            simp only [FC_K, FC_R, FC_L, FC_at, FC_E, o, am_kd, c0, r1, k1, l1, r2, k2, l2, if_true, if_false, bR_s, d1, d2, d3, z0, ej, tj, ec, tc, hl1, hn1, nI_add, am_let_e, pk_us, c_max, bI_s, nI_1, hmax, key, bV_s, back, if_pos c1]
        · have d3 : (nI H < nI (L j + N clock)) = True := eq_true (nI_lt (by omega) (by omega))
          simp only [FC_K, FC_R, FC_L, FC_at, o, am_kd, c0, r1, k1, l1, r2, k2, l2, if_true, if_false, bR_s, d1, d2, d3, ej, tj, ec, tc, hl1, hn1, nI_add, nI_1, if_neg c1]
    rw [lp (used + 1) (Nat.le_refl _), q_X1_fillCups_36, if_pos (nI_lt (by omega) (by omega))]
/-- what a clock needs, as a natural -/
def needN (W : Int32 → Int32 → Int32 → Int32 → Int32) (kd sp he : Nat → Int32) (hr : Nat) (sh : Nat → Int32) (n c : Nat) : Nat := (xneed W kd sp he c hr (sh c) n).1.toInt.toNat
theorem needN_eq (W : Int32 → Int32 → Int32 → Int32 → Int32) (kd sp he : Nat → Int32) (hr : Nat) (s : Int32) (c : Nat) : ∀ n, n ≤ 99 → ∃ v, v ≤ 99 * n ∧ (xneed W kd sp he c hr s n).1 = nI v
  | 0, _ => ⟨0, Nat.le_refl _, rfl⟩
  | n + 1, hn => by
    obtain ⟨v, v1, v2⟩ := needN_eq W kd sp he hr s c n (by omega)
    obtain ⟨h1, h2⟩ := xth_rng W kd sp he c (hr + n) (xneed W kd sp he c hr s n).2
    show ∃ v, v ≤ 99 * (n + 1) ∧ (xneed W kd sp he c hr s n).1 + xth W kd sp he c (hr + n) (xneed W kd sp he c hr s n).2 = nI v
    generalize xth W kd sp he c (hr + n) (xneed W kd sp he c hr s n).2 = x at h1 h2 ⊢
    obtain ⟨j, hj, rfl⟩ := nI_of (x := x) (by rw [i_lt, t0]; omega)
    rw [nI_toInt hj] at h2
    exact ⟨v + j, by omega, by rw [v2, nI_add]⟩
theorem needN_at {W : Int32 → Int32 → Int32 → Int32 → Int32} {kd sp he : Nat → Int32} {hr : Nat} {sh : Nat → Int32} {n c : Nat} (hn : n ≤ 99) : (xneed W kd sp he c hr (sh c) n).1 = nI (needN W kd sp he hr sh n c) ∧ needN W kd sp he hr sh n c ≤ 9801 := by
  obtain ⟨v, v1, v2⟩ := needN_eq W kd sp he hr (sh c) c n hn
  unfold needN
  rw [v2, nI_toInt (by omega), Int.toNat_natCast]
  exact ⟨rfl, by omega⟩
def anyN (N : Nat → Nat) (H : Nat) : Nat → Bool
  | 0 => false
  | n + 1 => anyN N H n || decide (H < N n)
theorem anyN_f {N : Nat → Nat} {H : Nat} : ∀ n, anyN N H n = false → ∀ j, j < n → N j ≤ H
  | 0, _, j, hj => by omega
  | n + 1, h, j, hj => by
    unfold anyN at h
    rw [Bool.or_eq_false_iff] at h
    by_cases e : j = n
    · subst e
      have := of_decide_eq_false h.2
      omega
    · exact anyN_f n h.1 j (by omega)
def cupA (N : Nat → Nat) (H nc : Nat) (a : Int32) : Int32 := if anyN N H nc = true then -1 else if a = 0 then nI (fillC N H nc nc (fun _ => 0) (fun _ => 0) 0 (7, 0)).1 else (fillC N H nc nc (fun _ => 0) (fun _ => 0) 0 (7, 0)).2
theorem c_fewest {d p s np nc ne nw len hr n H : Nat} {W : Int32 → Int32 → Int32 → Int32 → Int32} {g : AH} {a : Int32} (hp : PoC g p np nc ne nw) (hl : PoL g p len W) (hc : ChoSh g) (hs : StSh g s) (hp4 : p = 4 ∨ p = 30) (hsb : s ≤ 62) (hps : p + 16 ≠ s + 2) (hn : n ≤ 99) (hh : hr + n < 2 ^ 31) (hR : hFI g 700 s = nI hr) (hH : H ≤ 9999) :
    ∃ g1, Qt g g1 ∧ am_C PG (d + 10) 25 [.ref 112, .ref p, .ref s, .int (nI H), .int (nI n), .int a] g = some (some (.int (cupA (needN W (hAI g (p + 4)) (hAI g (p + 7)) (hAI g (p + 13)) hr (hAI g (s + 2)) n) H nc a)), g1) := by
  have hpb : p ≤ 30 := by omega
  have hcs := hc
  obtain ⟨c0, -, cs⟩ := hc
  obtain ⟨r1, k1, l1⟩ := cs 7 (by decide)
  obtain ⟨r2, k2, l2⟩ := cs 8 (by decide)
  have r1 : hFR g 111 112 = some 120 := r1
  have k1 : hK g 120 = 50 := k1
  have l1 : hLN g 120 = 6 := l1
  have r2 : hFR g 112 112 = some 121 := r2
  have k2 : hK g 121 = 50 := k2
  have l2 : hLN g 121 = 6 := l2
  have p0 := hp.1.1.1
  have h2' := hp.2.2.1
  have hn6 : nc ≤ 6 := hp.2.2.2.2.2.2.1
  have hss := hs
  obtain ⟨s0, sf1, sf2, sf3, sf4, sf5, sf6, sf7, sf8, sk1, sk2, sk3, sk4, sk5, sk6, sk7, sk8, sn1, sn2, sn3, sn4, sn5, sn6, sn7, sn8⟩ := hss
  have hneed : ∀ c, (xneed W (hAI g (p + 4)) (hAI g (p + 7)) (hAI g (p + 13)) c hr (hAI g (s + 2) c) n).1 = nI (needN W (hAI g (p + 4)) (hAI g (p + 7)) (hAI g (p + 13)) hr (hAI g (s + 2)) n c) ∧ needN W (hAI g (p + 4)) (hAI g (p + 7)) (hAI g (p + 13)) hr (hAI g (s + 2)) n c ≤ 9801 := fun c => needN_at hn
  have kn : ∀ f w z c, c < 6 → ∃ f2, am_C PG (d + 9) 58 [.ref p, .int (nI c), .int (nI hr), .int (hAI g (s + 2) c), .int (nI n)] (sAI (sAI (sAI g (p + 16) f) 120 w) 121 z) = some (some (.int (nI (needN W (hAI g (p + 4)) (hAI g (p + 7)) (hAI g (p + 13)) hr (hAI g (s + 2)) n c))), sAI (sAI (sAI g (p + 16) f2) 120 w) 121 z) := by
    intro f w z c hc
    obtain ⟨f2, k⟩ := c_need (d := d + 6) (c := c) (hr := hr) (n := n) ((hp.scr (b := p + 16) (f := f)).scr (b := 120) (f := w)).scr (((hl.scr (b := p + 16) (f := f) (by omega)).scr (b := 120) (f := w) (by omega)).scr (b := 121) (f := z) (by omega)) hc hh (hAI g (s + 2) c)
    have o : ∀ b, b ≠ p + 16 → b ≠ 120 → b ≠ 121 → hAI (sAI (sAI (sAI g (p + 16) f) 120 w) 121 z) b = hAI g b := fun b z1 z2 z3 => by rw [sAI_ne _ _ z3, sAI_ne _ _ z2, sAI_ne _ _ z1]
    rw [o _ (by omega) (by omega) (by omega), o _ (by omega) (by omega) (by omega), o _ (by omega) (by omega) (by omega), (hneed c).1, sAI_comm _ (show 121 ≠ p + 16 by omega), sAI_comm _ (show 120 ≠ p + 16 by omega), sAI_sAI] at k
    exact ⟨f2, k⟩
  generalize hNN : needN W (hAI g (p + 4)) (hAI g (p + 7)) (hAI g (p + 13)) hr (hAI g (s + 2)) n = N at hneed kn ⊢
  have hNb : ∀ c, N c ≤ 9801 := fun c => (hneed c).2
  generalize hQ : am_C PG (d + 10) 25 [.ref 112, .ref p, .ref s, .int (nI H), .int (nI n), .int a] g = Q
  have lp : ∀ i, i ≤ nc → (anyN N H i = true ∧ ∃ g1, Qt g g1 ∧ Q = some (some (.int (-1)), g1)) ∨ (anyN N H i = false ∧ ∃ f w z, (∀ j, j < i → w j = nI (N j) ∧ z j = 0) ∧ Q = am_R PG (d + 10) 25 3 [some (.ref 112), some (.ref p), some (.ref s), some (.int (nI H)), some (.int (nI n)), some (.int a), some (.int (nI i))] [] (sAI (sAI (sAI g (p + 16) f) 120 w) 121 z)) := by
    intro i
    induction i with
    | zero => intro _; exact Or.inr ⟨rfl, hAI g (p + 16), hAI g 120, hAI g 121, fun j hj => by omega, by rw [sAI_self, sAI_self, sAI_self, ← hQ, q_X1_fewestCups]; rfl⟩
    | succ i ih =>
      intro hi
      have ea : anyN N H (i + 1) = (anyN N H i || decide (H < N i)) := rfl
      rcases ih (by omega) with ⟨b1, b2⟩ | ⟨b1, f, w, z, b2, b3⟩
      · exact Or.inl ⟨by rw [ea, b1, Bool.true_or], b2⟩
      · obtain ⟨f2, k⟩ := kn f w z i (by omega)
        have hNi := hNb i
        have e5 : (nI i < nI nc) = True := eq_true (nI_lt (by omega) (by omega))
        have e1 : ∀ x, am_in (nI i) 6 x = x := am_inN (by omega) (by decide)
        have t1 : Int32.toNatClampNeg (nI i) = i := nI_clamp (by omega)
        have w2 : hAI (sAI (sAI (sAI g (p + 16) f) 120 w) 121 z) (s + 2) = hAI g (s + 2) := by rw [sAI_ne _ _ (by omega), sAI_ne _ _ (by omega), sAI_ne _ _ (by omega)]
        have u1 : ∀ w z v, sEI (sAI (sAI (sAI g (p + 16) f2) 120 w) 121 z) 120 i v = sAI (sAI (sAI g (p + 16) f2) 120 (upd w i v)) 121 z := fun w z v => by
          rw [sEI_e, sAI_ne _ _ (by decide), sAI_at, sAI_comm _ (show (121 : Nat) ≠ 120 by decide), sAI_sAI]
        have r120 : ∀ w z, hAI (sAI (sAI (sAI g (p + 16) f2) 120 w) 121 z) 120 = w := fun w z => by rw [sAI_ne _ _ (by decide), sAI_at]
        by_cases c1 : H < N i
        · have d1 : (nI H < nI (N i)) = True := eq_true (nI_lt c1 (by omega))
          refine Or.inl ⟨by rw [ea, decide_eq_true c1, Bool.or_true], sAI (sAI (sAI g (p + 16) f2) 120 (upd w i (nI (N i)))) 121 (upd z i 0), ?_, ?_⟩
          · exact (Qt.ai _ _ _ (by omega)).tr ((Qt.ai _ _ _ (by omega)).tr (Qt.ai _ _ _ (by omega)))
          · rw [b3, q_X1_fewestCups_3]
            simp only [rd_hK_sAI, rd_hFR_sAI, rd_hLN_sAI, rd_hFI_sAI, am_kd, s0, sf1, sf2, sf3, sf4, sf5, sf6, sf7, sf8, sk1, sk2, sk3, sk4, sk5, sk6, sk7, sk8, sn1, sn2, sn3, sn4, sn5, sn6, sn7, sn8, p0, c0, r1, k1, l1, r2, k2, l2, h2', hR, if_true, if_false, bR_s, e5, e1, t1, w2, k, bI_s, am_let_e, u1, sEI_sAI, r120, pk_us, d1, nI_1]
        · have d1 : (nI H < nI (N i)) = False := eq_false (nI_nlt (by omega) (by omega))
          refine Or.inr ⟨by rw [ea, b1, decide_eq_false c1]; rfl, f2, upd w i (nI (N i)), upd z i 0, fun j hj => ?_, ?_⟩
          · by_cases e : j = i
            · subst e
              rw [pk_us, pk_us]
              exact ⟨rfl, rfl⟩
            · rw [pk_un e, pk_un e]
              exact b2 j (by omega)
          · rw [b3, q_X1_fewestCups_3]
            simp only [rd_hK_sAI, rd_hFR_sAI, rd_hLN_sAI, rd_hFI_sAI, am_kd, s0, sf1, sf2, sf3, sf4, sf5, sf6, sf7, sf8, sk1, sk2, sk3, sk4, sk5, sk6, sk7, sk8, sn1, sn2, sn3, sn4, sn5, sn6, sn7, sn8, p0, c0, r1, k1, l1, r2, k2, l2, h2', hR, if_true, if_false, bR_s, e5, e1, t1, w2, k, bI_s, am_let_e, u1, sEI_sAI, r120, pk_us, d1, nI_1]
  rcases lp nc (Nat.le_refl _) with ⟨b1, g1, b2, b3⟩ | ⟨b1, f, w, z, b2, b3⟩
  · refine ⟨g1, b2, ?_⟩
    rw [b3]
    unfold cupA
    rw [if_pos b1]
  · have hNl := anyN_f nc b1
    generalize hG : sAI (sAI g (p + 16) f) 120 w = g2 at b3
    have hK2 : hK g2 = hK g := by rw [← hG]; rfl
    have hR2 : hFR g2 = hFR g := by rw [← hG]; rfl
    have hL2 : hLN g2 = hLN g := by rw [← hG]; rfl
    have hF2 : hFI g2 = hFI g := by rw [← hG]; rfl
    have hq : Qt g g2 := by
      rw [← hG]
      exact (Qt.ai _ _ _ (by omega)).tr (Qt.ai _ _ _ (by omega))
    have h120 : hAI g2 120 = w := by rw [← hG]; exact sAI_at _ _ _
    have key := c_fill (nc := nc) (H := H) (N := N) (g := g2) (hcs.to hK2 hR2 hL2) (fun j hj => ⟨by rw [h120]; exact (b2 j hj).1, by have := hNb j; omega⟩) hn6 hH nc (d + (7 - nc)) 0 (fun _ => 0) (fun _ => 0) 0 (7, 0) z (Nat.zero_add _) (Nat.le_refl _) (fun j hj => ⟨(b2 j hj).2, Nat.zero_le _⟩) (Nat.le_refl _)
    have kd : d + (7 - nc) + nc + 2 = d + 9 := by omega
    rw [kd] at key
    rw [show bF (fun _ => 0) 0 = 0 from rfl, nI_0] at key
    have hfc := FC_mk g2 z
    have e5 : (nI nc < nI nc) = False := eq_false (nI_nlt (Nat.le_refl _) (by omega))
    have f503 : hFI (FC g2 z (7, 0)) 503 p = nI nc := by
      rw [FC_fo _ _ _ (by omega), hF2]
      exact h2'
    generalize hB : fillC N H nc nc (fun _ => 0) (fun _ => 0) 0 (7, 0) = B at key
    refine ⟨FC g2 z B, hq.tr (FC_qt _ _ _), ?_⟩
    have kk : am_R PG (d + 10) 25 3 [some (.ref 112), some (.ref p), some (.ref s), some (.int (nI H)), some (.int (nI n)), some (.int a), some (.int (nI nc))] [] (sAI g2 121 z) = if a = 0 then some (some (.int (nI B.1)), FC g2 z B) else some (some (.int B.2), FC g2 z B) := by
      have x1 : hK (sAI g2 121 z) p = 6 := by rw [rd_hK_sAI, hK2]; exact p0
      have x2 : hFI (sAI g2 121 z) 503 p = nI nc := by rw [rd_hFI_sAI, hF2]; exact h2'
      have x3 : hK (sAI g2 121 z) 112 = 2 := by rw [rd_hK_sAI, hK2]; exact c0
      have x4 : hK (FC g2 z (7, 0)) p = 6 := by rw [FC_K, hK2]; exact p0
      have x5 : hK (FC g2 z (7, 0)) 112 = 2 := by rw [FC_K, hK2]; exact c0
      have x6 : hK (FC g2 z B) 112 = 2 := by rw [FC_K, hK2]; exact c0
      have x7 : hK (sFI (sAI g2 121 z) 113 112 (7 : Int32)) 112 = 2 := by rw [rd_hK_sFI, rd_hK_sAI, hK2]; exact c0
      rw [q_X1_fewestCups_3, am_kd_t x1, x2, if_neg (nI_nlt (Nat.le_refl _) (by omega)), am_kd_t x3, am_let_e, am_kd_t x7, am_let_e, hfc, am_kd_t x4, am_kd_t x5, f503, key, bV_s, am_kd_t x6, am_kd_t x6, FC_1, FC_2]
    unfold cupA
    rw [b1, if_neg (by decide), hB, b3, kk]
    by_cases c1 : a = 0
    · rw [if_pos c1, if_pos c1]
    · rw [if_neg c1, if_neg c1]
