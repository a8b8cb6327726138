/-! Cups: the reference's side. -/
def ZC (g : AH) (u k : Nat → Int32) (c y : Int32) : AH := sFI (sFI (sAI (sAI g 409 u) 408 k) 1279 348 c) 1280 348 y
theorem ZC_K (g : AH) (u k : Nat → Int32) (c y : Int32) : hK (ZC g u k c y) = hK g := rfl
theorem ZC_R (g : AH) (u k : Nat → Int32) (c y : Int32) : hFR (ZC g u k c y) = hFR g := rfl
theorem ZC_L (g : AH) (u k : Nat → Int32) (c y : Int32) : hLN (ZC g u k c y) = hLN g := rfl
theorem ZC_9 (g : AH) (u k : Nat → Int32) (c y : Int32) : hAI (ZC g u k c y) 409 = u := by
  unfold ZC
  rw [rd_hAI_sFI, rd_hAI_sFI, sAI_ne _ _ (by decide), sAI_at]
theorem ZC_8 (g : AH) (u k : Nat → Int32) (c y : Int32) : hAI (ZC g u k c y) 408 = k := by
  unfold ZC
  rw [rd_hAI_sFI, rd_hAI_sFI, sAI_at]
theorem ZC_o (g : AH) (u k : Nat → Int32) (c y : Int32) {a : Nat} (h1 : a ≠ 409) (h2 : a ≠ 408) : hAI (ZC g u k c y) a = hAI g a := by
  unfold ZC
  rw [rd_hAI_sFI, rd_hAI_sFI, sAI_ne _ _ h2, sAI_ne _ _ h1]
theorem ZC_E9 (g : AH) (u k : Nat → Int32) (c y : Int32) (j : Nat) (v : Int32) : sEI (ZC g u k c y) 409 j v = ZC g (upd u j v) k c y := by
  rw [sEI_e, ZC_9]
  unfold ZC
  rw [sFI_sAI, sFI_sAI, sAI_comm _ (show (408 : Nat) ≠ 409 by decide), sAI_sAI]
theorem ZC_E8 (g : AH) (u k : Nat → Int32) (c y : Int32) (j : Nat) (v : Int32) : sEI (ZC g u k c y) 408 j v = ZC g u (upd k j v) c y := by
  rw [sEI_e, ZC_8]
  unfold ZC
  rw [sFI_sAI, sFI_sAI, sAI_sAI]
theorem ZC_1 (g : AH) (u k : Nat → Int32) (c y : Int32) : hFI (ZC g u k c y) 1279 348 = c := by
  unfold ZC
  rw [sFI_o _ _ (Or.inl (by decide)), sFI_at]
theorem ZC_2 (g : AH) (u k : Nat → Int32) (c y : Int32) : hFI (ZC g u k c y) 1280 348 = y := sFI_at _ _ _ _
theorem ZC_s2 (g : AH) (u k : Nat → Int32) (c y v : Int32) : sFI (ZC g u k c y) 1280 348 v = ZC g u k c v := sFI_sFI _ _ _ _ _
theorem ZC_s1 (g : AH) (u k : Nat → Int32) (c y v : Int32) : sFI (ZC g u k c y) 1279 348 v = ZC g u k v y := by
  unfold ZC
  rw [sFI_comm _ _ _ (Or.inl (show 1280 ≠ 1279 by decide)), sFI_sFI]
theorem ZC_self (g : AH) : ZC g (hAI g 409) (hAI g 408) (hFI g 1279 348) (hFI g 1280 348) = g := by
  unfold ZC
  rw [sAI_self, sAI_self]
  have e : ∀ (h : AH) (k a : Nat), sFI h k a (hFI h k a) = h := fun h k a => AH_ext rfl (am_up2_self _ _ _) rfl rfl rfl rfl rfl rfl rfl
  rw [e, e]
theorem ZC_qt (g : AH) (u k : Nat → Int32) (c y : Int32) : Qt g (ZC g u k c y) := by
  unfold ZC
  exact (Qt.ai _ 409 _ (by omega)).tr ((Qt.ai _ 408 _ (by omega)).tr ((Qt.fi _ 1279 348 _ (by unfold cFld; omega)).tr (Qt.fi _ 1280 348 _ (by unfold cFld; omega))))
theorem ZC_sh {g : AH} {u k : Nat → Int32} {c y : Int32} (s : MSh g) : MSh (ZC g u k c y) := s.to rfl (fun _ => rfl) rfl
/-- no best yet is seven in the class, -1 in the reference -/
def bc (n : Nat) : Int32 := if n = 7 then -1 else nI n
theorem c_mleaf {nc d : Nat} {g : AH} {u k : Nat → Int32} {c y : Int32} {K : Nat → Nat} (hm : MSh g) (hn : nc ≤ 6) (hk : ∀ j, j < nc → k j = nI (K j) ∧ K j ≤ 6) : am_R PG (d + 1) 258 39 [some (.ref 348), some (.int (nI nc)), none, none, some (.int 0), none] [] (ZC g u k c 0) = some (none, ZC g u k c (bF K nc)) := by
  have m0 := hm.1
  have f1277 : hFR _ 1277 348 = some 408 := (hm.2 59 (by decide)).1
  have k408 : hK _ 408 = 50 := (hm.2 59 (by decide)).2.1
  have n408 : hLN _ 408 = 6 := (hm.2 59 (by decide)).2.2
  have lp : ∀ i, i ≤ nc → am_R PG (d + 1) 258 39 [some (.ref 348), some (.int (nI nc)), none, none, some (.int 0), none] [] (ZC g u k c 0) = am_R PG (d + 1) 258 39 [some (.ref 348), some (.int (nI nc)), none, none, some (.int (nI i)), none] [] (ZC g u k c (bF K i)) := by
    intro i
    induction i with
    | zero => intro _; rfl
    | succ i ih =>
      intro hi
      have e5 : (nI i < nI nc) = True := eq_true (nI_lt (by omega) (by omega))
      have e1 : ∀ x, am_in (nI i) 6 x = x := am_inN (by omega) (by decide)
      have t1 : Int32.toNatClampNeg (nI i) = i := nI_clamp (by omega)
      obtain ⟨k1, k2⟩ := hk i (by omega)
      have hb : bF K (i + 1) = bF K i ||| (if K i = 0 then (1 : Int32) <<< (nI i &&& 31) else 0) := rfl
      rw [ih (by omega), q_X12_fills_39, hb]
      by_cases z : K i = 0
      · have z0 : (nI (K i) = 0) = True := eq_true (by rw [z]; rfl)
        rw [if_pos z]
        simp only [ZC_K, ZC_R, ZC_L, ZC_9, ZC_8, ZC_E9, ZC_E8, ZC_1, ZC_2, ZC_s2, am_kd, m0, f1277, k408, n408, if_true, bR_s, e5, e1, t1, k1, z0, am_let_e, nI_1]
      · have z0 : (nI (K i) = 0) = False := eq_false (nI_ne0 (by omega) (by omega))
        rw [if_neg z]
        simp only [ZC_K, ZC_R, ZC_L, ZC_9, ZC_8, ZC_E9, ZC_E8, ZC_1, ZC_2, ZC_s2, am_kd, m0, f1277, k408, n408, if_true, if_false, bR_s, e5, e1, t1, k1, z0, am_let_e, nI_1]
  rw [lp nc (Nat.le_refl _), q_X12_fills_39, if_neg (nI_nlt (Nat.le_refl _) (by omega))]
theorem c_mfill {nc H : Nat} {N : Nat → Nat} {g : AH} (hm : MSh g) (h2 : hAI g 350 2 = nI nc) (hN : ∀ j, j < nc → hAI g 407 j = nI (N j) ∧ N j ≤ 9999) (hn : nc ≤ 6) (hH : H ≤ 9999) : ∀ r d clock (L K : Nat → Nat) used (b : Nat × Int32) (u k : Nat → Int32) (y : Int32), clock + r = nc → used ≤ clock → (∀ j, j < used → u j = nI (L j) ∧ L j ≤ 9999) → (∀ j, used ≤ j → L j = 0) → (∀ j, j < clock → k j = nI (K j) ∧ K j ≤ 6) → b.1 ≤ 7 → (b.1 ≠ 7 → y = b.2) →
    ∃ u' k' y', (∀ j, j < used → u' j = u j) ∧ (∀ j, j < clock → k' j = k j) ∧ ((fillC N H nc r L K used b).1 ≠ 7 → y' = (fillC N H nc r L K used b).2) ∧ am_C PG (d + r + 1) 258 [.ref 348, .int (nI clock), .int (nI used), .int (nI H)] (ZC g u k (bc b.1) y) = some (none, ZC g u' k' (bc (fillC N H nc r L K used b).1) y') := by
  have hmm := hm
  have m0 := hmm.1
  have f1210 : hFR _ 1210 348 = some 350 := (hmm.2 1 (by decide)).1
  have k350 : hK _ 350 = 50 := (hmm.2 1 (by decide)).2.1
  have n350 : hLN _ 350 = 10 := (hmm.2 1 (by decide)).2.2
  have f1276 : hFR _ 1276 348 = some 407 := (hmm.2 58 (by decide)).1
  have k407 : hK _ 407 = 50 := (hmm.2 58 (by decide)).2.1
  have n407 : hLN _ 407 = 6 := (hmm.2 58 (by decide)).2.2
  have f1277 : hFR _ 1277 348 = some 408 := (hmm.2 59 (by decide)).1
  have k408 : hK _ 408 = 50 := (hmm.2 59 (by decide)).2.1
  have n408 : hLN _ 408 = 6 := (hmm.2 59 (by decide)).2.2
  have f1278 : hFR _ 1278 348 = some 409 := (hmm.2 60 (by decide)).1
  have k409 : hK _ 409 = 50 := (hmm.2 60 (by decide)).2.1
  have n409 : hLN _ 409 = 6 := (hmm.2 60 (by decide)).2.2
  have e2 : ∀ x, am_in (2 : Int32) 10 x = x := am_inN (i := 2) (by decide) (by decide)
  have t2 : Int32.toNatClampNeg 2 = 2 := by decide
  have o350 : ∀ u k c y, hAI (ZC g u k c y) 350 = hAI g 350 := fun _ _ _ _ => ZC_o _ _ _ _ _ (by decide) (by decide)
  have o407 : ∀ u k c y, hAI (ZC g u k c y) 407 = hAI g 407 := fun _ _ _ _ => ZC_o _ _ _ _ _ (by decide) (by decide)
  intro r
  induction r with
  | zero =>
    intro d clock L K used b u k y hcl hu hL hL0 hk hb hy
    have : clock = nc := by omega
    subst this
    unfold fillC
    by_cases hp : b.1 ≤ used
    · have hb7 : ¬ b.1 = 7 := by omega
      have d0 : (nI b.1 < 0) = False := eq_false (nI_pos (by omega))
      have d1 : (nI used < nI b.1) = False := eq_false (nI_nlt (by omega) (by omega))
      rw [if_neg (by omega)]
      refine ⟨u, k, y, fun _ _ => rfl, fun _ _ => rfl, hy, ?_⟩
      unfold bc
      rw [if_neg hb7, q_X12_fills]
      simp only [ZC_K, ZC_R, ZC_L, ZC_9, ZC_8, ZC_E9, ZC_E8, ZC_1, ZC_2, am_kd, m0, if_true, if_false, d0, d1]
    · rw [if_pos (by omega)]
      have lf := c_mleaf (d := d) (u := u) (c := nI used) (y := y) hm hn hk
      refine ⟨u, k, bF K clock, fun _ _ => rfl, fun _ _ => rfl, fun _ => rfl, ?_⟩
      dsimp only
      unfold bc
      rw [if_neg (show ¬ used = 7 by omega), q_X12_fills]
      by_cases h7 : b.1 = 7
      · have d0 : ((-1 : Int32) < 0) = True := eq_true (by decide)
        rw [if_pos h7]
        simp only [ZC_K, ZC_R, ZC_L, ZC_9, ZC_8, ZC_E9, ZC_E8, ZC_1, ZC_2, ZC_s1, ZC_s2, am_kd, m0, f1210, k350, n350, f1276, k407, n407, f1277, k408, n408, f1278, k409, n409, o350, if_true, d0, bR_s, e2, t2, h2, am_let_e, lf]
      · have d0 : (nI b.1 < 0) = False := eq_false (nI_pos (by omega))
        have d1 : (nI used < nI b.1) = True := eq_true (nI_lt (by omega) (by omega))
        rw [if_neg h7]
        simp only [ZC_K, ZC_R, ZC_L, ZC_9, ZC_8, ZC_E9, ZC_E8, ZC_1, ZC_2, ZC_s1, ZC_s2, am_kd, m0, f1210, k350, n350, f1276, k407, n407, f1277, k408, n408, f1278, k409, n409, o350, if_true, if_false, d0, d1, bR_s, e2, t2, h2, am_let_e, lf]
  | succ r ih =>
    intro d clock L K used b u k y hcl hu hL hL0 hk hb hy
    by_cases hp : b.1 ≤ used
    · have hb7 : ¬ b.1 = 7 := by omega
      have d0 : (nI b.1 < 0) = False := eq_false (nI_pos (by omega))
      have d1 : (nI used < nI b.1) = False := eq_false (nI_nlt (by omega) (by omega))
      rw [fillC_prune _ _ _ _ _ hp]
      refine ⟨u, k, y, fun _ _ => rfl, fun _ _ => rfl, hy, ?_⟩
      unfold bc
      rw [if_neg hb7, show d + (r + 1) + 1 = d + r + 1 + 1 from rfl, q_X12_fills]
      simp only [ZC_K, ZC_R, ZC_L, ZC_9, ZC_8, ZC_E9, ZC_E8, ZC_1, ZC_2, am_kd, m0, if_true, if_false, d0, d1]
    · have hcn : nc - (r + 1) = clock := by omega
      have ec : ∀ x, am_in (nI clock) 6 x = x := am_inN (by omega) (by decide)
      have tc : Int32.toNatClampNeg (nI clock) = clock := nI_clamp (by omega)
      obtain ⟨hn1, hn2⟩ := hN clock (by omega)
      rw [show d + (r + 1) + 1 = d + r + 1 + 1 from rfl]
      unfold fillC
      rw [hcn]
      generalize hF : (fun cup (b : Nat × Int32) => if L cup + N clock ≤ H then fillC N H nc r (updN L cup (L cup + N clock)) (updN K clock cup) (if cup = used then used + 1 else used) b else b) = F
      have hFle : ∀ n b, (F n b).1 ≤ b.1 := fun n b => by
        rw [← hF]
        dsimp only
        split
        · exact fillC_le _ _ _ _ _
        · exact Nat.le_refl _
      have dn : (nI clock = nI nc) = False := eq_false (fun z => by have := (nI_eq (by omega) (by omega)).1 z; omega)
      have ent : am_C PG (d + r + 1 + 1) 258 [.ref 348, .int (nI clock), .int (nI used), .int (nI H)] (ZC g u k (bc b.1) y) = am_R PG (d + r + 1 + 1) 258 82 [some (.ref 348), some (.int (nI clock)), some (.int (nI used)), some (.int (nI H)), some (.int 0), none] [] (ZC g u k (bc b.1) y) := by
        rw [q_X12_fills]
        unfold bc
        by_cases h7 : b.1 = 7
        · have d0 : ((-1 : Int32) < 0) = True := eq_true (by decide)
          rw [if_pos h7]
          simp only [ZC_K, ZC_R, ZC_L, ZC_9, ZC_8, ZC_E9, ZC_E8, ZC_1, ZC_2, am_kd, m0, f1210, k350, n350, f1276, k407, n407, f1277, k408, n408, f1278, k409, n409, o350, if_true, if_false, d0, bR_s, e2, t2, h2, dn]
        · have d0 : (nI b.1 < 0) = False := eq_false (nI_pos (by omega))
          have d1 : (nI used < nI b.1) = True := eq_true (nI_lt (by omega) (by omega))
          rw [if_neg h7]
          simp only [ZC_K, ZC_R, ZC_L, ZC_9, ZC_8, ZC_E9, ZC_E8, ZC_1, ZC_2, am_kd, m0, f1210, k350, n350, f1276, k407, n407, f1277, k408, n408, f1278, k409, n409, o350, if_true, if_false, d0, d1, bR_s, e2, t2, h2, dn]
      rw [ent]
      generalize hQ : am_R PG (d + r + 1 + 1) 258 82 [some (.ref 348), some (.int (nI clock)), some (.int (nI used)), some (.int (nI H)), some (.int 0), none] [] (ZC g u k (bc b.1) y) = Q
      have lp : ∀ j, j ≤ used + 1 → ∃ u' k' y', (∀ j, j < used → u' j = u j) ∧ (∀ j, j < clock → k' j = k j) ∧ ((foldB F j b).1 ≠ 7 → y' = (foldB F j b).2) ∧ Q = am_R PG (d + r + 1 + 1) 258 82 [some (.ref 348), some (.int (nI clock)), some (.int (nI used)), some (.int (nI H)), some (.int (nI j)), none] [] (ZC g u' k' (bc (foldB F j b).1) y') := by
        intro j
        induction j with
        | zero => intro _; exact ⟨u, k, y, fun _ _ => rfl, fun _ _ => rfl, hy, hQ.symm⟩
        | succ j ihj =>
          intro hj
          obtain ⟨u1, k1, y1, a1, a2, a3, a4⟩ := ihj (by omega)
          have hf : foldB F (j + 1) b = F j (foldB F j b) := rfl
          have hb2 : (foldB F j b).1 ≤ 7 := Nat.le_trans (foldB_le hFle j b) hb
          rw [hf]
          generalize foldB F j b = B at hb2 a3 a4
          have d1 : (nI used < nI j) = False := eq_false (nI_nlt (by omega) (by omega))
          have ej : ∀ x, am_in (nI j) 6 x = x := am_inN (by omega) (by decide)
          have tj : Int32.toNatClampNeg (nI j) = j := nI_clamp (by omega)
          have hFj : F j B = (if L j + N clock ≤ H then fillC N H nc r (updN L j (L j + N clock)) (updN K clock j) (if j = used then used + 1 else used) B else B) := by rw [← hF]
          rw [a4, hFj]
          by_cases z : j = used
          · subst z
            have hl0 : L j = 0 := hL0 j (Nat.le_refl _)
            rw [hl0, Nat.zero_add]
            have zz : (nI j = nI j) = True := eq_true rfl
            have z0 : (0 : Int32) + nI (N clock) = nI (N clock) := Int32.zero_add _
            by_cases c1 : N clock ≤ H
            · have d3 : (nI H < nI (N clock)) = False := eq_false (nI_nlt c1 (by omega))
              rw [if_pos c1, if_pos rfl]
              obtain ⟨u2, k2, y2, b1, b2, b3, b4⟩ := ih d (clock + 1) (updN L j (N clock)) (updN K clock j) (j + 1) B (upd u1 j (nI (N clock))) (upd k1 clock (nI j)) y1 (by omega) (by omega) (fun i hi => by
                by_cases q : i = j
                · subst q
                  rw [pk_us, updN_s]
                  exact ⟨rfl, hn2⟩
                · rw [pk_un q, updN_n _ _ q, a1 i (by omega)]
                  exact hL i (by omega)) (fun i hi => by rw [updN_n _ _ (by omega)]; exact hL0 i (by omega)) (fun i hi => by
                by_cases q : i = clock
                · subst q
                  rw [pk_us, updN_s]
                  exact ⟨rfl, by omega⟩
                · rw [pk_un q, updN_n _ _ q, a2 i (by omega)]
                  exact hk i (by omega)) hb2 a3
              refine ⟨upd u2 j 0, k2, y2, fun i hi => ?_, fun i hi => ?_, b3, ?_⟩
              · rw [pk_un (by omega), b1 i (by omega), pk_un (by omega)]
                exact a1 i hi
              · rw [b2 i (by omega), pk_un (by omega)]
                exact a2 i hi
              · rw [q_X12_fills_82]
                simp only [ZC_K, ZC_R, ZC_L, ZC_9, ZC_8, ZC_E9, ZC_E8, ZC_1, ZC_2, o407, am_kd, m0, f1210, k350, n350, f1276, k407, n407, f1277, k408, n408, f1278, k409, n409, if_true, if_false, bR_s, d1, zz, ec, tc, ej, tj, hn1, z0, d3, am_let_e, nI_1, b4, bV_s]
            · have d3 : (nI H < nI (N clock)) = True := eq_true (nI_lt (by omega) (by omega))
              rw [if_neg c1]
              refine ⟨u1, k1, y1, a1, a2, a3, ?_⟩
              rw [q_X12_fills_82]
              simp only [ZC_K, ZC_R, ZC_L, ZC_9, ZC_8, ZC_E9, ZC_E8, ZC_1, ZC_2, o407, am_kd, m0, f1210, k350, n350, f1276, k407, n407, f1277, k408, n408, f1278, k409, n409, if_true, if_false, bR_s, d1, zz, ec, tc, hn1, z0, d3, nI_1]
          · have zz : (nI j = nI used) = False := eq_false (fun q => z ((nI_eq (by omega) (by omega)).1 q))
            obtain ⟨hl1, hl2⟩ := hL j (by omega)
            have hu1 : u1 j = nI (L j) := (a1 j (by omega)).trans hl1
            by_cases c1 : L j + N clock ≤ H
            · have d3 : (nI H < nI (L j + N clock)) = False := eq_false (nI_nlt c1 (by omega))
              rw [if_pos c1, if_neg z]
              obtain ⟨u2, k2, y2, b1, b2, b3, b4⟩ := ih d (clock + 1) (updN L j (L j + N clock)) (updN K clock j) used B (upd u1 j (nI (L j + N clock))) (upd k1 clock (nI j)) y1 (by omega) (by omega) (fun i hi => by
                by_cases q : i = j
                · subst q
                  rw [pk_us, updN_s]
                  exact ⟨rfl, by omega⟩
                · rw [pk_un q, updN_n _ _ q, a1 i (by omega)]
                  exact hL i (by omega)) (fun i hi => by rw [updN_n _ _ (by omega)]; exact hL0 i (by omega)) (fun i hi => by
                by_cases q : i = clock
                · subst q
                  rw [pk_us, updN_s]
                  exact ⟨rfl, by omega⟩
                · rw [pk_un q, updN_n _ _ q, a2 i (by omega)]
                  exact hk i (by omega)) hb2 a3
              refine ⟨upd u2 j (nI (L j)), k2, y2, fun i hi => ?_, fun i hi => ?_, b3, ?_⟩
              · by_cases q : i = j
                · subst q
                  rw [pk_us, ← hl1]
                · rw [pk_un q, b1 i (by omega), pk_un q]
                  exact a1 i hi
              · rw [b2 i (by omega), pk_un (by omega)]
                exact a2 i hi
              · rw [q_X12_fills_82]
                simp only [ZC_K, ZC_R, ZC_L, ZC_9, ZC_8, ZC_E9, ZC_E8, ZC_1, ZC_2, o407, am_kd, m0, f1210, k350, n350, f1276, k407, n407, f1277, k408, n408, f1278, k409, n409, if_true, if_false, bR_s, d1, zz, ec, tc, ej, tj, hn1, hu1, nI_add, d3, am_let_e, nI_1, b4, bV_s]
            · have d3 : (nI H < nI (L j + N clock)) = True := eq_true (nI_lt (by omega) (by omega))
              rw [if_neg c1]
              refine ⟨u1, k1, y1, a1, a2, a3, ?_⟩
              rw [q_X12_fills_82]
              simp only [ZC_K, ZC_R, ZC_L, ZC_9, ZC_8, ZC_E9, ZC_E8, ZC_1, ZC_2, o407, am_kd, m0, f1210, k350, n350, f1276, k407, n407, f1277, k408, n408, f1278, k409, n409, if_true, if_false, bR_s, d1, zz, ec, tc, ej, tj, hn1, hu1, nI_add, d3, nI_1]
      obtain ⟨u1, k1, y1, a1, a2, a3, a4⟩ := lp (used + 1) (Nat.le_refl _)
      refine ⟨u1, k1, y1, a1, a2, a3, ?_⟩
      rw [a4, q_X12_fills_82, if_pos (nI_lt (by omega) (by omega))]
