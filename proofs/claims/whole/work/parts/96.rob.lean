/-! Thefts: the class's side. -/
theorem bi_0 {b : Bool} : (bi b = 1) ↔ b = true := by
  cases b <;> decide
theorem c_goRob {d p np nc ne nw len c n h0 hN : Nat} {W : Int32 → Int32 → Int32 → Int32 → Int32} {g : AH} {s0 : Nat × Nat × Bool} {sh : Int32} {Z : SV} (hp : PoC g p np nc ne nw) (hl : PoL g p len W) (a1 : hK g 93 = 1) (a2 : hFR g 1 93 = some 103) (hs : StSh g 103) (hpb : p ≤ 30) (hc : c < 6) (hho : hAI g (p + 6) c = nI hN) (h9 : hN ≤ 999) (hs0 : s0.1 ≤ hN) (hn : h0 + n < 2 ^ 31) (hZ : Z.1 = nI h0) (hZc : getc Z c = e3 s0) (f : Nat → Int32) :
    ∃ j f2 Z2, j ≤ n ∧ (j = n ∨ sh < nI (nrun (vN W (hAI g (p + 4)) (hAI g (p + 7)) (hAI g (p + 13)) c) (dewN (hAI g (p + 4)) c) (decide (hAI g (p + 4) c = 1)) hN (incN (hAI g (p + 4)) c) h0 s0 j).2.1) ∧ getc Z2 c = e3 (nrun (vN W (hAI g (p + 4)) (hAI g (p + 7)) (hAI g (p + 13)) c) (dewN (hAI g (p + 4)) c) (decide (hAI g (p + 4) c = 1)) hN (incN (hAI g (p + 4)) c) h0 s0 j) ∧ am_C PG (d + 3) 10 [.ref 93, .ref p, .int (nI c), .int sh, .int (nI (h0 + n))] (putS (sAI g (p + 16) f) 103 Z) = some (some (.int (nI (nsp (vN W (hAI g (p + 4)) (hAI g (p + 7)) (hAI g (p + 13)) c) (dewN (hAI g (p + 4)) c) (decide (hAI g (p + 4) c = 1)) hN (incN (hAI g (p + 4)) c) h0 s0 j))), putS (sAI g (p + 16) f2) 103 Z2) := by
  have hd : Dj p 103 := Or.inr (by omega)
  have o4 : ∀ f, hAI (sAI g (p + 16) f) (p + 4) = hAI g (p + 4) := fun f => sAI_ne _ _ (by omega)
  have o6 : ∀ f, hAI (sAI g (p + 16) f) (p + 6) = hAI g (p + 6) := fun f => sAI_ne _ _ (by omega)
  have o7 : ∀ f, hAI (sAI g (p + 16) f) (p + 7) = hAI g (p + 7) := fun f => sAI_ne _ _ (by omega)
  have o13 : ∀ f, hAI (sAI g (p + 16) f) (p + 13) = hAI g (p + 13) := fun f => sAI_ne _ _ (by omega)
  have p0 := hp.1.1.1
  have hss := hs
  obtain ⟨ss0, sf1, sf2, sf3, sf4, sf5, sf6, sf7, sf8, sk1, sk2, sk3, sk4, sk5, sk6, sk7, sk8, sn1, sn2, sn3, sn4, sn5, sn6, sn7, sn8⟩ := hss
  have ec : ∀ x, am_in (nI c) 6 x = x := am_inN hc (by decide)
  have tc : Int32.toNatClampNeg (nI c) = c := nI_clamp (by omega)
  generalize hQ : am_C PG (d + 3) 10 [.ref 93, .ref p, .int (nI c), .int sh, .int (nI (h0 + n))] (putS (sAI g (p + 16) f) 103 Z) = Q
  have lp : ∀ i, i ≤ n → (∃ j f2 Z2, j ≤ n ∧ (j = n ∨ sh < nI (nrun (vN W (hAI g (p + 4)) (hAI g (p + 7)) (hAI g (p + 13)) c) (dewN (hAI g (p + 4)) c) (decide (hAI g (p + 4) c = 1)) hN (incN (hAI g (p + 4)) c) h0 s0 j).2.1) ∧ getc Z2 c = e3 (nrun (vN W (hAI g (p + 4)) (hAI g (p + 7)) (hAI g (p + 13)) c) (dewN (hAI g (p + 4)) c) (decide (hAI g (p + 4) c = 1)) hN (incN (hAI g (p + 4)) c) h0 s0 j) ∧ Q = some (some (.int (nI (nsp (vN W (hAI g (p + 4)) (hAI g (p + 7)) (hAI g (p + 13)) c) (dewN (hAI g (p + 4)) c) (decide (hAI g (p + 4) c = 1)) hN (incN (hAI g (p + 4)) c) h0 s0 j))), putS (sAI g (p + 16) f2) 103 Z2)) ∨
      ∃ f2 Z2, Z2.1 = nI (h0 + i) ∧ getc Z2 c = e3 (nrun (vN W (hAI g (p + 4)) (hAI g (p + 7)) (hAI g (p + 13)) c) (dewN (hAI g (p + 4)) c) (decide (hAI g (p + 4) c = 1)) hN (incN (hAI g (p + 4)) c) h0 s0 i) ∧ Q = am_R PG (d + 3) 10 18 [some (.ref 93), some (.ref p), some (.int (nI c)), some (.int sh), some (.int (nI (h0 + n))), some (.int (nI (nsp (vN W (hAI g (p + 4)) (hAI g (p + 7)) (hAI g (p + 13)) c) (dewN (hAI g (p + 4)) c) (decide (hAI g (p + 4) c = 1)) hN (incN (hAI g (p + 4)) c) h0 s0 i))), none, some (.int (nI (h0 + i))), none] [] (putS (sAI g (p + 16) f2) 103 Z2) := by
    intro i
    induction i with
    | zero =>
      intro _
      refine Or.inr ⟨f, Z, hZ, hZc, ?_⟩
      rw [← hQ, q_X0_goRobbed]
      simp only [rd_hK_putS, rd_hFR_putS, rd_hLN_putS, rd_hFJ_putS, rd_hAJ_putS, rd_hAR_putS, rd_hNX_putS, pS_hr, rd_hK_sAI, rd_hFR_sAI, am_kd, a1, a2, ss0, if_true, bR_s, hZ]
      rfl
    | succ i ih =>
      intro hi
      rcases ih (by omega) with z | ⟨f2, Z2, z1, z2, z3⟩
      · exact Or.inl z
      · have hsh : Z2.2.2.1 c = nI (nrun (vN W (hAI g (p + 4)) (hAI g (p + 7)) (hAI g (p + 13)) c) (dewN (hAI g (p + 4)) c) (decide (hAI g (p + 4) c = 1)) hN (incN (hAI g (p + 4)) c) h0 s0 i).2.1 := congrArg (fun x : Int32 × Int32 × Int32 => x.2.1) z2
        have e5 : (nI (h0 + i) < nI (h0 + n)) = True := eq_true (nI_lt (by omega) (by omega))
        have hab := nrun_ho (v := vN W (hAI g (p + 4)) (hAI g (p + 7)) (hAI g (p + 13)) c) (dew := dewN (hAI g (p + 4)) c) (old := decide (hAI g (p + 4) c = 1)) (hr := h0) (s := s0) hs0 (incN_le (hAI g (p + 4)) c) i
        by_cases q : sh < nI (nrun (vN W (hAI g (p + 4)) (hAI g (p + 7)) (hAI g (p + 13)) c) (dewN (hAI g (p + 4)) c) (decide (hAI g (p + 4) c = 1)) hN (incN (hAI g (p + 4)) c) h0 s0 i).2.1
        · refine Or.inl ⟨i, f2, Z2, by omega, Or.inr q, z2, ?_⟩
          rw [z3, q_X0_goRobbed_18]
          simp only [rd_hK_putS, rd_hFR_putS, rd_hLN_putS, rd_hFJ_putS, rd_hAJ_putS, rd_hAR_putS, rd_hNX_putS, pS_2, rd_hK_sAI, rd_hFR_sAI, rd_hLN_sAI, am_kd, a1, a2, ss0, sf1, sf2, sf3, sf4, sf5, sf6, sf7, sf8, sk1, sk2, sk3, sk4, sk5, sk6, sk7, sk8, sn1, sn2, sn3, sn4, sn5, sn6, sn7, sn8, if_true, bR_s, e5, ec, tc, hsh, if_pos q]
        · right
          have hsp : nsp (vN W (hAI g (p + 4)) (hAI g (p + 7)) (hAI g (p + 13)) c) (dewN (hAI g (p + 4)) c) (decide (hAI g (p + 4) c = 1)) hN (incN (hAI g (p + 4)) c) h0 s0 (i + 1) = (if nb (dewN (hAI g (p + 4)) c) hN (h0 + i) (nrun (vN W (hAI g (p + 4)) (hAI g (p + 7)) (hAI g (p + 13)) c) (dewN (hAI g (p + 4)) c) (decide (hAI g (p + 4) c = 1)) hN (incN (hAI g (p + 4)) c) h0 s0 i).1 < vN W (hAI g (p + 4)) (hAI g (p + 7)) (hAI g (p + 13)) c (h0 + i) (nrun (vN W (hAI g (p + 4)) (hAI g (p + 7)) (hAI g (p + 13)) c) (dewN (hAI g (p + 4)) c) (decide (hAI g (p + 4) c = 1)) hN (incN (hAI g (p + 4)) c) h0 s0 i).2.1 then (if vN W (hAI g (p + 4)) (hAI g (p + 7)) (hAI g (p + 13)) c (h0 + i) (nrun (vN W (hAI g (p + 4)) (hAI g (p + 7)) (hAI g (p + 13)) c) (dewN (hAI g (p + 4)) c) (decide (hAI g (p + 4) c = 1)) hN (incN (hAI g (p + 4)) c) h0 s0 i).2.1 - 1 - nb (dewN (hAI g (p + 4)) c) hN (h0 + i) (nrun (vN W (hAI g (p + 4)) (hAI g (p + 7)) (hAI g (p + 13)) c) (dewN (hAI g (p + 4)) c) (decide (hAI g (p + 4) c = 1)) hN (incN (hAI g (p + 4)) c) h0 s0 i).1 < nsp (vN W (hAI g (p + 4)) (hAI g (p + 7)) (hAI g (p + 13)) c) (dewN (hAI g (p + 4)) c) (decide (hAI g (p + 4) c = 1)) hN (incN (hAI g (p + 4)) c) h0 s0 i then vN W (hAI g (p + 4)) (hAI g (p + 7)) (hAI g (p + 13)) c (h0 + i) (nrun (vN W (hAI g (p + 4)) (hAI g (p + 7)) (hAI g (p + 13)) c) (dewN (hAI g (p + 4)) c) (decide (hAI g (p + 4) c = 1)) hN (incN (hAI g (p + 4)) c) h0 s0 i).2.1 - 1 - nb (dewN (hAI g (p + 4)) c) hN (h0 + i) (nrun (vN W (hAI g (p + 4)) (hAI g (p + 7)) (hAI g (p + 13)) c) (dewN (hAI g (p + 4)) c) (decide (hAI g (p + 4) c = 1)) hN (incN (hAI g (p + 4)) c) h0 s0 i).1 else nsp (vN W (hAI g (p + 4)) (hAI g (p + 7)) (hAI g (p + 13)) c) (dewN (hAI g (p + 4)) c) (decide (hAI g (p + 4) c = 1)) hN (incN (hAI g (p + 4)) c) h0 s0 i) else nsp (vN W (hAI g (p + 4)) (hAI g (p + 7)) (hAI g (p + 13)) c) (dewN (hAI g (p + 4)) c) (decide (hAI g (p + 4) c = 1)) hN (incN (hAI g (p + 4)) c) h0 s0 i) := rfl
          have hrn : nrun (vN W (hAI g (p + 4)) (hAI g (p + 7)) (hAI g (p + 13)) c) (dewN (hAI g (p + 4)) c) (decide (hAI g (p + 4) c = 1)) hN (incN (hAI g (p + 4)) c) h0 s0 (i + 1) = nst (vN W (hAI g (p + 4)) (hAI g (p + 7)) (hAI g (p + 13)) c) (dewN (hAI g (p + 4)) c) (decide (hAI g (p + 4) c = 1)) hN (incN (hAI g (p + 4)) c) (h0 + i) (nrun (vN W (hAI g (p + 4)) (hAI g (p + 7)) (hAI g (p + 13)) c) (dewN (hAI g (p + 4)) c) (decide (hAI g (p + 4) c = 1)) hN (incN (hAI g (p + 4)) c) h0 s0 i) := rfl
          have hspl := nsp_le (v := vN W (hAI g (p + 4)) (hAI g (p + 7)) (hAI g (p + 13)) c) (dew := dewN (hAI g (p + 4)) c) (old := decide (hAI g (p + 4) c = 1)) (ho := hN) (inc := incN (hAI g (p + 4)) c) (hr := h0) (s := s0) i
          generalize nsp (vN W (hAI g (p + 4)) (hAI g (p + 7)) (hAI g (p + 13)) c) (dewN (hAI g (p + 4)) c) (decide (hAI g (p + 4) c = 1)) hN (incN (hAI g (p + 4)) c) h0 s0 i = SP at hsp z3 hspl
          generalize nrun (vN W (hAI g (p + 4)) (hAI g (p + 7)) (hAI g (p + 13)) c) (dewN (hAI g (p + 4)) c) (decide (hAI g (p + 4) c = 1)) hN (incN (hAI g (p + 4)) c) h0 s0 i = s at hsp hrn z2 hsh hab q
          obtain ⟨a, k, t⟩ := s
          dsimp only at hsp hsh hab q
          have k1 := c_dew (d := d + 1) (R := Z2) (hp.scr (b := p + 16) (f := f2)) (hs.to (rd_hK_sAI g (p + 16) f2) (rd_hFR_sAI g (p + 16) f2) (rd_hLN_sAI g (p + 16) f2)) hd hc
          have ha : Z2.2.1 c = nI a := congrArg (fun x : Int32 × Int32 × Int32 => x.1) z2
          have hb : nb (dewN (hAI g (p + 4)) c) hN (h0 + i) a ≤ hN := by
            unfold nb
            split <;> omega
          rw [o4, o6, z1, ha, hho, xdew_n (by omega) hab.1 (by omega)] at k1
          have hnst : nst (vN W (hAI g (p + 4)) (hAI g (p + 7)) (hAI g (p + 13)) c) (dewN (hAI g (p + 4)) c) (decide (hAI g (p + 4) c = 1)) hN (incN (hAI g (p + 4)) c) (h0 + i) (a, k, t) = (if nb (dewN (hAI g (p + 4)) c) hN (h0 + i) a < vN W (hAI g (p + 4)) (hAI g (p + 7)) (hAI g (p + 13)) c (h0 + i) k then (if decide (hAI g (p + 4) c = 1) = true then nb (dewN (hAI g (p + 4)) c) hN (h0 + i) a - 1 else nb (dewN (hAI g (p + 4)) c) hN (h0 + i) a, k, true) else (if decide (hAI g (p + 4) c = 1) = true then nb (dewN (hAI g (p + 4)) c) hN (h0 + i) a - vN W (hAI g (p + 4)) (hAI g (p + 7)) (hAI g (p + 13)) c (h0 + i) k - 1 else nb (dewN (hAI g (p + 4)) c) hN (h0 + i) a - vN W (hAI g (p + 4)) (hAI g (p + 7)) (hAI g (p + 13)) c (h0 + i) k, k + incN (hAI g (p + 4)) c (h0 + i), false)) := rfl
          generalize nb (dewN (hAI g (p + 4)) c) hN (h0 + i) a = b at k1 hsp hb hnst
          have hz : (getc Z2 c).2 = (nI k, bi t) := by rw [z2]; rfl
          rw [hz] at k1
          generalize hT : setc Z2 c (nI b, nI k, bi t) = T at k1
          have hT1 : T.1 = nI (h0 + i) := by rw [← hT]; exact z1
          have hTc : getc T c = (nI b, nI k, bi t) := by rw [← hT, getc_setc]
          have hTs : T.2.2.1 c = nI k := congrArg (fun x : Int32 × Int32 × Int32 => x.2.1) hTc
          have hTh : T.2.1 c = nI b := congrArg (fun x : Int32 × Int32 × Int32 => x.1) hTc
          obtain ⟨f3, k2⟩ := c_thirst (d := d) (hr := h0 + i) ((hp.scr (b := p + 16) (f := f2)).put (a := 103) (R := T)) ((hl.scr (b := p + 16) (f := f2) (by omega)).put (R := T) hd) hc (by omega) (nI k)
          rw [putS_sAI _ _ _ (by omega), sAI_sAI, pS_far _ _ (by omega), pS_far _ _ (by omega), pS_far _ _ (by omega), o4, o7, o13] at k2
          obtain ⟨v1, v2⟩ := vN_eq W (hAI g (p + 4)) (hAI g (p + 7)) (hAI g (p + 13)) c (h0 + i) k
          rw [v1] at k2
          generalize vN W (hAI g (p + 4)) (hAI g (p + 7)) (hAI g (p + 13)) c (h0 + i) k = v at k2 v2 hsp hnst
          have k3 := c_drk (d := d) (R := T) (hp.scr (b := p + 16) (f := f3)) (hs.to (rd_hK_sAI g (p + 16) f3) (rd_hFR_sAI g (p + 16) f3) (rd_hLN_sAI g (p + 16) f3)) hd hc (nI v)
          rw [o4, hT1, hTc, xdrk_n (by omega) (by omega) v2, ← hnst, ← hrn] at k3
          generalize hY : setc T c (e3 (nrun (vN W (hAI g (p + 4)) (hAI g (p + 7)) (hAI g (p + 13)) c) (dewN (hAI g (p + 4)) c) (decide (hAI g (p + 4) c = 1)) hN (incN (hAI g (p + 4)) c) h0 s0 (i + 1))) = Y at k3
          have hY1 : Y.1 = nI (h0 + i) := by rw [← hY]; exact hT1
          have hYc : getc (Y.1 + 1, Y.2) c = e3 (nrun (vN W (hAI g (p + 4)) (hAI g (p + 7)) (hAI g (p + 13)) c) (dewN (hAI g (p + 4)) c) (decide (hAI g (p + 4) c = 1)) hN (incN (hAI g (p + 4)) c) h0 s0 (i + 1)) := by
            show getc Y c = _
            rw [← hY, getc_setc]
          refine ⟨f3, (Y.1 + 1, Y.2), by show Y.1 + 1 = _; rw [hY1, nI_1]; rfl, hYc, ?_⟩
          rw [z3, q_X0_goRobbed_18, hsp]
          simp only [rd_hK_putS, rd_hFR_putS, rd_hLN_putS, rd_hFJ_putS, rd_hAJ_putS, rd_hAR_putS, rd_hNX_putS, pS_1, pS_2, pS_hr, rd_hK_sAI, rd_hFR_sAI, rd_hLN_sAI, am_kd, a1, a2, p0, ss0, sf1, sf2, sf3, sf4, sf5, sf6, sf7, sf8, sk1, sk2, sk3, sk4, sk5, sk6, sk7, sk8, sn1, sn2, sn3, sn4, sn5, sn6, sn7, sn8, if_true, bR_s, e5, ec, tc, hsh, if_neg q, k1, bV_s, hTs, k2, bI_s, hTh]
          by_cases c1 : b < v
          · have d1 : (nI b < nI v) = True := eq_true (nI_lt c1 (by omega))
            have d2 : nI v - (1 : Int32) - nI b = nI (v - 1 - b) := by
              obtain ⟨y, rfl⟩ : ∃ y, v = y + 1 := ⟨v - 1, by omega⟩
              rw [nI_pred, pk_sub (by omega)]
              rfl
            simp only [d1, if_true, if_pos c1, d2, c_min, bI_s, rd_hK_putS, rd_hFR_putS, rd_hLN_putS, rd_hFJ_putS, rd_hAJ_putS, rd_hAR_putS, rd_hNX_putS, pS_hr, rd_hK_sAI, rd_hFR_sAI, am_kd, a1, a2, p0, ss0, sf1, sf2, sf3, sf4, sf5, sf6, sf7, sf8, sk1, sk2, sk3, sk4, sk5, sk6, sk7, sk8, sn1, sn2, sn3, sn4, sn5, sn6, sn7, sn8, bR_s, k3, bV_s, am_let_e, putS_sFI, nI_1]
            by_cases c2 : v - 1 - b < SP
            · rw [if_pos (nI_lt c2 (by omega)), if_pos c2]
              rfl
            · rw [if_neg (nI_nlt (by omega) (by omega)), if_neg c2]
              rfl
          · have d1 : (nI b < nI v) = False := eq_false (nI_nlt (by omega) (by omega))
            simp only [d1, if_false, if_neg c1, rd_hK_putS, rd_hFR_putS, rd_hLN_putS, rd_hFJ_putS, rd_hAJ_putS, rd_hAR_putS, rd_hNX_putS, pS_hr, rd_hK_sAI, rd_hFR_sAI, am_kd, a1, a2, p0, ss0, sf1, sf2, sf3, sf4, sf5, sf6, sf7, sf8, sk1, sk2, sk3, sk4, sk5, sk6, sk7, sk8, sn1, sn2, sn3, sn4, sn5, sn6, sn7, sn8, if_true, bR_s, k3, bV_s, am_let_e, putS_sFI, nI_1]
            rfl
  rcases lp n (Nat.le_refl _) with z | ⟨f2, Z2, z1, z2, z3⟩
  · exact z
  · refine ⟨n, f2, Z2, Nat.le_refl _, Or.inl rfl, z2, ?_⟩
    rw [z3, q_X0_goRobbed_18, if_neg (nI_nlt (Nat.le_refl _) (by omega))]
