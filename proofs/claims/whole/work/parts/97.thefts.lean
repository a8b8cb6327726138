/-! Thefts: the class counts. -/
theorem am_min (d a b : Nat) (h : AH) (ha : a < 2 ^ 30) (hb : b < 2 ^ 30) : am_C PG (d + 1) 272 [.int (nI a), .int (nI b)] h = some (some (.int (nI (Nat.min a b))), h) := by
  rw [c_min]
  by_cases c : b < a
  · rw [if_pos (nI_lt c (by omega)), show Nat.min a b = b from Nat.min_eq_right (by omega)]
  · rw [if_neg (nI_nlt (by omega) (by omega)), show Nat.min a b = a from Nat.min_eq_left (by omega)]
theorem c_theftsNow {d p np nc ne nw len c n at_ hN m : Nat} {W : Int32 → Int32 → Int32 → Int32 → Int32} {g : AH} {s : Nat × Bool} {sh : Int32} (hp : PoC g p np nc ne nw) (hl : PoL g p len W) (ha : AhSh g 93 94) (a2 : hFR g 1 93 = some 103) (hs : StSh g 103) (hpb : p ≤ 30) (hc : c < 6) (hho : hAI g (p + 6) c = nI hN) (h9 : hN ≤ 999) (hm : m ≤ hN) (hn : at_ + n < 2 ^ 31) (hsn : s.1 + n < 2 ^ 31) (hT : (getS g 94).1 = nI at_) (hTc : getc (getS g 94) c = e3 (m, s)) (f : Nat → Int32) (Z : SV) :
    ∃ f2 Z2, am_C PG (d + 4) 9 [.ref 93, .ref p, .int (nI c), .int sh, .int (nI (at_ + n))] (putS (sAI g (p + 16) f) 103 Z) = some (some (.int (nI (cntB (nG (vN W (hAI g (p + 4)) (hAI g (p + 7)) (hAI g (p + 13)) c) (dewN (hAI g (p + 4)) c) (decide (hAI g (p + 4) c = 1)) hN (incN (hAI g (p + 4)) c) at_ s sh n) m))), putS (sAI g (p + 16) f2) 103 Z2) := by
  obtain ⟨a1, a0, h94⟩ := ha
  have p0 := hp.1.1.1
  have hss := hs
  obtain ⟨ss0, sf1, sf2, sf3, sf4, sf5, sf6, sf7, sf8, sk1, sk2, sk3, sk4, sk5, sk6, sk7, sk8, sn1, sn2, sn3, sn4, sn5, sn6, sn7, sn8⟩ := hss
  have t0_ := h94.1
  have tf1 : hFR g 701 94 = some 95 := h94.2.1
  have tk1 : hK g 95 = 50 := h94.2.2.2.2.2.2.2.2.2.1
  have tn1 : hLN g 95 = 6 := h94.2.2.2.2.2.2.2.2.2.2.2.2.2.2.2.2.2.1
  have ec : ∀ x, am_in (nI c) 6 x = x := am_inN hc (by decide)
  have tc : Int32.toNatClampNeg (nI c) = c := nI_clamp (by omega)
  generalize hQ : am_C PG (d + 4) 9 [.ref 93, .ref p, .int (nI c), .int sh, .int (nI (at_ + n))] (putS (sAI g (p + 16) f) 103 Z) = Q
  have hm0 : hAI g 95 c = nI m := congrArg (fun x : Int32 × Int32 × Int32 => x.1) hTc
  have hq0 : Q = am_R PG (d + 4) 9 20 [some (.ref 93), some (.ref p), some (.int (nI c)), some (.int sh), some (.int (nI (at_ + n))), some (.int (nI (cntB (nG (vN W (hAI g (p + 4)) (hAI g (p + 7)) (hAI g (p + 13)) c) (dewN (hAI g (p + 4)) c) (decide (hAI g (p + 4) c = 1)) hN (incN (hAI g (p + 4)) c) at_ s sh n) 0))), some (.int (nI 0)), some (.int (nI m)), some (.int (nI 0)), none] [] (putS (sAI g (p + 16) f) 103 Z) := by
    have w : hAI (putS (sAI g (p + 16) f) 103 Z) 95 = hAI g 95 := by rw [pS_far _ _ (by decide), sAI_ne _ _ (by omega)]
    rw [← hQ, q_X0_theftsNow]
    simp only [rd_hK_putS, rd_hFR_putS, rd_hLN_putS, rd_hFJ_putS, rd_hAJ_putS, rd_hAR_putS, rd_hNX_putS, rd_hK_sAI, rd_hFR_sAI, rd_hLN_sAI, am_kd, a1, a0, t0_, tf1, tk1, tn1, if_true, bR_s, ec, tc, w, hm0]
    rfl
  have lp : ∀ r l i f Z, l + r = m → i ≤ l → Q = am_R PG (d + 4) 9 20 [some (.ref 93), some (.ref p), some (.int (nI c)), some (.int sh), some (.int (nI (at_ + n))), some (.int (nI (cntB (nG (vN W (hAI g (p + 4)) (hAI g (p + 7)) (hAI g (p + 13)) c) (dewN (hAI g (p + 4)) c) (decide (hAI g (p + 4) c = 1)) hN (incN (hAI g (p + 4)) c) at_ s sh n) l))), some (.int (nI l)), some (.int (nI m)), some (.int (nI i)), none] [] (putS (sAI g (p + 16) f) 103 Z) →
      ∃ f2 Z2, Q = some (some (.int (nI (cntB (nG (vN W (hAI g (p + 4)) (hAI g (p + 7)) (hAI g (p + 13)) c) (dewN (hAI g (p + 4)) c) (decide (hAI g (p + 4) c = 1)) hN (incN (hAI g (p + 4)) c) at_ s sh n) m))), putS (sAI g (p + 16) f2) 103 Z2) := by
    intro r
    induction r using Nat.strongRecOn with
    | _ r ih =>
      intro l i f Z hlr hil hq
      have e9 : ((999 : Int32) < nI i) = False := eq_false (nI_nlt (a := 999) (by omega) (by decide))
      by_cases hlm : l < m
      · have e5 : (nI l < nI m) = True := eq_true (nI_lt hlm (by omega))
        have k1 := c_copyc (d := d + 2) (R := Z) (hs.to (rd_hK_sAI g (p + 16) f) (rd_hFR_sAI g (p + 16) f) (rd_hLN_sAI g (p + 16) f)) (StSh.to (g := sAI g (p + 16) f) rfl rfl rfl h94) (Or.inr (by decide)) hc
        have hg : getS (sAI g (p + 16) f) 94 = getS g 94 := getS_fr rfl (fun k h1 h2 => sAI_ne _ _ (by omega))
        rw [hg] at k1
        generalize hY : xcpc c (getS g 94) Z = Y at k1
        have hY1 : Y.1 = nI at_ := by rw [← hY]; exact hT
        have hYc : getc Y c = e3 (m, s) := by rw [← hY]; unfold xcpc; rw [getc_setc, hTc]
        have hY2c : getc (Y.1, upd Y.2.1 c (nI l), Y.2.2) c = e3 (l, s) := by
          have h2 : (getc Y c).2 = (nI s.1, bi s.2) := by rw [hYc]; rfl
          show (upd Y.2.1 c (nI l) c, (getc Y c).2) = _
          rw [pk_us, h2]
          rfl
        obtain ⟨j, f2, Z2, j1, j2, j3, k2⟩ := c_goRob (d := d) (n := n) (Z := (Y.1, upd Y.2.1 c (nI l), Y.2.2)) hp hl a1 a2 hs hpb hc hho h9 (show (l, s).1 ≤ hN by dsimp only; omega) hn hY1 hY2c f
        obtain ⟨w1, w2⟩ := nG_stop (v := vN W (hAI g (p + 4)) (hAI g (p + 7)) (hAI g (p + 13)) c) (dew := dewN (hAI g (p + 4)) c) (old := decide (hAI g (p + 4) c = 1)) (hr := at_) (incN_le (hAI g (p + 4)) c) (show l ≤ hN by omega) j1 hsn j2
        have hsp := nsp_le (v := vN W (hAI g (p + 4)) (hAI g (p + 7)) (hAI g (p + 13)) c) (dew := dewN (hAI g (p + 4)) c) (old := decide (hAI g (p + 4) c = 1)) (ho := hN) (inc := incN (hAI g (p + 4)) c) (hr := at_) (s := (l, s)) j
        generalize hG : nG (vN W (hAI g (p + 4)) (hAI g (p + 7)) (hAI g (p + 13)) c) (dewN (hAI g (p + 4)) c) (decide (hAI g (p + 4) c = 1)) hN (incN (hAI g (p + 4)) c) at_ s sh n = G at w1 w2 hq ih ⊢
        generalize nsp (vN W (hAI g (p + 4)) (hAI g (p + 7)) (hAI g (p + 13)) c) (dewN (hAI g (p + 4)) c) (decide (hAI g (p + 4) c = 1)) hN (incN (hAI g (p + 4)) c) at_ (l, s) j = SP at k2 w2 hsp
        generalize nrun (vN W (hAI g (p + 4)) (hAI g (p + 7)) (hAI g (p + 13)) c) (dewN (hAI g (p + 4)) c) (decide (hAI g (p + 4) c = 1)) hN (incN (hAI g (p + 4)) c) at_ (l, s) j = z at w1 j3
        have hs2 : Z2.2.2.1 c = nI z.2.1 := congrArg (fun x : Int32 × Int32 × Int32 => x.2.1) j3
        have hs3 : Z2.2.2.2.1 c = bi z.2.2 := congrArg (fun x : Int32 × Int32 × Int32 => x.2.2) j3
        have m1 : nI m - nI l - (1 : Int32) = nI (m - l - 1) := by
          obtain ⟨y, rfl⟩ : ∃ y, m = l + y + 1 := ⟨m - l - 1, by omega⟩
          rw [pk_sub (by omega), show l + y + 1 - l = y + 1 by omega, nI_pred]
          rfl
        have k3 := am_min (d + 2) SP (m - l - 1) (putS (sAI g (p + 16) f2) 103 Z2) (by omega) (by omega)
        have hmin1 := Nat.min_le_left SP (m - l - 1)
        have hmin2 := Nat.min_le_right SP (m - l - 1)
        change (Nat.min SP (m - l - 1)) ≤ SP at hmin1
        change (Nat.min SP (m - l - 1)) ≤ m - l - 1 at hmin2
        generalize Nat.min SP (m - l - 1) = q at k3 hmin1 hmin2
        have hc3 := cntB_run (B := G) (l := l) (1 + q) (fun e he => w2 e (by omega) (by omega))
        have b1 : (1 : Int32) + nI q = nI (1 + q) := nI_add 1 q
        have hcl := cntB_le G l
        refine ih (m - (l + (1 + q))) (by omega) (l + (1 + q)) (i + 1) f2 Z2 (by omega) (by omega) ?_
        rw [hq, q_X0_theftsNow_20, hc3, w1]
        simp only [rd_hK_putS, rd_hFR_putS, rd_hLN_putS, rd_hFJ_putS, rd_hAJ_putS, rd_hAR_putS, rd_hNX_putS, pS_2, pS_3, pE_1, rd_hK_sAI, rd_hFR_sAI, rd_hLN_sAI, am_kd, a1, a0, a2, ss0, sf1, sf2, sf3, sf4, sf5, sf6, sf7, sf8, sk1, sk2, sk3, sk4, sk5, sk6, sk7, sk8, sn1, sn2, sn3, sn4, sn5, sn6, sn7, sn8, if_true, if_false, bR_s, e9, e5, ec, tc, k1, bV_s, am_let_e, k2, bI_s, m1, k3, hs2, hs3, b1, nI_add, nI_1]
        by_cases c1 : nI z.2.1 = sh
        · cases c2 : z.2.2 with
          | true => simp [c1, c2, bi_t]
          | false => simp [c1, c2, bi_f]
        · simp [c1]
      · have e5 : (nI l < nI m) = False := eq_false (nI_nlt (by omega) (by omega))
        have : l = m := by omega
        subst this
        refine ⟨f, Z, ?_⟩
        rw [hq, q_X0_theftsNow_20]
        simp only [e9, e5, if_false]
  exact lp m 0 0 f Z (Nat.zero_add _) (Nat.le_refl _) hq0
/-! the hours ahead of which -/
def ff (B : Nat → Bool) : Nat → Int32
  | 0 => -1
  | n + 1 => if B n = true then (if ff B n < 0 then nI n else ff B n) else ff B n
def lf (B : Nat → Bool) : Nat → Int32
  | 0 => -1
  | n + 1 => if B n = true then nI n else lf B n
def sumC (f : Nat → Nat) : Nat → Nat
  | 0 => 0
  | n + 1 => sumC f n + f n
theorem sumC_le {f : Nat → Nat} {b : Nat} : ∀ n, (∀ i, i < n → f i ≤ b) → sumC f n ≤ b * n
  | 0, _ => Nat.zero_le _
  | n + 1, h => by
    have := sumC_le n (fun i hi => h i (by omega))
    have := h n (by omega)
    unfold sumC
    rw [Nat.mul_succ]
    omega
def thA (a : Int32) (C : Nat → Nat) (n : Nat) : Int32 := if a = 0 then nI (sumC C n) else if a = 1 then ff (fun i => decide (0 < C i)) n else lf (fun i => decide (0 < C i)) n
theorem putS_comm (h : AH) {a b : Nat} (R T : SV) (e : b + 8 < a ∨ a + 8 < b) : putS (putS h a R) b T = putS (putS h b T) a R := by
  apply AH_ext
  all_goals simp only [rd_hK_putS, rd_hFR_putS, rd_hLN_putS, rd_hFJ_putS, rd_hAJ_putS, rd_hAR_putS, rd_hNX_putS, rd_hFI_putS, rd_hAI_putS]
  · funext k x
    unfold am_up2
    by_cases c1 : k = 700 ∧ x = b
    · rw [if_pos c1, if_neg (by omega)]
      rw [if_pos c1]
    · rw [if_neg c1]
      by_cases c2 : k = 700 ∧ x = a
      · rw [if_pos c2, if_pos c2]
      · rw [if_neg c2, if_neg c2, if_neg c1]
  · funext x
    by_cases c1 : b < x ∧ x ≤ b + 8
    · rw [if_pos c1, if_neg (by omega)]
      rw [if_pos c1]
    · rw [if_neg c1]
      by_cases c2 : a < x ∧ x ≤ a + 8
      · rw [if_pos c2, if_pos c2]
      · rw [if_neg c2, if_neg c2, if_neg c1]
/-- pairs ahead of hour i -/
def thC (v : Nat → Nat → Nat) (dew : Nat → Bool) (old : Bool) (ho : Nat) (inc : Nat → Nat) (s0 : Nat × Nat × Bool) (sh : Int32) (n i : Nat) : Nat := cntB (nG v dew old ho inc i (nrun v dew old ho inc 0 s0 i).2 sh (n - i)) (nrun v dew old ho inc 0 s0 i).1
theorem c_thefts {d p np nc ne nw len c n hN m0 : Nat} {W : Int32 → Int32 → Int32 → Int32 → Int32} {g : AH} {sh a : Int32} (hp : PoC g p np nc ne nw) (hl : PoL g p len W) (ha : AhSh g 93 94) (a2 : hFR g 1 93 = some 103) (hs : StSh g 103) (hpb : p ≤ 30) (hc : c < 6) (hho : hAI g (p + 6) c = nI hN) (h9 : hN ≤ 999) (hm : m0 ≤ hN) (hn : n ≤ 48) (hF : (getS g (p + 17)).1 = 0) (hFc : getc (getS g (p + 17)) c = e3 (m0, 0, false)) :
    ∃ f T Z, am_C PG (d + 5) 8 [.ref 93, .ref p, .int (nI c), .int sh, .int (nI n), .int a] g = some (some (.int (thA a (thC (vN W (hAI g (p + 4)) (hAI g (p + 7)) (hAI g (p + 13)) c) (dewN (hAI g (p + 4)) c) (decide (hAI g (p + 4) c = 1)) hN (incN (hAI g (p + 4)) c) (m0, 0, false) sh n) n)), putS (putS (sAI g (p + 16) f) 94 T) 103 Z) := by
  obtain ⟨a1, a0, h94⟩ := ha
  have p0 := hp.1.1.1
  have h519 : hFR g 519 p = some (p + 17) := by
    obtain ⟨⟨⟨p0, pf1, pf2, pf3, pf4, pf5, pf6, pf7, pf8, pf9, pf10, pf11, pf12, pf13, pf14, pf17, pk1, pk2, pk3, pk4, pk5, pk6, pk7, pk8, pk9, pk10, pk11, pk12, pk13, pn1, pn2, pn3, pn4, pn5, pn6, pn7, pn8, pn9, pn10, pn11, pn12, pn13⟩, _, _⟩, _⟩ := hp
    exact pf17
  have hss := hs
  obtain ⟨ss0, sf1, sf2, sf3, sf4, sf5, sf6, sf7, sf8, sk1, sk2, sk3, sk4, sk5, sk6, sk7, sk8, sn1, sn2, sn3, sn4, sn5, sn6, sn7, sn8⟩ := hss
  have t0_ := h94.1
  have ec : ∀ x, am_in (nI c) 6 x = x := am_inN hc (by decide)
  have tc : Int32.toNatClampNeg (nI c) = c := nI_clamp (by omega)
  have o : ∀ f b, b ≠ p + 16 → hAI (sAI g (p + 16) f) b = hAI g b := fun f b hb => sAI_ne _ _ hb
  generalize hQ : am_C PG (d + 5) 8 [.ref 93, .ref p, .int (nI c), .int sh, .int (nI n), .int a] g = Q
  have k0 := c_copyc (d := d + 3) (R := getS g 94) (c := c) h94 hp.1.2.2 (Or.inr (by omega)) hc
  rw [putS_get] at k0
  generalize hC : thC (vN W (hAI g (p + 4)) (hAI g (p + 7)) (hAI g (p + 13)) c) (dewN (hAI g (p + 4)) c) (decide (hAI g (p + 4) c = 1)) hN (incN (hAI g (p + 4)) c) (m0, 0, false) sh n = C
  have hCb : ∀ i, i < 48 → C i ≤ 999 := fun i hi => by
    rw [← hC]
    refine Nat.le_trans (cntB_le _ _) ?_
    have := (nrun_ho (v := vN W (hAI g (p + 4)) (hAI g (p + 7)) (hAI g (p + 13)) c) (dew := dewN (hAI g (p + 4)) c) (old := decide (hAI g (p + 4) c = 1)) (hr := 0) (s := (m0, 0, false)) hm (incN_le (hAI g (p + 4)) c) i).1
    omega
  have lp : ∀ i, i ≤ n → ∃ f T Z, T.1 = nI i ∧ getc T c = e3 (nrun (vN W (hAI g (p + 4)) (hAI g (p + 7)) (hAI g (p + 13)) c) (dewN (hAI g (p + 4)) c) (decide (hAI g (p + 4) c = 1)) hN (incN (hAI g (p + 4)) c) 0 (m0, 0, false) i) ∧ Q = am_R PG (d + 5) 8 24 [some (.ref 93), some (.ref p), some (.int (nI c)), some (.int sh), some (.int (nI n)), some (.int a), some (.int (nI (sumC C i))), some (.int (ff (fun i => decide (0 < C i)) i)), some (.int (lf (fun i => decide (0 < C i)) i)), some (.int (nI i)), none] [] (putS (putS (sAI g (p + 16) f) 94 T) 103 Z) := by
    intro i
    induction i with
    | zero =>
      intro _
      refine ⟨hAI g (p + 16), xcpc c (getS g (p + 17)) (getS g 94), getS (putS g 94 (xcpc c (getS g (p + 17)) (getS g 94))) 103, hF, by unfold xcpc; rw [getc_setc, hFc]; rfl, ?_⟩
      rw [sAI_self, putS_get, ← hQ, q_X0_thefts]
      simp only [am_kd, a1, a0, p0, t0_, h519, if_true, bR_s, k0, bV_s]
      rfl
    | succ i ih =>
      intro hi
      obtain ⟨f, T, Z, t1, t2, t3⟩ := ih (by omega)
      have e5 : (nI i < nI n) = True := eq_true (nI_lt (by omega) (by omega))
      have hib := nrun_ho (v := vN W (hAI g (p + 4)) (hAI g (p + 7)) (hAI g (p + 13)) c) (dew := dewN (hAI g (p + 4)) c) (old := decide (hAI g (p + 4) c = 1)) (hr := 0) (s := (m0, 0, false)) hm (incN_le (hAI g (p + 4)) c) i
      dsimp only at hib
      have hrn : nrun (vN W (hAI g (p + 4)) (hAI g (p + 7)) (hAI g (p + 13)) c) (dewN (hAI g (p + 4)) c) (decide (hAI g (p + 4) c = 1)) hN (incN (hAI g (p + 4)) c) 0 (m0, 0, false) (i + 1) = nst (vN W (hAI g (p + 4)) (hAI g (p + 7)) (hAI g (p + 13)) c) (dewN (hAI g (p + 4)) c) (decide (hAI g (p + 4) c = 1)) hN (incN (hAI g (p + 4)) c) (0 + i) (nrun (vN W (hAI g (p + 4)) (hAI g (p + 7)) (hAI g (p + 13)) c) (dewN (hAI g (p + 4)) c) (decide (hAI g (p + 4) c = 1)) hN (incN (hAI g (p + 4)) c) 0 (m0, 0, false) i) := rfl
      have hCi : C i = cntB (nG (vN W (hAI g (p + 4)) (hAI g (p + 7)) (hAI g (p + 13)) c) (dewN (hAI g (p + 4)) c) (decide (hAI g (p + 4) c = 1)) hN (incN (hAI g (p + 4)) c) i (nrun (vN W (hAI g (p + 4)) (hAI g (p + 7)) (hAI g (p + 13)) c) (dewN (hAI g (p + 4)) c) (decide (hAI g (p + 4) c = 1)) hN (incN (hAI g (p + 4)) c) 0 (m0, 0, false) i).2 sh (n - i)) (nrun (vN W (hAI g (p + 4)) (hAI g (p + 7)) (hAI g (p + 13)) c) (dewN (hAI g (p + 4)) c) (decide (hAI g (p + 4) c = 1)) hN (incN (hAI g (p + 4)) c) 0 (m0, 0, false) i).1 := by rw [← hC]; rfl
      have hCb2 := hCb i (by omega)
      have hsc : sumC C i ≤ 999 * i := sumC_le i (fun j hj => hCb j (by omega))
      have hs1 : sumC C (i + 1) = sumC C i + C i := rfl
      generalize nrun (vN W (hAI g (p + 4)) (hAI g (p + 7)) (hAI g (p + 13)) c) (dewN (hAI g (p + 4)) c) (decide (hAI g (p + 4) c = 1)) hN (incN (hAI g (p + 4)) c) 0 (m0, 0, false) i = s at t2 hib hrn hCi
      -- the robbed
      have g94 : getS (putS (sAI g (p + 16) f) 94 T) 94 = T := getS_put _ _ _
      obtain ⟨f2, Z2, k1⟩ := c_theftsNow (d := d) (n := n - i) (at_ := i) (m := s.1) (s := s.2) (sh := sh) (g := putS (sAI g (p + 16) f) 94 T) (hp.scr.put) ((hl.scr (b := p + 16) (f := f) (by omega)).put (a := 94) (R := T) (Or.inr (by omega))) (c := c) (hN := hN) ⟨a1, a0, h94.to rfl rfl rfl⟩ a2 (hs.to rfl rfl rfl) hpb hc (by rw [pS_far _ _ (by omega), o _ _ (by omega)]; exact hho) h9 hib.1 (by omega) (by omega) (by rw [g94]; exact t1) (by rw [g94]; exact t2) (hAI (putS (sAI g (p + 16) f) 94 T) (p + 16)) Z
      rw [sAI_self, pS_far _ _ (by omega), pS_far _ _ (by omega), pS_far _ _ (by omega), o _ _ (by omega), o _ _ (by omega), o _ _ (by omega), ← hCi, putS_sAI _ _ _ (by omega), sAI_sAI, show i + (n - i) = n by omega] at k1
      -- the clock goes on
      obtain ⟨f3, k2⟩ := c_pclk (d := d + 1) (a := 94) (R := T) (c := c) (hr := i) (g := putS (sAI g (p + 16) f2) 103 Z2) (hp.scr.put) ((hl.scr (b := p + 16) (f := f2) (by omega)).put (a := 103) (R := Z2) (Or.inr (by omega))) (h94.to rfl rfl rfl) (Or.inr (by omega)) hc (by omega) t1
      rw [pS_far _ _ (by omega), pS_far _ _ (by omega), pS_far _ _ (by omega), pS_far _ _ (by omega), o _ _ (by omega), o _ _ (by omega), o _ _ (by omega), o _ _ (by omega), t2, xclk_n (by omega) hho h9 hib.1, putS_sAI _ _ _ (by omega), sAI_sAI, putS_comm (sAI g (p + 16) f2) (a := 103) (b := 94) _ _ (by omega), putS_comm (sAI g (p + 16) f3) (a := 103) (b := 94) _ _ (by omega)] at k2
      rw [Nat.zero_add] at hrn
      rw [← hrn] at k2
      generalize hY : setc T c (e3 (nrun (vN W (hAI g (p + 4)) (hAI g (p + 7)) (hAI g (p + 13)) c) (dewN (hAI g (p + 4)) c) (decide (hAI g (p + 4) c = 1)) hN (incN (hAI g (p + 4)) c) 0 (m0, 0, false) (i + 1))) = Y at k2
      have hY1 : Y.1 = nI i := by rw [← hY]; exact t1
      have hYc : getc (Y.1 + 1, Y.2) c = e3 (nrun (vN W (hAI g (p + 4)) (hAI g (p + 7)) (hAI g (p + 13)) c) (dewN (hAI g (p + 4)) c) (decide (hAI g (p + 4) c = 1)) hN (incN (hAI g (p + 4)) c) 0 (m0, 0, false) (i + 1)) := by
        show getc Y c = _
        rw [← hY, getc_setc]
      have y0 : hFI (putS (putS (sAI g (p + 16) f3) 94 Y) 103 Z2) 700 94 = Y.1 := by rw [pS_fi _ _ (Or.inr (by decide)), pS_hr]
      have y1 : ∀ v, sFI (putS (putS (sAI g (p + 16) f3) 94 Y) 103 Z2) 700 94 v = putS (putS (sAI g (p + 16) f3) 94 (v, Y.2)) 103 Z2 := fun v => by
        rw [putS_comm _ _ _ (by omega), putS_sFI, putS_comm _ _ _ (by omega)]
      refine ⟨f3, (Y.1 + 1, Y.2), Z2, by show Y.1 + 1 = _; rw [hY1, nI_1], hYc, ?_⟩
      have u1 : ff (fun i => decide (0 < C i)) (i + 1) = (if decide (0 < C i) = true then (if ff (fun i => decide (0 < C i)) i < 0 then nI i else ff (fun i => decide (0 < C i)) i) else ff (fun i => decide (0 < C i)) i) := rfl
      have u2 : lf (fun i => decide (0 < C i)) (i + 1) = (if decide (0 < C i) = true then nI i else lf (fun i => decide (0 < C i)) i) := rfl
      rw [t3, q_X0_thefts_24, hs1, u1, u2]
      by_cases c1 : 0 < C i
      · have d1 : (0 < nI (C i)) = True := eq_true (nI_lt (a := 0) c1 (by omega))
        by_cases c2 : ff (fun i => decide (0 < C i)) i < 0
        · simp only [rd_hK_putS, rd_hFR_putS, rd_hLN_putS, rd_hFJ_putS, rd_hAJ_putS, rd_hAR_putS, rd_hNX_putS, y0, y1, rd_hK_sAI, rd_hFR_sAI, am_kd, a1, a0, p0, t0_, if_true, bR_s, e5, k1, bI_s, k2, bV_s, am_let_e, d1, if_true, decide_eq_true c1, if_pos c2, nI_add, nI_1]
        · simp only [rd_hK_putS, rd_hFR_putS, rd_hLN_putS, rd_hFJ_putS, rd_hAJ_putS, rd_hAR_putS, rd_hNX_putS, y0, y1, rd_hK_sAI, rd_hFR_sAI, am_kd, a1, a0, p0, t0_, if_true, bR_s, e5, k1, bI_s, k2, bV_s, am_let_e, d1, if_true, decide_eq_true c1, if_neg c2, nI_add, nI_1]
      · have d1 : (0 < nI (C i)) = False := eq_false (fun z => c1 (by
          have : C i = 0 := by omega
          rw [this] at z
          exact absurd z (by decide)))
        simp only [rd_hK_putS, rd_hFR_putS, rd_hLN_putS, rd_hFJ_putS, rd_hAJ_putS, rd_hAR_putS, rd_hNX_putS, y0, y1, rd_hK_sAI, rd_hFR_sAI, am_kd, a1, a0, p0, t0_, if_true, bR_s, e5, k1, bI_s, k2, bV_s, am_let_e, d1, if_false, decide_eq_false c1, Bool.false_eq_true, nI_add, nI_1]
  obtain ⟨f, T, Z, t1, t2, t3⟩ := lp n (Nat.le_refl _)
  refine ⟨f, T, Z, ?_⟩
  rw [t3, q_X0_thefts_24, if_neg (nI_nlt (Nat.le_refl _) (by omega))]
  unfold thA
  by_cases c0 : a = 0
  · rw [if_pos c0, if_pos c0]
  · by_cases c1 : a = 1
    · rw [if_neg c0, if_pos c1, if_neg c0, if_pos c1]
    · rw [if_neg c0, if_neg c1, if_neg c0, if_neg c1]
