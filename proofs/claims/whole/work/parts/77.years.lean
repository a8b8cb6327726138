/-! years: hour by hour on both sides. -/
theorem c_clives {d p np nc ne nw len n hr sd : Nat} {W : Int32 → Int32 → Int32 → Int32 → Int32} {g g2 : AH} {T : SV} {f : Nat → Int32} {l4 l5 l6 : Int32} (L : Lk g g2 p np nc ne nw len n W) (ha : AhSh g 93 94) (hpb : p ≤ 30) (hh : hr < 2 ^ 31) (hT : T.1 = nI hr) (hl : l6 < l4) (hsd : sd < 2147483648) :
    ∃ u, am_R PG (d + 5) 12 17 [some (.ref 93), some (.ref p), some (.ref 62), none, some (.int l4), some (.int l5), some (.int l6), none, none] [] (putS (sAI (sFJ g 2 93 (lN sd)) (p + 16) f) 94 T) = am_R PG (d + 5) 12 17 [some (.ref 93), some (.ref p), some (.ref 62), none, some (.int l4), some (.int l5), some (.int (l6 + 1)), none, none] [] (putS (sAI (sFJ g 2 93 (lN (ysd nc sd))) (p + 16) u) 94 (xhour W (rowsP g p) nc ne nw hr (ylo nc (rowsP g p 6) sd T))) := by
  have h6 : nc ≤ 6 := L.1.2.2.2.2.2.2.1
  have kd : am_C PG (d + 4) 11 [.ref 93, .int 20] (putS (sAI (sFJ g 2 93 (lN sd)) (p + 16) f) 94 T) = some (some (.int (nI (dlot sd))), putS (sAI (sFJ g 2 93 (lN (dN sd))) (p + 16) f) 94 T) := by
    have k := c_drJ (d := d + 3) (m := 20) (p := p) (f := f) (T := T) ha.1 hsd (by decide) (by decide)
    have e : (20 : Int32) = nI 20 := rfl
    unfold dlot
    rw [e]
    exact k
  have hd20 := dlot_lt sd
  by_cases c0 : dlot sd = 0
  · have ey : ylo nc (rowsP g p 6) sd T = xrain nc (hAI g (p + 6)) T := by unfold ylo; rw [if_pos c0]; rfl
    have es : ysd nc sd = dN sd := by
      unfold ysd
      rw [if_neg]
      rw [c0]
      exact fun z => absurd z.1 (by decide)
    rw [ey, es]
    generalize dlot sd = lot at *
    generalize lN sd = x0 at *
    generalize lN (dN sd) = x1 at *
    exact c_clv_rain L ha hpb hh hT hl kd c0
  · by_cases c1 : dlot sd = 1 ∧ 0 < nc
    · have ey : ylo nc (rowsP g p 6) sd T = xhas (dcl nc sd) (T.2.1 (dcl nc sd) - T.2.1 (dcl nc sd) / 2) T := by unfold ylo; rw [if_neg c0, if_pos c1]
      have es : ysd nc sd = dN (dN sd) := by unfold ysd; rw [if_pos c1]
      have hc := dcl_lt sd c1.2
      have kd2 : am_C PG (d + 4) 11 [.ref 93, .int (nI nc)] (putS (sAI (sFJ g 2 93 (lN (dN sd))) (p + 16) f) 94 T) = some (some (.int (nI (dcl nc sd))), putS (sAI (sFJ g 2 93 (lN (dN (dN sd)))) (p + 16) f) 94 T) := by
        have k := c_drJ (d := d + 3) (m := nc) (p := p) (f := f) (T := T) ha.1 (dN_lt sd) c1.2 (by omega)
        unfold dcl
        exact k
      rw [ey, es]
      generalize dlot sd = lot at *
      generalize dcl nc sd = c at *
      generalize lN sd = x0 at *
      generalize lN (dN (dN sd)) = x2 at *
      generalize lN (dN sd) = x1 at *
      exact c_clv_half L ha hpb hh hT hl kd kd2 c1.1 c1.2 hc
    · have ey : ylo nc (rowsP g p 6) sd T = T := by unfold ylo; rw [if_neg c0, if_neg c1]
      have es : ysd nc sd = dN sd := by unfold ysd; rw [if_neg c1]
      rw [ey, es]
      generalize dlot sd = lot at *
      generalize lN sd = x0 at *
      generalize lN (dN sd) = x1 at *
      exact c_clv_none L ha hpb hh hT hl kd hd20 c0 c1
/-- seeds and rows, hour by hour -/
def ysn (nc s0 : Nat) : Nat → Nat
  | 0 => s0
  | i + 1 => ysd nc (ysn nc s0 i)
theorem ysn_lt {nc s0 : Nat} (h : s0 < 2147483648) : ∀ i, ysn nc s0 i < 2147483648
  | 0 => h
  | i + 1 => ysd_lt nc _
def yQs (W : Int32 → Int32 → Int32 → Int32 → Int32) (M : Nat → Nat → Int32) (nc ne nw hr s0 : Nat) (Q : MQv) : Nat → MQv
  | 0 => Q
  | i + 1 => mhour W M nc ne nw (hr + i) (ylo nc (M 359) (ysn nc s0 i) (yQs W M nc ne nw hr s0 Q i).1, (yQs W M nc ne nw hr s0 Q i).2)
theorem pr_years0 {d d2 p np nc ne nw len n hr s0 m : Nat} {W : Int32 → Int32 → Int32 → Int32 → Int32} {g g2 : AH} {T : SV} {Q : MQv} {f : Nat → Int32} {ρ : Nat → Nat → Int32} {w : M4} {a : Int32} (L : Lk g g2 p np nc ne nw len n W) (ha : AhSh g 93 94) (hpb : p ≤ 30) (hS : SR (hAI g2) np nc ne nw hr T Q) (hh : hr + m < 2 ^ 31) (hs0 : s0 < 2147483648) : ∀ i, i ≤ m →
    ∃ u T' τ y, SR (hAI g2) np nc ne nw (hr + i) T' (yQs W (hAI g2) nc ne nw hr s0 Q i) ∧
      am_R PG (d + 5) 12 17 [some (.ref 93), some (.ref p), some (.ref 62), none, some (.int (nI m)), some (.int a), some (.int 0), none, none] [] (putS (sAI (sFJ g 2 93 (lN s0)) (p + 16) f) 94 T) = am_R PG (d + 5) 12 17 [some (.ref 93), some (.ref p), some (.ref 62), none, some (.int (nI m)), some (.int a), some (.int (nI i)), none, none] [] (putS (sAI (sFJ g 2 93 (lN (ysn nc s0 i))) (p + 16) u) 94 T') ∧
      am_R PG (d2 + 8) 266 60 [some (.ref 348), none, some (.int (nI m)), some (.int a), some (.int 0)] [] (HM (sFJ g2 1281 348 (lN s0)) (enc Q) ρ w) = am_R PG (d2 + 8) 266 60 [some (.ref 348), none, some (.int (nI m)), some (.int a), some (.int (nI i))] [] (HM (sFJ g2 1281 348 (lN (ysn nc s0 i))) (enc (yQs W (hAI g2) nc ne nw hr s0 Q i)) τ y) := by
  intro i
  induction i with
  | zero => intro _; exact ⟨f, T, ρ, w, hS, rfl, rfl⟩
  | succ i ih =>
    intro hi
    obtain ⟨u, T1, τ, y, S1, k1, k2⟩ := ih (by omega)
    have hsd := ysn_lt (nc := nc) hs0 i
    have hP := L.2.2.2.2.2.2.2.1
    have m0 := L.2.2.2.1.1
    have es : ysn nc s0 (i + 1) = ysd nc (ysn nc s0 i) := rfl
    have eq : yQs W (hAI g2) nc ne nw hr s0 Q (i + 1) = mhour W (hAI g2) nc ne nw (hr + i) (ylo nc (hAI g2 359) (ysn nc s0 i) (yQs W (hAI g2) nc ne nw hr s0 Q i).1, (yQs W (hAI g2) nc ne nw hr s0 Q i).2) := rfl
    rw [es, eq]
    generalize ysn nc s0 i = sd at *
    generalize yQs W (hAI g2) nc ne nw hr s0 Q i = Q1 at *
    have S2 := SR_hour (W := W) hP (SR_ylo (n := sd) hP S1)
    have hlt : nI i < nI m := nI_lt (by omega) (by omega)
    obtain ⟨u2, k3⟩ := c_clives (d := d) (f := u) (l5 := a) L ha hpb (show hr + i < 2 ^ 31 by omega) S1.1 hlt hsd
    obtain ⟨τ2, y2, k4⟩ := c_mlives (d := d2) (ρ := τ) (w := y) L S1 (show hr + i < 2 ^ 31 by omega) hsd
    generalize ysd nc sd = sd2 at *
    refine ⟨u2, _, τ2, y2, S2, ?_, ?_⟩
    · rw [k1, k3, nI_1]
    · rw [k2, q_X12_years_60, if_pos hlt, am_kd_t (by rw [hm_K, rd_hK_sFJ]; exact m0), k4, bV_s, nI_1]
