/-! The model's hour of the drawn years, put together; the class's. -/
theorem c_mlives {d p np nc ne nw len n hr sd : Nat} {W : Int32 → Int32 → Int32 → Int32 → Int32} {g g2 : AH} {R : SV} {Q : MQv} {ρ : Nat → Nat → Int32} {w : M4} (L : Lk g g2 p np nc ne nw len n W) (hS : SR (hAI g2) np nc ne nw hr R Q) (hh : hr < 2 ^ 31) (hsd : sd < 2147483648) :
    ∃ τ y, am_C PG (d + 7) 264 [.ref 348] (HM (sFJ g2 1281 348 (lN sd)) (enc Q) ρ w) = some (none, HM (sFJ g2 1281 348 (lN (ysd nc sd))) (enc (mhour W (hAI g2) nc ne nw hr (ylo nc (hAI g2 359) sd Q.1, Q.2))) τ y) := by
  have S1 := SR_ylo (n := sd) L.2.2.2.2.2.2.2.1 hS
  have m0 := L.2.2.2.1.1
  have c2 := L.2.2.2.2.2.1.2.2.2.1
  have kd := c_mdr20 (d := d + 5) (f := enc Q) (ρ := ρ) (w := w) m0 hsd
  have hd20 := dlot_lt sd
  by_cases c0 : dlot sd = 0
  · have ey : ylo nc (hAI g2 359) sd Q.1 = xrain nc (hAI g2 359) Q.1 := by unfold ylo; rw [if_pos c0]
    have es : ysd nc sd = dN sd := by
      unfold ysd
      rw [if_neg]
      rw [c0]
      exact fun z => absurd z.1 (by decide)
    rw [ey] at S1 ⊢
    rw [es]
    generalize dlot sd = lot at *
    generalize lN sd = x0 at *
    generalize lN (dN sd) = x1 at *
    exact c_mlv_rain L hS hh kd hd20 c0 ⟨_, S1⟩
  · by_cases c1 : dlot sd = 1 ∧ 0 < nc
    · have ey : ylo nc (hAI g2 359) sd Q.1 = xhas (dcl nc sd) (Q.1.2.1 (dcl nc sd) - Q.1.2.1 (dcl nc sd) / 2) Q.1 := by unfold ylo; rw [if_neg c0, if_pos c1]
      have es : ysd nc sd = dN (dN sd) := by unfold ysd; rw [if_pos c1]
      have hc := dcl_lt sd c1.2
      have kd2 := c_mdrc (d := d + 5) (sd := sd) (f := enc Q) (ρ := ρ) (w := w) m0 c1.2 c2
      rw [ey] at S1 ⊢
      rw [es]
      generalize dlot sd = lot at *
      generalize dcl nc sd = c at *
      generalize lN sd = x0 at *
      generalize lN (dN (dN sd)) = x2 at *
      generalize lN (dN sd) = x1 at *
      exact c_mlv_half L hS hh kd hd20 c1.1 c1.2 hc kd2 ⟨_, S1⟩
    · have ey : ((ylo nc (hAI g2 359) sd Q.1, Q.2) : MQv) = Q := by unfold ylo; rw [if_neg c0, if_neg c1]
      have es : ysd nc sd = dN sd := by unfold ysd; rw [if_neg c1]
      rw [ey, es]
      generalize dlot sd = lot at *
      generalize lN sd = x0 at *
      generalize lN (dN sd) = x1 at *
      exact c_mlv_none L hS hh kd hd20 c0 c1
