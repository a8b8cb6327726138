/-! Resting prices: the class's side. -/
/-- goes to the first, to the other -/
def rG1 (t1 t2 a b : Int32) : Bool := decide (¬ t1 < 0) && (decide (t2 < 0) || decide (¬ t2 + b < t1 + a))
def rG2 (t1 t2 a b : Int32) : Bool := !rG1 t1 t2 a b && decide (¬ t2 < 0)
def rS (G : Nat → Bool) (dr : Nat → Int32) (n : Nat) : Int32 := sumN (fun e => if G e = true then dr e else 0) n
theorem c_sell {d p s np nc ne nw a one other i g1 g2 : Nat} {h : AH} {q : Nat → Nat} (hp : PoC h p np nc ne nw) (hs : StSh h s) (ha : hK h a = 2) (hg1 : hFR h 115 a = some g1) (hg2 : hFR h 116 a = some g2) (k1 : hK h g1 = 50) (k2 : hK h g2 = 50) (n1 : hLN h g1 = 100) (n2 : hLN h g2 = 100) (hne : g1 ≠ g2) (h1 : one < 5) (h2 : other < 5) (hi : i < 100) (hq : ∀ e, e < ne → q e < 5 ∧ hAI h (s + 4) e = nI (q e)) :
    am_C PG (d + 2) 28 [.ref a, .ref p, .ref s, .int (nI one), .int (nI other), .int (nI i)] h = some (none, sAI (sAI h g1 (upd (hAI h g1) i (rS (fun e => rG1 (hAI h (p + 3) (5 * q e + one)) (hAI h (p + 3) (5 * q e + other)) (nI (i / 10)) (nI (i % 10))) (hAI h (p + 8)) ne * nI (i / 10)))) g2 (upd (hAI h g2) i (rS (fun e => rG2 (hAI h (p + 3) (5 * q e + one)) (hAI h (p + 3) (5 * q e + other)) (nI (i / 10)) (nI (i % 10))) (hAI h (p + 8)) ne * nI (i % 10)))) := by
  have ks := fun u v (hu : u < 5) (hv : v < 5) => c_short (d := d) (q := u) (t := v) hp hu hv
  obtain ⟨s0, sf1, sf2, sf3, sf4, sf5, sf6, sf7, sf8, sk1, sk2, sk3, sk4, sk5, sk6, sk7, sk8, sn1, sn2, sn3, sn4, sn5, sn6, sn7, sn8⟩ := hs
  obtain ⟨⟨⟨p0, pf1, pf2, pf3, pf4, pf5, pf6, pf7, pf8, pf9, pf10, pf11, pf12, pf13, pf14, pf17, pk1, pk2, pk3, pk4, pk5, pk6, pk7, pk8, pk9, pk10, pk11, pk12, pk13, pn1, pn2, pn3, pn4, pn5, pn6, pn7, pn8, pn9, pn10, pn11, pn12, pn13⟩, -, -⟩, h1', h2', h3', h4', h5', h6', h7', h8'⟩ := hp
  have d10 : ∀ x, am_dz (10 : Int32) x = x := fun x => am_dz_t (by decide) x
  have q1 : nI i / 10 = nI (i / 10) := pk_div (d := 10) (by omega) (by decide) (by decide)
  have q2 : am_rem (nI i) 10 = nI (i % 10) := rem_nI (d := 10) (by omega) (by decide) (by decide)
  generalize hG1 : (fun e => rG1 (hAI h (p + 3) (5 * q e + one)) (hAI h (p + 3) (5 * q e + other)) (nI (i / 10)) (nI (i % 10))) = G1
  generalize hG2 : (fun e => rG2 (hAI h (p + 3) (5 * q e + one)) (hAI h (p + 3) (5 * q e + other)) (nI (i / 10)) (nI (i % 10))) = G2
  have lp : ∀ e, e ≤ ne → am_C PG (d + 2) 28 [.ref a, .ref p, .ref s, .int (nI one), .int (nI other), .int (nI i)] h = am_R PG (d + 2) 28 9 [some (.ref a), some (.ref p), some (.ref s), some (.int (nI one)), some (.int (nI other)), some (.int (nI i)), some (.int (rS G1 (hAI h (p + 8)) e)), some (.int (rS G2 (hAI h (p + 8)) e)), some (.int (nI e)), none, none, none, none] [] h := by
    intro e
    induction e with
    | zero => intro _; rw [q_X1_sell]; rfl
    | succ e ih =>
      intro he
      obtain ⟨hq1, hq2⟩ := hq e (by omega)
      have e5 : (nI e < nI ne) = True := eq_true (nI_lt (by omega) (by omega))
      have e4 : ∀ x, am_in (nI e) 4 x = x := am_inN (by omega) (by decide)
      have t1 : Int32.toNatClampNeg (nI e) = e := nI_clamp (by omega)
      have ks1 := ks (q e) one hq1 h1
      have ks2 := ks (q e) other hq1 h2
      have r1 : rS G1 (hAI h (p + 8)) (e + 1) = rS G1 (hAI h (p + 8)) e + if G1 e = true then hAI h (p + 8) e else 0 := rfl
      have r2 : rS G2 (hAI h (p + 8)) (e + 1) = rS G2 (hAI h (p + 8)) e + if G2 e = true then hAI h (p + 8) e else 0 := rfl
      have w1 : G1 e = rG1 (hAI h (p + 3) (5 * q e + one)) (hAI h (p + 3) (5 * q e + other)) (nI (i / 10)) (nI (i % 10)) := by rw [← hG1]
      have w2 : G2 e = rG2 (hAI h (p + 3) (5 * q e + one)) (hAI h (p + 3) (5 * q e + other)) (nI (i / 10)) (nI (i % 10)) := by rw [← hG2]
      rw [ih (by omega), q_X1_sell_9, r1, r2, w1, w2]
      simp only [am_kd, p0, pf1, pf2, pf3, pf4, pf5, pf6, pf7, pf8, pf9, pf10, pf11, pf12, pf13, pf14, pf17, pk1, pk2, pk3, pk4, pk5, pk6, pk7, pk8, pk9, pk10, pk11, pk12, pk13, pn1, pn2, pn3, pn4, pn5, pn6, pn7, pn8, pn9, pn10, pn11, pn12, pn13, s0, sf1, sf2, sf3, sf4, sf5, sf6, sf7, sf8, sk1, sk2, sk3, sk4, sk5, sk6, sk7, sk8, sn1, sn2, sn3, sn4, sn5, sn6, sn7, sn8, if_true, h3', e5, bR_s, e4, t1, hq2, ks1, ks2, bI_s, d10, q1, q2, nI_1]
      generalize hAI h (p + 3) (5 * q e + one) = x1
      generalize hAI h (p + 3) (5 * q e + other) = x2
      unfold rG2 rG1
      by_cases c1 : x1 < 0
      · by_cases c2 : x2 < 0
        · simp [c1, c2, add0]
        · simp [c1, c2, add0]
      · by_cases c2 : x2 < 0
        · simp [c1, c2, add0]
        · by_cases c3 : x2 + nI (i % 10) < x1 + nI (i / 10)
          · simp [c1, c2, c3, add0]
          · simp [c1, c2, c3, add0]
  have e6 : (nI ne < nI ne) = False := eq_false (nI_nlt (Nat.le_refl _) (by omega))
  have e1 : ∀ x, am_in (nI i) 100 x = x := am_inN hi (by decide)
  have ti : Int32.toNatClampNeg (nI i) = i := nI_clamp (by omega)
  have wn : ∀ f, hAI (sAI h g1 f) g2 = hAI h g2 := fun f => sAI_ne _ _ (fun z => hne z.symm)
  rw [lp ne (Nat.le_refl _), q_X1_sell_9]
  simp only [am_kd, p0, pf1, pf2, pf3, pf4, pf5, pf6, pf7, pf8, pf9, pf10, pf11, pf12, pf13, pf14, pf17, pk1, pk2, pk3, pk4, pk5, pk6, pk7, pk8, pk9, pk10, pk11, pk12, pk13, pn1, pn2, pn3, pn4, pn5, pn6, pn7, pn8, pn9, pn10, pn11, pn12, pn13, rd_hK_sAI, rd_hFR_sAI, rd_hLN_sAI, ha, hg1, hg2, k1, k2, n1, n2, if_true, if_false, h3', e6, bR_s, d10, q1, q2, e1, ti, sEI_e, am_let_e, wn]
