/-! days, both sides whole. -/
theorem c_lays5_s {d f t i : Nat} {H : AH} (hm : MSh H) (hf : f ≤ 5) (ht : t ≤ 5) (hi : i < 40) (f1 f2 f3 f4 : Nat → Int32) :
    am_R PG (d + 1) 204 14 [some (.ref 348), some (.int (nI f)), some (.int (nI t)), some (.int (nI i))] [] (L4 H f1 f2 f3 f4) = am_R PG (d + 1) 204 14 [some (.ref 348), some (.int (nI f)), some (.int (nI t)), some (.int (nI (i + 1)))] [] (L4 H (upd f1 (40 * t + i) (f1 (40 * f + i))) (upd f2 (40 * t + i) (f2 (40 * f + i))) (upd f3 (40 * t + i) (f3 (40 * f + i))) (upd f4 (40 * t + i) (f4 (40 * f + i)))) := by
  have m0 := hm.1
  have f1249 : hFR _ 1249 348 = some 387 := (hm.2 38 (by decide)).1
  have k387 : hK _ 387 = 50 := (hm.2 38 (by decide)).2.1
  have n387 : hLN _ 387 = 240 := (hm.2 38 (by decide)).2.2
  have f1250 : hFR _ 1250 348 = some 388 := (hm.2 39 (by decide)).1
  have k388 : hK _ 388 = 50 := (hm.2 39 (by decide)).2.1
  have n388 : hLN _ 388 = 240 := (hm.2 39 (by decide)).2.2
  have f1251 : hFR _ 1251 348 = some 389 := (hm.2 40 (by decide)).1
  have k389 : hK _ 389 = 50 := (hm.2 40 (by decide)).2.1
  have n389 : hLN _ 389 = 240 := (hm.2 40 (by decide)).2.2
  have f1252 : hFR _ 1252 348 = some 390 := (hm.2 41 (by decide)).1
  have k390 : hK _ 390 = 50 := (hm.2 41 (by decide)).2.1
  have n390 : hLN _ 390 = 240 := (hm.2 41 (by decide)).2.2
  have e5 : nI i < (40 : Int32) := nI_lt (b := 40) (by omega) (by decide)
  have s1 : (40 : Int32) * nI f + nI i = nI (40 * f + i) := by rw [show (40 : Int32) = nI 40 from rfl, pk_mul, nI_add]
  have s2 : (40 : Int32) * nI t + nI i = nI (40 * t + i) := by rw [show (40 : Int32) = nI 40 from rfl, pk_mul, nI_add]
  have x1 : ∀ x, am_in (nI (40 * f + i)) 240 x = x := am_inN (by omega) (by decide)
  have x2 : ∀ x, am_in (nI (40 * t + i)) 240 x = x := am_inN (by omega) (by decide)
  have y1 : Int32.toNatClampNeg (nI (40 * f + i)) = 40 * f + i := nI_clamp (by omega)
  have y2 : Int32.toNatClampNeg (nI (40 * t + i)) = 40 * t + i := nI_clamp (by omega)
  generalize 40 * f + i = a at s1 x1 y1 ⊢
  generalize 40 * t + i = b at s2 x2 y2 ⊢
  rw [q_X12_laysLines_14, if_pos e5, s1, s2]
  have A : ∀ H : AH, hK H 348 = 13 → ∀ x, am_kd H 348 13 x = x := fun H e x => am_kd_t e x
  have kk : ∀ (g1 g2 g3 g4 : Nat → Int32) r, hK (L4 H g1 g2 g3 g4) r = hK H r := fun g1 g2 g3 g4 r => by rw [L4_K]
  have kr : ∀ (g1 g2 g3 g4 : Nat → Int32) k r, hFR (L4 H g1 g2 g3 g4) k r = hFR H k r := fun g1 g2 g3 g4 k r => by rw [L4_R]
  have kl : ∀ (g1 g2 g3 g4 : Nat → Int32) r, hLN (L4 H g1 g2 g3 g4) r = hLN H r := fun g1 g2 g3 g4 r => by rw [L4_L]
  rw [am_kd_t (by rw [kk, m0]), kr, f1249, bR_s, am_kd_t (by rw [kk, m0]), bR_s, am_kd_t (by rw [kk, k387]), kl, n387, x1, am_kd_t (by rw [kk, k387]), x2, y1, y2, sEI_e, L4_1, L4_a, am_let_e]
  rw [am_kd_t (by rw [kk, m0]), kr, f1250, bR_s, am_kd_t (by rw [kk, m0]), bR_s, am_kd_t (by rw [kk, k388]), kl, n388, x1, am_kd_t (by rw [kk, k388]), x2, sEI_e, L4_2, L4_b, am_let_e]
  rw [am_kd_t (by rw [kk, m0]), kr, f1251, bR_s, am_kd_t (by rw [kk, m0]), bR_s, am_kd_t (by rw [kk, k389]), kl, n389, x1, am_kd_t (by rw [kk, k389]), x2, sEI_e, L4_3, L4_c, am_let_e]
  rw [am_kd_t (by rw [kk, m0]), kr, f1252, bR_s, am_kd_t (by rw [kk, m0]), bR_s, am_kd_t (by rw [kk, k390]), kl, n390, x1, am_kd_t (by rw [kk, k390]), x2, sEI_e, L4_4, L4_d, am_let_e, nI_1]
theorem c_lays5 {d f t : Nat} {h : AH} (hm : MSh h) (hf : f ≤ 5) (ht : t ≤ 5) (hne : f ≠ t) :
    am_C PG (d + 1) 204 [.ref 348, .int (nI f), .int (nI t)] h = some (none, L4 (sAI h 386 (upd (hAI h 386) t (hAI h 386 f))) (bcp (40 * f) (40 * t) 40 (hAI h 387)) (bcp (40 * f) (40 * t) 40 (hAI h 388)) (bcp (40 * f) (40 * t) 40 (hAI h 389)) (bcp (40 * f) (40 * t) 40 (hAI h 390))) := by
  have m0 := hm.1
  have f1248 : hFR _ 1248 348 = some 386 := (hm.2 37 (by decide)).1
  have k386 : hK _ 386 = 50 := (hm.2 37 (by decide)).2.1
  have n386 : hLN _ 386 = 6 := (hm.2 37 (by decide)).2.2
  have f1249 : hFR _ 1249 348 = some 387 := (hm.2 38 (by decide)).1
  have k387 : hK _ 387 = 50 := (hm.2 38 (by decide)).2.1
  have n387 : hLN _ 387 = 240 := (hm.2 38 (by decide)).2.2
  have f1250 : hFR _ 1250 348 = some 388 := (hm.2 39 (by decide)).1
  have k388 : hK _ 388 = 50 := (hm.2 39 (by decide)).2.1
  have n388 : hLN _ 388 = 240 := (hm.2 39 (by decide)).2.2
  have f1251 : hFR _ 1251 348 = some 389 := (hm.2 40 (by decide)).1
  have k389 : hK _ 389 = 50 := (hm.2 40 (by decide)).2.1
  have n389 : hLN _ 389 = 240 := (hm.2 40 (by decide)).2.2
  have f1252 : hFR _ 1252 348 = some 390 := (hm.2 41 (by decide)).1
  have k390 : hK _ 390 = 50 := (hm.2 41 (by decide)).2.1
  have n390 : hLN _ 390 = 240 := (hm.2 41 (by decide)).2.2
  have ef : ∀ x, am_in (nI f) 6 x = x := am_inN (by omega) (by decide)
  have et : ∀ x, am_in (nI t) 6 x = x := am_inN (by omega) (by decide)
  have tf : Int32.toNatClampNeg (nI f) = f := nI_clamp (by omega)
  have tt : Int32.toNatClampNeg (nI t) = t := nI_clamp (by omega)
  have lp : ∀ i, i ≤ 40 → am_C PG (d + 1) 204 [.ref 348, .int (nI f), .int (nI t)] h = am_R PG (d + 1) 204 14 [some (.ref 348), some (.int (nI f)), some (.int (nI t)), some (.int (nI i))] [] (L4 (sAI h 386 (upd (hAI h 386) t (hAI h 386 f))) (bcp (40 * f) (40 * t) i (hAI h 387)) (bcp (40 * f) (40 * t) i (hAI h 388)) (bcp (40 * f) (40 * t) i (hAI h 389)) (bcp (40 * f) (40 * t) i (hAI h 390))) := by
    intro i
    induction i with
    | zero =>
      intro _
      have z : ∀ a, a ≠ 386 → hAI h a = hAI (sAI h 386 (upd (hAI h 386) t (hAI h 386 f))) a := fun a ha => (sAI_ne _ _ ha).symm
      rw [bcp_0, bcp_0, bcp_0, bcp_0, z 387 (by decide), z 388 (by decide), z 389 (by decide), z 390 (by decide), L4_self, q_X12_laysLines]
      simp only [am_kd, m0, f1248, k386, n386, f1249, k387, n387, f1250, k388, n388, f1251, k389, n389, f1252, k390, n390, if_true, bR_s, ef, et, tf, tt, sEI_e, am_let_e]
      rfl
    | succ i ih =>
      intro hi
      have bs : ∀ F, upd (bcp (40 * f) (40 * t) i F) (40 * t + i) (bcp (40 * f) (40 * t) i F (40 * f + i)) = bcp (40 * f) (40 * t) (i + 1) F := fun F => bcp_s (w := 40) F (by omega) (by omega)
      rw [ih (by omega), c_lays5_s (i := i) (H := sAI h 386 (upd (hAI h 386) t (hAI h 386 f))) (hm.to rfl (fun _ => rfl) rfl) hf ht (by omega), bs, bs, bs, bs]
  rw [lp 40 (Nat.le_refl _), q_X12_laysLines_14, if_neg (by decide)]
theorem CD.f200 (h : AH) (f : Int32) : CD h (sFI h 200 56 f) := ⟨rd_hK_sFI _ _ _ _, rd_hLN_sFI _ _ _ _, rd_hAR_sFI _ _ _ _, rd_hNX_sFI _ _ _ _, rd_hAJ_sFI _ _ _ _, fun _ _ _ => by rw [rd_hFR_sFI], fun _ _ _ => by rw [rd_hFJ_sFI], fun k x _ _ e => sFI_o _ _ (by omega), fun _ _ => by rw [rd_hAI_sFI]⟩
/-- what reading days may change: the class -/
def CEd (h g : AH) : Prop := hK g = hK h ∧ hLN g = hLN h ∧ hAR g = hAR h ∧ hNX g = hNX h ∧ hAJ g = hAJ h ∧ (∀ k x, (k ≠ 906 ∨ x ≠ 1) → (x ≠ 3 ∨ k = 600) → hFR g k x = hFR h k x) ∧ (∀ k x, (k ≠ 905 ∨ x ≠ 1) → hFJ g k x = hFJ h k x) ∧ (∀ k x, (x ≠ 1 ∨ k < 902 ∨ 908 < k) → (x ≠ 3 ∨ k < 603 ∨ 605 < k) → (x ≠ 56 ∨ k ≠ 200) → hFI g k x = hFI h k x) ∧ ∀ x, (x < 57 ∨ 60 < x) → hAI g x = hAI h x
/-- and the reference -/
def ME (h g : AH) : Prop := hK g = hK h ∧ hFR g = hFR h ∧ hLN g = hLN h ∧ hAR g = hAR h ∧ hNX g = hNX h ∧ hAJ g = hAJ h ∧ (∀ k x, x ≠ 348 → hFJ g k x = hFJ h k x) ∧ (∀ k x, (x ≠ 348 ∨ k = 1264) → hFI g k x = hFI h k x) ∧ hFI g 1201 348 = 0 ∧ ∀ r i, (r < 386 ∨ 390 < r ∨ (r = 386 ∧ i ≠ 5) ∨ (387 ≤ r ∧ i < 200)) → hAI g r i = hAI h r i
theorem ME.md {h g k : AH} (a : ME h g) (b : MD g k) : ME h k := by
  obtain ⟨a1, a2, a3, a4, a5, a6, a7, a8, a9, a10⟩ := a
  obtain ⟨b1, b2, b3, b4, b5, b6, b7, b8, b9⟩ := b
  exact ⟨b1.trans a1, b2.trans a2, b3.trans a3, b4.trans a4, b5.trans a5, b6.trans a6, fun k x e => (b7 k x (by omega)).trans (a7 k x e), fun k x e => (b8 k x (by omega)).trans (a8 k x e), (b8 _ _ (by omega)).trans a9, fun r i e => (b9 r i e).trans (a10 r i e)⟩
/-- the class begins to read days -/
theorem c_readDays0 {d a n : Nat} {h : AH} {T : Nat → Nat} (ha : 3 < a) (ha2 : a ≤ 30) (k3 : hK h 3 = 7) (f6 : hFR h 600 3 = some 1) (s : PoSh h a) (ds : DaSh h 56) (hp : Tp h n T) (hw : WdSh h) : ∃ g, am_C PG (d + 7) 77 [.ref 3, .ref a, .ref 56] h = am_R PG (d + 7) 77 32 [some (.ref 3), none, none, some (.int (nI 0))] [] g ∧ CEd h g ∧ CX g a n T (tkB n T 0) ∧ hFI g 603 3 = 0 ∧ hFI g 200 56 = 0 ∧ hFR g 602 3 = some 56 ∧ DaSh g 56 := by
  have k1 : hK h 1 = 10 := hp.1
  have k56 : hK h 56 = 3 := ds.1
  have y3 : hK (sFR h 601 3 (some a)) 3 = 7 := by rw [rd_hK_sFR]; exact k3
  obtain ⟨h2, e2, t1, t2, t3, t4, t5, t6, t7, t8, t9, t10, t11⟩ : ∃ h2, sFR (sFR h 601 3 (some a)) 602 3 (some 56) = h2 ∧ hK h2 = hK h ∧ hLN h2 = hLN h ∧ hAR h2 = hAR h ∧ hFI h2 = hFI h ∧ hFJ h2 = hFJ h ∧ hAI h2 = hAI h ∧ hAJ h2 = hAJ h ∧ hNX h2 = hNX h ∧ (∀ k x, (x ≠ 3 ∨ (k ≠ 601 ∧ k ≠ 602)) → hFR h2 k x = hFR h k x) ∧ hFR h2 601 3 = some a ∧ hFR h2 602 3 = some 56 := by
    refine ⟨_, rfl, ?_, ?_, ?_, ?_, ?_, ?_, ?_, ?_, fun k x e => ?_, ?_, ?_⟩
    · rw [rd_hK_sFR, rd_hK_sFR]
    · rw [rd_hLN_sFR, rd_hLN_sFR]
    · rw [rd_hAR_sFR, rd_hAR_sFR]
    · rw [rd_hFI_sFR, rd_hFI_sFR]
    · rw [rd_hFJ_sFR, rd_hFJ_sFR]
    · rw [rd_hAI_sFR, rd_hAI_sFR]
    · rw [rd_hAJ_sFR, rd_hAJ_sFR]
    · rw [rd_hNX_sFR, rd_hNX_sFR]
    · rw [sFR_o _ _ (by omega), sFR_o _ _ (by omega)]
    · rw [sFR_o _ _ (by decide), sFR_at]
    · rw [sFR_at]
  have z3 : hK h2 3 = 7 := by rw [t1]; exact k3
  have z56 : hK h2 56 = 3 := by rw [t1]; exact k56
  have z33 : hK (sFI h2 200 56 0) 3 = 7 := by rw [rd_hK_sFI]; exact z3
  obtain ⟨h5, e5, u1, u2, u3, u4, u5⟩ : ∃ h5, sFI (sFI h2 200 56 0) 603 3 0 = h5 ∧ CD h2 h5 ∧ hFR h5 = hFR h2 ∧ hAI h5 = hAI h2 ∧ hFI h5 603 3 = 0 ∧ hFI h5 200 56 = 0 := by
    refine ⟨_, rfl, (CD.f200 h2 0).tr (CD.f3 _ 0), ?_, ?_, ?_, ?_⟩
    · rw [rd_hFR_sFI, rd_hFR_sFI]
    · rw [rd_hAI_sFI, rd_hAI_sFI]
    · rw [sFI_at]
    · rw [sFI_o _ _ (by decide), sFI_at]
  obtain ⟨v1, v2, v3, v4, v5, v6, v7, v8, v9⟩ := id u1
  have fj : hFJ h5 = hFJ h := by rw [← e5, rd_hFJ_sFI, rd_hFJ_sFI, t5]
  have tp : Tp h5 n T := Tp.to (h := h) (by rw [v1, t1]) (by rw [u2, t9 _ _ (by omega)]) (by rw [v2, t2]) (by rw [v8 _ _ (by omega) (by omega) (by omega), t4]) (by rw [u3, t6]) hp
  have tw : WdSh h5 := WdSh.to (h := h) (by rw [v1, t1]) (by rw [v3, t3]) (by rw [v2, t2]) (fun k x _ => by rw [fj]) (fun x hx => by rw [v8 _ _ (by omega) (by omega) (by omega), t4]) hw
  obtain ⟨g, g1, g2, g3⟩ := c_tape0 (d := d + 2) tp tw
  have cg := g2.ct.cd
  obtain ⟨w1, w2, w3, w4, w5, w6, w7, w8, w9⟩ := u1.tr cg
  have q3 : hK h5 3 = 7 := by rw [v1]; exact z3
  have q1 : hK h5 1 = 10 := by rw [v1, t1]; exact k1
  have q6 : hFR h5 600 3 = some 1 := by rw [u2, t9 _ _ (by omega)]; exact f6
  have dg : DaSh g 56 := by
    have d2 : DaSh h2 56 := by
      unfold DaSh at ds ⊢
      rw [t1, t2, t9 _ _ (by omega), t9 _ _ (by omega), t9 _ _ (by omega), t9 _ _ (by omega)]
      exact ds
    exact d2.cd (u1.tr cg)
  refine ⟨g, ?_, ⟨by rw [w1, t1], by rw [w2, t2], by rw [w3, t3], by rw [w4, t8], by rw [w5, t7], fun k x e1 e2 => by rw [w6 k x e1, t9 k x (by omega)], fun k x e => by rw [w7 k x e, t5], fun k x e1 e2 e3 => by rw [w8 k x e1 e2 e3, t4], fun x e => by rw [w9 x e, t6]⟩, ⟨?_, ?_, ?_, ?_, g2.wd tw, g2.tp tp, g3, (tkB_le (Nat.zero_le n)).1⟩, ?_, ?_, ?_, dg⟩
  · rw [q_X6_readDays, am_kd_t k3, am_let_e, am_kd_t y3, am_let_e, e2, am_kd_t z3, t11, bR_s, am_kd_t z56, am_let_e, am_kd_t z33, am_let_e, e5, am_kd_t q3, q6, bR_s, am_kd_t q1, g1, bV_s, nI_0]
  · rw [w1]; exact z3
  · rw [w6 _ _ (by omega), t9 _ _ (by omega)]; exact f6
  · rw [w6 _ _ (by omega)]; exact t10
  · exact PoSh.fr3 (h := h) (by rw [w1, t1]) (fun k x e => by rw [w6 _ _ (by omega), t9 _ _ (by omega)]) (by rw [w2, t2]) ha s
  · rw [g2.2.2.2.2.2.2.2.2 _ _ (by omega)]; exact u4
  · rw [g2.2.2.2.2.2.2.2.2 _ _ (by omega)]; exact u5
  · rw [w6 _ _ (by omega)]; exact t11
/-- the model begins to read days -/
theorem m_days0 {d n : Nat} {G : AH} {T : Nat → Nat} (hm : MSh G) (hn : n ≤ 1000) (e1 : hFI G 1201 348 = nI n) (hT : ∀ i, i < n → T i < 128 ∧ hAI G 349 i = nI (T i)) : ∃ g, am_C PG (d + 6) 208 [.ref 348] G = am_R PG (d + 6) 208 16 [some (.ref 348)] [] g ∧ ME G g ∧ MX g n T (tkB n T 0) ∧ hAI g 386 5 = nI 0 := by
  have hm0 := hm
  have m0 := hm0.1
  have f1248 : hFR _ 1248 348 = some 386 := (hm0.2 37 (by decide)).1
  have k386 : hK _ 386 = 50 := (hm0.2 37 (by decide)).2.1
  have n386 : hLN _ 386 = 6 := (hm0.2 37 (by decide)).2.2
  have i5 : ∀ x, am_in (5 : Int32) 6 x = x := am_inN (i := 5) (by decide) (by decide)
  have t5 : Int32.toNatClampNeg (5 : Int32) = 5 := by decide
  have p0 : hK (sFI G 1200 348 0) 348 = 13 := by rw [rd_hK_sFI]; exact m0
  have p1 : hFR (sFI G 1200 348 0) 1248 348 = some 386 := by rw [rd_hFR_sFI]; exact f1248
  have p2 : hK (sFI G 1200 348 0) 386 = 50 := by rw [rd_hK_sFI]; exact k386
  have p3 : hLN (sFI G 1200 348 0) 386 = 6 := by rw [rd_hLN_sFI]; exact n386
  obtain ⟨G1, e2, s1, s2, s3, s4, s5, s6, s7, s8, s9, s10⟩ : ∃ G1, sEI (sFI G 1200 348 0) 386 5 0 = G1 ∧ hK G1 = hK G ∧ hFR G1 = hFR G ∧ hLN G1 = hLN G ∧ hAR G1 = hAR G ∧ hNX G1 = hNX G ∧ hAJ G1 = hAJ G ∧ hFJ G1 = hFJ G ∧ (∀ k x, (x ≠ 348 ∨ k ≠ 1200) → hFI G1 k x = hFI G k x) ∧ (∀ r i, (r ≠ 386 ∨ i ≠ 5) → hAI G1 r i = hAI G r i) ∧ hAI G1 386 5 = nI 0 := by
    refine ⟨_, rfl, ?_, ?_, ?_, ?_, ?_, ?_, ?_, fun k x e => ?_, fun r i e => ?_, ?_⟩
    · rw [rd_hK_sEI, rd_hK_sFI]
    · rw [rd_hFR_sEI, rd_hFR_sFI]
    · rw [rd_hLN_sEI, rd_hLN_sFI]
    · rw [rd_hAR_sEI, rd_hAR_sFI]
    · rw [rd_hNX_sEI, rd_hNX_sFI]
    · rw [rd_hAJ_sEI, rd_hAJ_sFI]
    · rw [rd_hFJ_sEI, rd_hFJ_sFI]
    · rw [rd_hFI_sEI, sFI_o _ _ (by omega)]
    · by_cases c : r = 386
      · subst c
        rw [sEI_at, pk_un (by omega), rd_hAI_sFI]
      · rw [sEI_ne _ _ _ c, rd_hAI_sFI]
    · rw [sEI_at, pk_us, nI_0]
  have hm1 : MSh G1 := MSh.to (h := G) s1 (fun k => by rw [s2]) s3 hm
  obtain ⟨g, k1, k2, k3, k4, k5, k6⟩ := m_starts (d := d + 2) hm1 hn (by rw [s8 _ _ (by decide)]; exact e1) (fun i hi => by rw [s9 _ _ (by omega)]; exact hT i hi)
  obtain ⟨w1, w2, w3, w4, w5, w6, w7, w8, w9⟩ := k2
  have q0 : hK G1 348 = 13 := hm1.1
  refine ⟨g, ?_, ⟨by rw [w1, rd_hK_sFI, s1], by rw [w2, rd_hFR_sFI, s2], by rw [w3, rd_hLN_sFI, s3], by rw [w4, rd_hAR_sFI, s4], by rw [w5, rd_hNX_sFI, s5], by rw [k4, s6], fun k x e => by rw [w6 k x (by omega), rd_hFJ_sFI, s7], fun k x e => by rw [w7 k x (by omega), sFI_o _ _ (by omega), s8 _ _ (by omega)], by rw [w7 _ _ (by omega), sFI_at], fun r i e => by rw [k3, s9 r i (by omega)]⟩, k6, by rw [k3]; exact s10⟩
  rw [q_X12_days, am_kd_t m0, am_let_e, am_kd_t p0, p1, bR_s, am_kd_t p2, p3, i5, am_let_e, t5, e2, am_kd_t q0, k1, bV_s]
theorem CEd.cd {h g k : AH} (a : CEd h g) (b : CD g k) : CEd h k := by
  obtain ⟨a1, a2, a3, a4, a5, a6, a7, a8, a9⟩ := a
  obtain ⟨b1, b2, b3, b4, b5, b6, b7, b8, b9⟩ := b
  exact ⟨b1.trans a1, b2.trans a2, b3.trans a3, b4.trans a4, b5.trans a5, fun k x e f => (b6 k x e).trans (a6 k x e f), fun k x e => (b7 k x e).trans (a7 k x e), fun k x e1 e2 e3 => (b8 k x e1 e2 e3).trans (a8 k x e1 e2 e3), fun x e => (b9 x e).trans (a9 x e)⟩
theorem dp_pair {d d2 a n np nc ne : Nat} {h G : AH} {T : Nat → Nat} (ha : a = 4 ∨ a = 30) (k3 : hK h 3 = 7) (f6 : hFR h 600 3 = some 1) (s : PoSh h a) (ds : DaSh h 56) (hp : Tp h n T) (hw : WdSh h) (y1 : hFI h 501 a = nI np ∧ hFI h 503 a = nI nc ∧ hFI h 504 a = nI ne ∧ np ≤ 5 ∧ nc ≤ 6 ∧ ne ≤ 4) (hm : MSh G) (hn : n ≤ 1000) (e1 : hFI G 1201 348 = nI n) (hT : ∀ i, i < n → T i < 128 ∧ hAI G 349 i = nI (T i)) (y2 : hAI G 350 0 = nI np ∧ hAI G 350 2 = nI nc ∧ hAI G 350 3 = nI ne) (y3 : (∀ i, i < np → hAJ h (a + 1) i = hAJ G 351 i) ∧ (∀ i, i < nc → hAJ h (a + 1) (5 + i) = hAJ G 352 i) ∧ ∀ i, i < ne → hAJ h (a + 1) (11 + i) = hAJ G 353 i) :
    (∃ f h1 g1, f ≠ 0 ∧ am_C PG (d + 7) 77 [.ref 3, .ref a, .ref 56] h = some (some (.int f), h1) ∧ am_C PG (d2 + 6) 208 [.ref 348] G = some (some (.int f), g1) ∧ CEd h h1 ∧ ME G g1) ∨
    ∃ h1 g1 m, am_C PG (d + 7) 77 [.ref 3, .ref a, .ref 56] h = some (some (.int 0), h1) ∧ am_C PG (d2 + 6) 208 [.ref 348] G = bV (am_C PG (d2 + 5) 204 [.ref 348, .int (5 : Int32), .int (0 : Int32)] g1) (fun h1 => some (some (.int (0 : Int32)), h1)) ∧ CEd h h1 ∧ ME G g1 ∧ MSh g1 ∧ Dd h1 g1 np nc ne m := by
  obtain ⟨h0, c1, c2, c3, c4, c5, c6, c7⟩ := c_readDays0 (d := d) (show 3 < a by omega) (by omega) k3 f6 s ds hp hw
  obtain ⟨g0, m1, m2, m3, m4⟩ := m_days0 (d := d2) hm hn e1 hT
  obtain ⟨p1, p2, p3, p4, p5, p6⟩ := y1
  obtain ⟨r1, r2, r3⟩ := y2
  have ca := c2.2.2.2.2.2.2.2.1
  have cj := c2.2.2.2.2.1
  have mi := m2.2.2.2.2.2.2.2.2.2
  have mj := m2.2.2.2.2.2.1
  have Y : Yd h0 g0 a np nc ne := ⟨c6, c7, ⟨by rw [ca _ _ (by omega) (by omega) (by omega)]; exact p1, by rw [ca _ _ (by omega) (by omega) (by omega)]; exact p2, by rw [ca _ _ (by omega) (by omega) (by omega)]; exact p3, p4, p5, p6⟩, ⟨by rw [mi _ _ (by decide)]; exact r1, by rw [mi _ _ (by decide)]; exact r2, by rw [mi _ _ (by decide)]; exact r3⟩, by rw [cj, mj]; exact y3⟩
  have D : Dd h0 g0 np nc ne 0 := ⟨by decide, by rw [c5, nI_0], m4, fun i hi => absurd hi (Nat.not_lt_zero _)⟩
  rcases days_loop (d := d) (d2 := d2) ha n 0 (tkB n T 0) 0 h0 g0 (by omega) (Nat.zero_le _) c3 m3 Y D with ⟨f, h', g', f0, q1, q2, q3, q4⟩ | ⟨h', g', b', m', q1, q2, q3, q4, q5, q6, q7⟩
  · exact Or.inl ⟨f, h', g', f0, c1.trans q1, m1.trans q2, c2.cd q3, m2.md q4⟩
  · exact Or.inr ⟨h', g', m', by rw [c1, q1, c4], m1.trans q2, c2.cd q3.1, m2.md q4, q6.1.1, q7⟩
