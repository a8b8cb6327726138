/-! The reference's laysLines, laysTold. -/
def L4 (H : AH) (f1 f2 f3 f4 : Nat → Int32) : AH := sAI (sAI (sAI (sAI H 387 f1) 388 f2) 389 f3) 390 f4
theorem L4_a (H : AH) (f1 f2 f3 f4 g : Nat → Int32) : sAI (L4 H f1 f2 f3 f4) 387 g = L4 H g f2 f3 f4 := by
  unfold L4
  rw [sAI_comm _ (by decide), sAI_comm _ (show (389 : Nat) ≠ 387 by decide), sAI_comm _ (show (388 : Nat) ≠ 387 by decide), sAI_sAI]
theorem L4_b (H : AH) (f1 f2 f3 f4 g : Nat → Int32) : sAI (L4 H f1 f2 f3 f4) 388 g = L4 H f1 g f3 f4 := by
  unfold L4
  rw [sAI_comm _ (by decide), sAI_comm _ (show (389 : Nat) ≠ 388 by decide), sAI_sAI]
theorem L4_c (H : AH) (f1 f2 f3 f4 g : Nat → Int32) : sAI (L4 H f1 f2 f3 f4) 389 g = L4 H f1 f2 g f4 := by
  unfold L4
  rw [sAI_comm _ (by decide), sAI_sAI]
theorem L4_d (H : AH) (f1 f2 f3 f4 g : Nat → Int32) : sAI (L4 H f1 f2 f3 f4) 390 g = L4 H f1 f2 f3 g := by
  unfold L4
  rw [sAI_sAI]
theorem L4_1 (H : AH) (f1 f2 f3 f4 : Nat → Int32) : hAI (L4 H f1 f2 f3 f4) 387 = f1 := by
  unfold L4
  rw [sAI_ne _ _ (by decide), sAI_ne _ _ (by decide), sAI_ne _ _ (by decide), sAI_at]
theorem L4_2 (H : AH) (f1 f2 f3 f4 : Nat → Int32) : hAI (L4 H f1 f2 f3 f4) 388 = f2 := by
  unfold L4
  rw [sAI_ne _ _ (by decide), sAI_ne _ _ (by decide), sAI_at]
theorem L4_3 (H : AH) (f1 f2 f3 f4 : Nat → Int32) : hAI (L4 H f1 f2 f3 f4) 389 = f3 := by
  unfold L4
  rw [sAI_ne _ _ (by decide), sAI_at]
theorem L4_4 (H : AH) (f1 f2 f3 f4 : Nat → Int32) : hAI (L4 H f1 f2 f3 f4) 390 = f4 := by
  unfold L4
  rw [sAI_at]
theorem L4_o (H : AH) (f1 f2 f3 f4 : Nat → Int32) {a : Nat} (e : a < 387 ∨ 390 < a) : hAI (L4 H f1 f2 f3 f4) a = hAI H a := by
  unfold L4
  rw [sAI_ne _ _ (by omega), sAI_ne _ _ (by omega), sAI_ne _ _ (by omega), sAI_ne _ _ (by omega)]
theorem L4_K (H : AH) (f1 f2 f3 f4 : Nat → Int32) : hK (L4 H f1 f2 f3 f4) = hK H := by
  unfold L4
  simp only [rd_hK_sAI]
theorem L4_R (H : AH) (f1 f2 f3 f4 : Nat → Int32) : hFR (L4 H f1 f2 f3 f4) = hFR H := by
  unfold L4
  simp only [rd_hFR_sAI]
theorem L4_L (H : AH) (f1 f2 f3 f4 : Nat → Int32) : hLN (L4 H f1 f2 f3 f4) = hLN H := by
  unfold L4
  simp only [rd_hLN_sAI]
theorem L4_F (H : AH) (f1 f2 f3 f4 : Nat → Int32) : hFI (L4 H f1 f2 f3 f4) = hFI H := by
  unfold L4
  simp only [rd_hFI_sAI]
theorem L4_self (H : AH) : L4 H (hAI H 387) (hAI H 388) (hAI H 389) (hAI H 390) = H := by
  unfold L4
  rw [sAI_self, sAI_self, sAI_self, sAI_self]
theorem c_lays_s {d f t i : Nat} {H : AH} (hm : MSh H) (hf : f ≤ 4) (ht : t ≤ 4) (hi : i < 40) (f1 f2 f3 f4 : Nat → Int32) :
    am_R PG (d + 1) 204 14 [some (.ref 348), some (.int (nI f)), some (.int (nI t)), some (.int (nI i))] [] (L4 H f1 f2 f3 f4) = am_R PG (d + 1) 204 14 [some (.ref 348), some (.int (nI f)), some (.int (nI t)), some (.int (nI (i + 1)))] [] (L4 H (upd f1 (40 * t + i) (f1 (40 * f + i))) (upd f2 (40 * t + i) (f2 (40 * f + i))) (upd f3 (40 * t + i) (f3 (40 * f + i))) (upd f4 (40 * t + i) (f4 (40 * f + i)))) := by
  have m0 := hm.1
  have f1249 : hFR _ 1249 348 = some 387 := (hm.2 38 (by decide)).1
  have k387 : hK _ 387 = 50 := (hm.2 38 (by decide)).2.1
  have n387 : hLN _ 387 = 240 := (hm.2 38 (by decide)).2.2
  have f1250 : hFR _ 1250 348 = some 388 := (hm.2 39 (by decide)).1
  have k388 : hK _ 388 = 50 := (hm.2 39 (by decide)).2.1
  have n388 : hLN _ 388 = 240 := (hm.2 39 (by decide)).2.2
  have f1251 : hFR _ 1251 348 = some 389 := (hm.2 40 (by decide)).1
  have k389 : hK _ 389 = 50 := (hm.2 40 (by decide)).2.1
  have n389 : hLN _ 389 = 240 := (hm.2 40 (by decide)).2.2
  have f1252 : hFR _ 1252 348 = some 390 := (hm.2 41 (by decide)).1
  have k390 : hK _ 390 = 50 := (hm.2 41 (by decide)).2.1
  have n390 : hLN _ 390 = 240 := (hm.2 41 (by decide)).2.2
  have e5 : nI i < (40 : Int32) := nI_lt (b := 40) (by omega) (by decide)
  have s1 : (40 : Int32) * nI f + nI i = nI (40 * f + i) := by rw [show (40 : Int32) = nI 40 from rfl, pk_mul, nI_add]
  have s2 : (40 : Int32) * nI t + nI i = nI (40 * t + i) := by rw [show (40 : Int32) = nI 40 from rfl, pk_mul, nI_add]
  have x1 : ∀ x, am_in (nI (40 * f + i)) 240 x = x := am_inN (by omega) (by decide)
  have x2 : ∀ x, am_in (nI (40 * t + i)) 240 x = x := am_inN (by omega) (by decide)
  have y1 : Int32.toNatClampNeg (nI (40 * f + i)) = 40 * f + i := nI_clamp (by omega)
  have y2 : Int32.toNatClampNeg (nI (40 * t + i)) = 40 * t + i := nI_clamp (by omega)
  generalize 40 * f + i = a at s1 x1 y1 ⊢
  generalize 40 * t + i = b at s2 x2 y2 ⊢
  rw [q_X12_laysLines_14, if_pos e5, s1, s2]
  have A : ∀ H : AH, hK H 348 = 13 → ∀ x, am_kd H 348 13 x = x := fun H e x => am_kd_t e x
  have kk : ∀ (g1 g2 g3 g4 : Nat → Int32) r, hK (L4 H g1 g2 g3 g4) r = hK H r := fun g1 g2 g3 g4 r => by rw [L4_K]
  have kr : ∀ (g1 g2 g3 g4 : Nat → Int32) k r, hFR (L4 H g1 g2 g3 g4) k r = hFR H k r := fun g1 g2 g3 g4 k r => by rw [L4_R]
  have kl : ∀ (g1 g2 g3 g4 : Nat → Int32) r, hLN (L4 H g1 g2 g3 g4) r = hLN H r := fun g1 g2 g3 g4 r => by rw [L4_L]
  rw [am_kd_t (by rw [kk, m0]), kr, f1249, bR_s, am_kd_t (by rw [kk, m0]), bR_s, am_kd_t (by rw [kk, k387]), kl, n387, x1, am_kd_t (by rw [kk, k387]), x2, y1, y2, sEI_e, L4_1, L4_a, am_let_e]
  rw [am_kd_t (by rw [kk, m0]), kr, f1250, bR_s, am_kd_t (by rw [kk, m0]), bR_s, am_kd_t (by rw [kk, k388]), kl, n388, x1, am_kd_t (by rw [kk, k388]), x2, sEI_e, L4_2, L4_b, am_let_e]
  rw [am_kd_t (by rw [kk, m0]), kr, f1251, bR_s, am_kd_t (by rw [kk, m0]), bR_s, am_kd_t (by rw [kk, k389]), kl, n389, x1, am_kd_t (by rw [kk, k389]), x2, sEI_e, L4_3, L4_c, am_let_e]
  rw [am_kd_t (by rw [kk, m0]), kr, f1252, bR_s, am_kd_t (by rw [kk, m0]), bR_s, am_kd_t (by rw [kk, k390]), kl, n390, x1, am_kd_t (by rw [kk, k390]), x2, sEI_e, L4_4, L4_d, am_let_e, nI_1]
theorem c_lays {d f t : Nat} {h : AH} (hm : MSh h) (hf : f ≤ 4) (ht : t ≤ 4) (hne : f ≠ t) :
    am_C PG (d + 1) 204 [.ref 348, .int (nI f), .int (nI t)] h = some (none, L4 (sAI h 386 (upd (hAI h 386) t (hAI h 386 f))) (bcp (40 * f) (40 * t) 40 (hAI h 387)) (bcp (40 * f) (40 * t) 40 (hAI h 388)) (bcp (40 * f) (40 * t) 40 (hAI h 389)) (bcp (40 * f) (40 * t) 40 (hAI h 390))) := by
  have m0 := hm.1
  have f1248 : hFR _ 1248 348 = some 386 := (hm.2 37 (by decide)).1
  have k386 : hK _ 386 = 50 := (hm.2 37 (by decide)).2.1
  have n386 : hLN _ 386 = 6 := (hm.2 37 (by decide)).2.2
  have f1249 : hFR _ 1249 348 = some 387 := (hm.2 38 (by decide)).1
  have k387 : hK _ 387 = 50 := (hm.2 38 (by decide)).2.1
  have n387 : hLN _ 387 = 240 := (hm.2 38 (by decide)).2.2
  have f1250 : hFR _ 1250 348 = some 388 := (hm.2 39 (by decide)).1
  have k388 : hK _ 388 = 50 := (hm.2 39 (by decide)).2.1
  have n388 : hLN _ 388 = 240 := (hm.2 39 (by decide)).2.2
  have f1251 : hFR _ 1251 348 = some 389 := (hm.2 40 (by decide)).1
  have k389 : hK _ 389 = 50 := (hm.2 40 (by decide)).2.1
  have n389 : hLN _ 389 = 240 := (hm.2 40 (by decide)).2.2
  have f1252 : hFR _ 1252 348 = some 390 := (hm.2 41 (by decide)).1
  have k390 : hK _ 390 = 50 := (hm.2 41 (by decide)).2.1
  have n390 : hLN _ 390 = 240 := (hm.2 41 (by decide)).2.2
  have ef : ∀ x, am_in (nI f) 6 x = x := am_inN (by omega) (by decide)
  have et : ∀ x, am_in (nI t) 6 x = x := am_inN (by omega) (by decide)
  have tf : Int32.toNatClampNeg (nI f) = f := nI_clamp (by omega)
  have tt : Int32.toNatClampNeg (nI t) = t := nI_clamp (by omega)
  have lp : ∀ i, i ≤ 40 → am_C PG (d + 1) 204 [.ref 348, .int (nI f), .int (nI t)] h = am_R PG (d + 1) 204 14 [some (.ref 348), some (.int (nI f)), some (.int (nI t)), some (.int (nI i))] [] (L4 (sAI h 386 (upd (hAI h 386) t (hAI h 386 f))) (bcp (40 * f) (40 * t) i (hAI h 387)) (bcp (40 * f) (40 * t) i (hAI h 388)) (bcp (40 * f) (40 * t) i (hAI h 389)) (bcp (40 * f) (40 * t) i (hAI h 390))) := by
    intro i
    induction i with
    | zero =>
      intro _
      have z : ∀ a, a ≠ 386 → hAI h a = hAI (sAI h 386 (upd (hAI h 386) t (hAI h 386 f))) a := fun a ha => (sAI_ne _ _ ha).symm
      rw [bcp_0, bcp_0, bcp_0, bcp_0, z 387 (by decide), z 388 (by decide), z 389 (by decide), z 390 (by decide), L4_self, q_X12_laysLines]
      simp only [am_kd, m0, f1248, k386, n386, f1249, k387, n387, f1250, k388, n388, f1251, k389, n389, f1252, k390, n390, if_true, bR_s, ef, et, tf, tt, sEI_e, am_let_e]
      rfl
    | succ i ih =>
      intro hi
      have bs : ∀ F, upd (bcp (40 * f) (40 * t) i F) (40 * t + i) (bcp (40 * f) (40 * t) i F (40 * f + i)) = bcp (40 * f) (40 * t) (i + 1) F := fun F => bcp_s (w := 40) F (by omega) (by omega)
      rw [ih (by omega), c_lays_s (i := i) (H := sAI h 386 (upd (hAI h 386) t (hAI h 386 f))) (hm.to rfl (fun _ => rfl) rfl) hf ht (by omega), bs, bs, bs, bs]
  rw [lp 40 (Nat.le_refl _), q_X12_laysLines_14, if_neg (by decide)]
def L2 (H : AH) (a : Nat) (f1 f2 : Nat → Int32) : AH := sAI (sAI H a f1) (a + 1) f2
theorem L2_a (H : AH) (a : Nat) (f1 f2 g : Nat → Int32) : sAI (L2 H a f1 f2) a g = L2 H a g f2 := by
  unfold L2
  rw [sAI_comm _ (show a + 1 ≠ a by omega), sAI_sAI]
theorem L2_b (H : AH) (a : Nat) (f1 f2 g : Nat → Int32) : sAI (L2 H a f1 f2) (a + 1) g = L2 H a f1 g := by
  unfold L2
  rw [sAI_sAI]
theorem L2_1 (H : AH) (a : Nat) (f1 f2 : Nat → Int32) : hAI (L2 H a f1 f2) a = f1 := by
  unfold L2
  rw [sAI_ne _ _ (by omega), sAI_at]
theorem L2_2 (H : AH) (a : Nat) (f1 f2 : Nat → Int32) : hAI (L2 H a f1 f2) (a + 1) = f2 := by
  unfold L2
  rw [sAI_at]
theorem L2_o (H : AH) (a : Nat) (f1 f2 : Nat → Int32) {b : Nat} (e : b ≠ a ∧ b ≠ a + 1) : hAI (L2 H a f1 f2) b = hAI H b := by
  unfold L2
  rw [sAI_ne _ _ e.2, sAI_ne _ _ e.1]
theorem L2_K (H : AH) (a : Nat) (f1 f2 : Nat → Int32) : hK (L2 H a f1 f2) = hK H := by
  unfold L2
  simp only [rd_hK_sAI]
theorem L2_R (H : AH) (a : Nat) (f1 f2 : Nat → Int32) : hFR (L2 H a f1 f2) = hFR H := by
  unfold L2
  simp only [rd_hFR_sAI]
theorem L2_L (H : AH) (a : Nat) (f1 f2 : Nat → Int32) : hLN (L2 H a f1 f2) = hLN H := by
  unfold L2
  simp only [rd_hLN_sAI]
theorem L2_F (H : AH) (a : Nat) (f1 f2 : Nat → Int32) : hFI (L2 H a f1 f2) = hFI H := by
  unfold L2
  simp only [rd_hFI_sAI]
theorem L2_self (H : AH) (a : Nat) : L2 H a (hAI H a) (hAI H (a + 1)) = H := by
  unfold L2
  rw [sAI_self, sAI_self]
/-- the heads laid -/
def LT (f t : Nat) (h : AH) : AH := sAI (sAI h 391 (upd (hAI h 391) t (hAI h 391 f))) 394 (upd (hAI h 394) t (hAI h 394 f))
theorem c_layt {d f t : Nat} {h : AH} (hm : MSh h) (hf : f ≤ 4) (ht : t ≤ 4) (hne : f ≠ t) :
    am_C PG (d + 1) 205 [.ref 348, .int (nI f), .int (nI t)] h = some (none, L2 (L2 (LT f t h) 392 (bcp (10 * f) (10 * t) 10 (hAI h 392)) (bcp (10 * f) (10 * t) 10 (hAI h 393))) 395 (bcp (12 * f) (12 * t) 12 (hAI h 395)) (bcp (12 * f) (12 * t) 12 (hAI h 396))) := by
  have m0 := hm.1
  have f1253 : hFR _ 1253 348 = some 391 := (hm.2 42 (by decide)).1
  have k391 : hK _ 391 = 50 := (hm.2 42 (by decide)).2.1
  have n391 : hLN _ 391 = 5 := (hm.2 42 (by decide)).2.2
  have f1254 : hFR _ 1254 348 = some 392 := (hm.2 43 (by decide)).1
  have k392 : hK _ 392 = 50 := (hm.2 43 (by decide)).2.1
  have n392 : hLN _ 392 = 50 := (hm.2 43 (by decide)).2.2
  have f1255 : hFR _ 1255 348 = some 393 := (hm.2 44 (by decide)).1
  have k393 : hK _ 393 = 50 := (hm.2 44 (by decide)).2.1
  have n393 : hLN _ 393 = 50 := (hm.2 44 (by decide)).2.2
  have f1256 : hFR _ 1256 348 = some 394 := (hm.2 45 (by decide)).1
  have k394 : hK _ 394 = 50 := (hm.2 45 (by decide)).2.1
  have n394 : hLN _ 394 = 5 := (hm.2 45 (by decide)).2.2
  have f1257 : hFR _ 1257 348 = some 395 := (hm.2 46 (by decide)).1
  have k395 : hK _ 395 = 50 := (hm.2 46 (by decide)).2.1
  have n395 : hLN _ 395 = 60 := (hm.2 46 (by decide)).2.2
  have f1258 : hFR _ 1258 348 = some 396 := (hm.2 47 (by decide)).1
  have k396 : hK _ 396 = 50 := (hm.2 47 (by decide)).2.1
  have n396 : hLN _ 396 = 60 := (hm.2 47 (by decide)).2.2
  have ef : ∀ x, am_in (nI f) 5 x = x := am_inN (by omega) (by decide)
  have et : ∀ x, am_in (nI t) 5 x = x := am_inN (by omega) (by decide)
  have tf : Int32.toNatClampNeg (nI f) = f := nI_clamp (by omega)
  have tt : Int32.toNatClampNeg (nI t) = t := nI_clamp (by omega)
  have p1 := L2_a (a := 392)
  have p2 : ∀ (H : AH) (f1 f2 g : Nat → Int32), sAI (L2 H 392 f1 f2) 393 g = L2 H 392 f1 g := fun H f1 f2 g => L2_b H 392 f1 f2 g
  have p3 : ∀ (H : AH) (f1 f2 : Nat → Int32), hAI (L2 H 392 f1 f2) 392 = f1 := fun H f1 f2 => L2_1 H 392 f1 f2
  have p4 : ∀ (H : AH) (f1 f2 : Nat → Int32), hAI (L2 H 392 f1 f2) 393 = f2 := fun H f1 f2 => L2_2 H 392 f1 f2
  have o1 : ∀ (H : AH) (f1 f2 g : Nat → Int32), sAI (L2 H 395 f1 f2) 395 g = L2 H 395 g f2 := fun H f1 f2 g => L2_a H 395 f1 f2 g
  have o2 : ∀ (H : AH) (f1 f2 g : Nat → Int32), sAI (L2 H 395 f1 f2) 396 g = L2 H 395 f1 g := fun H f1 f2 g => L2_b H 395 f1 f2 g
  have o3 : ∀ (H : AH) (f1 f2 : Nat → Int32), hAI (L2 H 395 f1 f2) 395 = f1 := fun H f1 f2 => L2_1 H 395 f1 f2
  have o4 : ∀ (H : AH) (f1 f2 : Nat → Int32), hAI (L2 H 395 f1 f2) 396 = f2 := fun H f1 f2 => L2_2 H 395 f1 f2
  have tK : hK (LT f t h) = hK h := by unfold LT; simp only [rd_hK_sAI]
  have tR : hFR (LT f t h) = hFR h := by unfold LT; simp only [rd_hFR_sAI]
  have tL : hLN (LT f t h) = hLN h := by unfold LT; simp only [rd_hLN_sAI]
  have lp : ∀ i, i ≤ 10 → am_C PG (d + 1) 205 [.ref 348, .int (nI f), .int (nI t)] h = am_R PG (d + 1) 205 26 [some (.ref 348), some (.int (nI f)), some (.int (nI t)), some (.int (nI i))] [] (L2 (LT f t h) 392 (bcp (10 * f) (10 * t) i (hAI h 392)) (bcp (10 * f) (10 * t) i (hAI h 393))) := by
    intro i
    induction i with
    | zero =>
      intro _
      have z : ∀ a, a ≠ 391 → a ≠ 394 → hAI h a = hAI (LT f t h) a := fun a h1 h2 => by unfold LT; rw [sAI_ne _ _ h2, sAI_ne _ _ h1]
      have n1 : ∀ g, hAI (sAI h 391 g) 394 = hAI h 394 := fun g => sAI_ne _ _ (by decide)
      rw [bcp_0, bcp_0, z 392 (by decide) (by decide), z 393 (by decide) (by decide), show (393 : Nat) = 392 + 1 from rfl, L2_self, q_X12_laysTold]
      simp only [am_kd, rd_hK_sAI, rd_hFR_sAI, rd_hLN_sAI, m0, f1253, k391, n391, f1254, k392, n392, f1255, k393, n393, f1256, k394, n394, f1257, k395, n395, f1258, k396, n396, if_true, bR_s, ef, et, tf, tt, sEI_e, am_let_e, n1]
      rfl
    | succ i ih =>
      intro hi
      have e5 : (nI i < (10 : Int32)) = True := eq_true (nI_lt (b := 10) (by omega) (by decide))
      have s1 : (10 : Int32) * nI f + nI i = nI (10 * f + i) := by rw [show (10 : Int32) = nI 10 from rfl, pk_mul, nI_add]
      have s2 : (10 : Int32) * nI t + nI i = nI (10 * t + i) := by rw [show (10 : Int32) = nI 10 from rfl, pk_mul, nI_add]
      have x1 : ∀ x, am_in (nI (10 * f + i)) 50 x = x := am_inN (by omega) (by decide)
      have x2 : ∀ x, am_in (nI (10 * t + i)) 50 x = x := am_inN (by omega) (by decide)
      have y1 : Int32.toNatClampNeg (nI (10 * f + i)) = 10 * f + i := nI_clamp (by omega)
      have y2 : Int32.toNatClampNeg (nI (10 * t + i)) = 10 * t + i := nI_clamp (by omega)
      have bs : ∀ F, upd (bcp (10 * f) (10 * t) i F) (10 * t + i) (bcp (10 * f) (10 * t) i F (10 * f + i)) = bcp (10 * f) (10 * t) (i + 1) F := fun F => bcp_s (w := 10) F (by omega) (by omega)
      rw [ih (by omega), q_X12_laysTold_26]
      simp only [am_kd, L2_K, L2_R, L2_L, tK, tR, tL, m0, f1253, k391, n391, f1254, k392, n392, f1255, k393, n393, f1256, k394, n394, f1257, k395, n395, f1258, k396, n396, if_true, e5, bR_s, s1, s2, x1, x2, y1, y2, sEI_e, am_let_e, bs, nI_1, p1, p2, p3, p4]
  have lp2 : ∀ i, i ≤ 12 → am_C PG (d + 1) 205 [.ref 348, .int (nI f), .int (nI t)] h = am_R PG (d + 1) 205 84 [some (.ref 348), some (.int (nI f)), some (.int (nI t)), some (.int (nI i))] [] (L2 (L2 (LT f t h) 392 (bcp (10 * f) (10 * t) 10 (hAI h 392)) (bcp (10 * f) (10 * t) 10 (hAI h 393))) 395 (bcp (12 * f) (12 * t) i (hAI h 395)) (bcp (12 * f) (12 * t) i (hAI h 396))) := by
    intro i
    induction i with
    | zero =>
      intro _
      have z : ∀ a, 394 < a → hAI h a = hAI (L2 (LT f t h) 392 (bcp (10 * f) (10 * t) 10 (hAI h 392)) (bcp (10 * f) (10 * t) 10 (hAI h 393))) a := fun a h1 => by
        rw [L2_o _ _ _ _ (by omega)]
        unfold LT
        rw [sAI_ne _ _ (by omega), sAI_ne _ _ (by omega)]
      rw [lp 10 (Nat.le_refl _), q_X12_laysTold_26, if_neg (by decide), bcp_0, bcp_0, z 395 (by decide), z 396 (by decide), show (396 : Nat) = 395 + 1 from rfl, L2_self]
      rfl
    | succ i ih =>
      intro hi
      have e5 : (nI i < (12 : Int32)) = True := eq_true (nI_lt (b := 12) (by omega) (by decide))
      have s1 : (12 : Int32) * nI f + nI i = nI (12 * f + i) := by rw [show (12 : Int32) = nI 12 from rfl, pk_mul, nI_add]
      have s2 : (12 : Int32) * nI t + nI i = nI (12 * t + i) := by rw [show (12 : Int32) = nI 12 from rfl, pk_mul, nI_add]
      have x1 : ∀ x, am_in (nI (12 * f + i)) 60 x = x := am_inN (by omega) (by decide)
      have x2 : ∀ x, am_in (nI (12 * t + i)) 60 x = x := am_inN (by omega) (by decide)
      have y1 : Int32.toNatClampNeg (nI (12 * f + i)) = 12 * f + i := nI_clamp (by omega)
      have y2 : Int32.toNatClampNeg (nI (12 * t + i)) = 12 * t + i := nI_clamp (by omega)
      have bs : ∀ F, upd (bcp (12 * f) (12 * t) i F) (12 * t + i) (bcp (12 * f) (12 * t) i F (12 * f + i)) = bcp (12 * f) (12 * t) (i + 1) F := fun F => bcp_s (w := 12) F (by omega) (by omega)
      rw [ih (by omega), q_X12_laysTold_84]
      simp only [am_kd, L2_K, L2_R, L2_L, tK, tR, tL, m0, f1253, k391, n391, f1254, k392, n392, f1255, k393, n393, f1256, k394, n394, f1257, k395, n395, f1258, k396, n396, if_true, e5, bR_s, s1, s2, x1, x2, y1, y2, sEI_e, am_let_e, bs, nI_1, o1, o2, o3, o4]
  rw [lp2 12 (Nat.le_refl _), q_X12_laysTold_84, if_neg (by decide)]
