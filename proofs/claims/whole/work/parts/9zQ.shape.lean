/-! The reader: what a heap of the class shows; how a line of both sides goes on. -/
theorem CX.fr {h : AH} {a n b : Nat} {T : Nat → Nat} (c : CX h a n T b) : hFR h 600 3 = some (1) ∧ hFR h 601 3 = some (a) ∧ hFR h 500 a = some (a + 1) ∧ hFR h 506 a = some (a + 2) ∧ hFR h 508 a = some (a + 4) ∧ hFR h 509 a = some (a + 5) ∧ hFR h 510 a = some (a + 6) ∧ hFR h 511 a = some (a + 7) ∧ hFR h 512 a = some (a + 8) ∧ hFR h 513 a = some (a + 9) ∧ hFR h 514 a = some (a + 10) ∧ hFR h 515 a = some (a + 11) ∧ hFR h 516 a = some (a + 12) ∧ hFR h 517 a = some (a + 13) ∧ hFR h 518 a = some (a + 14) ∧ hFR h 519 a = some (a + 17) ∧ hFR h 701 (a + 17) = some (a + 18) ∧ hFR h 704 (a + 17) = some (a + 21) ∧ hFR h 705 (a + 17) = some (a + 22) ∧ hFR h 707 (a + 17) = some (a + 24) := by
  obtain ⟨c1, c2, c3, ⟨⟨p0, pf1, pf2, pf3, pf4, pf5, pf6, pf7, pf8, pf9, pf10, pf11, pf12, pf13, pf14, pf17, pk1, pk2, pk3, pk4, pk5, pk6, pk7, pk8, pk9, pk10, pk11, pk12, pk13, pn1, pn2, pn3, pn4, pn5, pn6, pn7, pn8, pn9, pn10, pn11, pn12, pn13⟩, -, q3⟩, -⟩ := c
  obtain ⟨s0, sf1, sf2, sf3, sf4, sf5, sf6, sf7, sf8, sk1, sk2, sk3, sk4, sk5, sk6, sk7, sk8, sn1, sn2, sn3, sn4, sn5, sn6, sn7, sn8⟩ := q3
  exact ⟨c2, c3, pf1, pf2, pf4, pf5, pf6, pf7, pf8, pf9, pf10, pf11, pf12, pf13, pf14, pf17, sf1, sf4, sf5, sf7⟩
theorem CX.kl {h : AH} {a n b : Nat} {T : Nat → Nat} (c : CX h a n T b) : hK h 3 = 7 ∧ hK h 1 = 10 ∧ hK h a = 6 ∧ hK h (a + 14) = 5 ∧ hK h (a + 17) = 8 ∧ hK h (a + 2) = 50 ∧ hK h (a + 4) = 50 ∧ hK h (a + 5) = 50 ∧ hK h (a + 6) = 50 ∧ hK h (a + 7) = 50 ∧ hK h (a + 8) = 50 ∧ hK h (a + 9) = 50 ∧ hK h (a + 10) = 50 ∧ hK h (a + 11) = 50 ∧ hK h (a + 12) = 50 ∧ hK h (a + 13) = 50 ∧ hK h (a + 18) = 50 ∧ hK h (a + 21) = 50 ∧ hK h (a + 22) = 50 ∧ hK h (a + 24) = 50 ∧ hLN h (a + 2) = 25 ∧ hLN h (a + 4) = 6 ∧ hLN h (a + 5) = 6 ∧ hLN h (a + 6) = 6 ∧ hLN h (a + 7) = 6 ∧ hLN h (a + 8) = 4 ∧ hLN h (a + 9) = 6 ∧ hLN h (a + 10) = 6 ∧ hLN h (a + 11) = 6 ∧ hLN h (a + 12) = 6 ∧ hLN h (a + 13) = 24 ∧ hLN h (a + 18) = 6 ∧ hLN h (a + 21) = 4 ∧ hLN h (a + 22) = 4 ∧ hLN h (a + 24) = 5 := by
  have e1 := c.ff.2.2.2.1
  obtain ⟨c1, c2, c3, ⟨⟨p0, pf1, pf2, pf3, pf4, pf5, pf6, pf7, pf8, pf9, pf10, pf11, pf12, pf13, pf14, pf17, pk1, pk2, pk3, pk4, pk5, pk6, pk7, pk8, pk9, pk10, pk11, pk12, pk13, pn1, pn2, pn3, pn4, pn5, pn6, pn7, pn8, pn9, pn10, pn11, pn12, pn13⟩, q2, q3⟩, -⟩ := c
  obtain ⟨s0, sf1, sf2, sf3, sf4, sf5, sf6, sf7, sf8, sk1, sk2, sk3, sk4, sk5, sk6, sk7, sk8, sn1, sn2, sn3, sn4, sn5, sn6, sn7, sn8⟩ := q3
  exact ⟨c1, e1, p0, q2.1, s0, pk2, pk4, pk5, pk6, pk7, pk8, pk9, pk10, pk11, pk12, pk13, sk1, sk4, sk5, sk7, pn2, pn4, pn5, pn6, pn7, pn8, pn9, pn10, pn11, pn12, pn13, sn1, sn4, sn5, sn7⟩
theorem CX.ei {h : AH} {a n b : Nat} {T : Nat → Nat} (c : CX h a n T b) {r : Nat} (i : Nat) (v : Int32) (hr : r ≠ 2) : CX (sEI h r i v) a n T b := CX.to (h := h) rfl rfl rfl rfl (sEI_ne _ _ _ (Ne.symm hr)) (fun _ _ _ => rfl) rfl c
theorem CX.ej {h : AH} {a n b : Nat} {T : Nat → Nat} (c : CX h a n T b) (r i : Nat) (v : Int64) : CX (sEJ h r i v) a n T b := CX.to (h := h) rfl rfl rfl rfl rfl (fun _ _ _ => rfl) rfl c
theorem CX.fa {h : AH} {a n b : Nat} {T : Nat → Nat} (c : CX h a n T b) (k : Nat) {x : Nat} (v : Int32) (hx : x ≠ 1 ∧ x < 1000000) : CX (sFI h k x v) a n T b := CX.to (h := h) rfl rfl rfl rfl rfl (fun j y e => sFI_o _ _ (by omega)) rfl c
theorem MX.ei {h : AH} {n b : Nat} {T : Nat → Nat} (c : MX h n T b) {r : Nat} (i : Nat) (v : Int32) (hr : r ≠ 349) : MX (sEI h r i v) n T b := MX.to (h := h) rfl rfl rfl (sEI_ne _ _ _ (Ne.symm hr)) (fun _ _ _ => rfl) rfl c
theorem MX.ej {h : AH} {n b : Nat} {T : Nat → Nat} (c : MX h n T b) (r i : Nat) (v : Int64) : MX (sEJ h r i v) n T b := MX.to (h := h) rfl rfl rfl rfl (fun _ _ _ => rfl) rfl c
theorem CT.cn {h g : AH} {a : Nat} (q : CT h g) (ha : 3 < a) (k : Nat) : hFI g k a = hFI h k a := q.2.2.2.2.2.2.2.2 k a (by omega) (by omega)
/-- a good step: the fault stays as it was -/
def CS (a : Nat) (h g : AH) : Prop := CQ a h g ∧ hFI g 603 3 = hFI h 603 3
theorem CS.rfl' (a : Nat) (h : AH) : CS a h h := ⟨CQ.rfl' a h, rfl⟩
theorem CS.tr {a : Nat} {h g k : AH} (p : CS a h g) (q : CS a g k) : CS a h k := ⟨p.1.tr q.1, q.2.trans p.2⟩
theorem CT.cs {h g : AH} (a : Nat) (q : CT h g) : CS a h g := ⟨q.cq a, q.2.2.2.2.2.2.2.2 _ _ (by omega) (by omega)⟩
theorem CS.ei {a : Nat} (h : AH) {r : Nat} (i : Nat) (v : Int32) (hr : a + 2 ≤ r ∧ r ≤ a + 24 ∧ r ≠ a + 14 ∧ r ≠ a + 16 ∧ r ≠ a + 17 ∧ r ≠ a + 19 ∧ r ≠ a + 20 ∧ r ≠ a + 23) : CS a h (sEI h r i v) := ⟨CQ.ei h i v hr, rfl⟩
theorem CS.ej {a : Nat} (h : AH) (i : Nat) (v : Int64) : CS a h (sEJ h (a + 1) i v) := ⟨CQ.ej h i v, rfl⟩
theorem CS.fi {a : Nat} (h : AH) {k x : Nat} (v : Int32) (hk : (x = a ∧ 501 ≤ k ∧ k ≤ 505) ∨ (x = a + 14 ∧ k = 401) ∨ (x = 3 ∧ k = 604)) (ha : 3 < a) : CS a h (sFI h k x v) := ⟨CQ.fi h v (by omega), sFI_o _ _ (by omega)⟩
/-- a line: both refuse, or both have read on -/
def Ln (a n : Nat) (T : Nat → Nat) (b : Nat) (h g : AH) (C M : Option Res) : Prop := Fz a h g C M ∨ ∃ h' g' b' np ny nc ne nw, C = some (some (.int 1), h') ∧ M = some (some (.int 1), g') ∧ CS a h h' ∧ MZ g g' ∧ CX h' a n T b' ∧ MX g' n T b' ∧ b < b' ∧ PR h' g' a np ny nc ne nw
theorem Ln.go {a n b : Nat} {T : Nat → Nat} {h g h1 g1 : AH} {C M : Option Res} (q : CS a h h1) (r : MZ g g1) (s : Ln a n T b h1 g1 C M) : Ln a n T b h g C M := by
  rcases s with s | ⟨h', g', b', np, ny, nc, ne, nw, s1, s2, s3, s4, s5⟩
  · exact Or.inl (s.lift q.1 r)
  · exact Or.inr ⟨h', g', b', np, ny, nc, ne, nw, s1, s2, q.tr s3, r.tr s4, s5⟩
theorem Ln.no {a n b : Nat} {T : Nat → Nat} {h g : AH} {C M : Option Res} {KC KM : Int32 → AH → Option Res} (k0 : ∀ x, KC 0 x = some (some (.int 0), x)) (m0 : ∀ x, KM 0 x = some (some (.int 0), x)) (f : Fb h g C M) : Ln a n T b h g (bI C KC) (bI M KM) := by
  obtain ⟨f, h', g', f0, f1, f2, f3, f4⟩ := f
  refine Or.inl ⟨f, h', g', f0, ?_, ?_, f3.cq a, f4.mz⟩
  · rw [f1, bI_s, k0]
  · rw [f2, bI_s, m0]
theorem bI_bI (X : Option Res) (f K : Int32 → AH → Option Res) : bI (bI X f) K = bI X (fun v h => bI (f v h) K) := by
  unfold bI
  rcases X with _ | ⟨_ | v, h⟩
  · rfl
  · rfl
  · cases v <;> rfl
theorem bI_if (c : Prop) [Decidable c] (A B : Option Res) (K : Int32 → AH → Option Res) : bI (if c then A else B) K = if c then bI A K else bI B K := by
  split <;> rfl
theorem bI_kd (h : AH) (a k : Nat) (A : Option Res) (K : Int32 → AH → Option Res) : bI (am_kd h a k A) K = am_kd h a k (bI A K) := by
  unfold am_kd
  split <;> rfl
theorem m_both_e (d : Nat) (g : AH) (w : Int64) (l u : Int32) (K : Int32 → AH → Option Res) : bI (am_C PG (d + 1) 184 [.ref 348, .long w, .int l, .int u] g) K = am_kd g 348 13 (bI (am_C PG d 183 [.ref 348, .long w] g) fun v g1 => if v = 0 then K 0 g1 else am_kd g1 348 13 (bI (am_C PG d 182 [.ref 348, .int l, .int u] g1) fun v2 g2 => if v2 = 0 then K 0 g2 else K 1 g2)) := by
  rw [q_X12_needsBoth]
  simp only [bI_kd, bI_bI, bI_if, am_nar4_0, am_nar4_1, bI_s]
theorem bI_bV (X : Option Res) (f : AH → Option Res) (K : Int32 → AH → Option Res) : bI (bV X f) K = bV X (fun h => bI (f h) K) := by
  unfold bI bV
  rcases X with _ | ⟨_ | v, h⟩ <;> rfl
theorem m_takes_e (d : Nat) (g : AH) (w : Int64) (l : Int32) (K : Int32 → AH → Option Res) : bI (am_C PG (d + 1) 188 [.ref 348, .long w, .int l] g) K = am_kd g 348 13 (bI (am_C PG d 183 [.ref 348, .long w] g) fun v g1 => if v = 0 then K 0 g1 else am_kd g1 348 13 (bI (am_C PG d 187 [.ref 348, .int 1, .int l] g1) fun v2 g2 => if v2 = 0 then K 0 g2 else am_kd g2 348 13 (bV (am_C PG d 166 [.ref 348] g2) fun g3 => K 1 g3))) := by
  rw [q_X12_takesTold]
  simp only [bI_kd, bI_bI, bI_bV, bI_if, am_nar4_0, am_nar4_1, bI_s]
