/-! The reader: days. What reading days may change; the lines told so far; how a line ends. -/
def CD (h g : AH) : Prop := hK g = hK h ∧ hLN g = hLN h ∧ hAR g = hAR h ∧ hNX g = hNX h ∧ hAJ g = hAJ h ∧ (∀ k x, (k ≠ 906 ∨ x ≠ 1) → hFR g k x = hFR h k x) ∧ (∀ k x, (k ≠ 905 ∨ x ≠ 1) → hFJ g k x = hFJ h k x) ∧ (∀ k x, (x ≠ 1 ∨ k < 902 ∨ 908 < k) → (x ≠ 3 ∨ k < 603 ∨ 605 < k) → (x ≠ 56 ∨ k ≠ 200) → hFI g k x = hFI h k x) ∧ ∀ x, (x < 57 ∨ 60 < x) → hAI g x = hAI h x
def MD (h g : AH) : Prop := hK g = hK h ∧ hFR g = hFR h ∧ hLN g = hLN h ∧ hAR g = hAR h ∧ hNX g = hNX h ∧ hAJ g = hAJ h ∧ (∀ k x, (k ≠ 1207 ∨ x ≠ 348) → hFJ g k x = hFJ h k x) ∧ (∀ k x, (x ≠ 348 ∨ k < 1203 ∨ (1209 < k ∧ k ≠ 1246)) → hFI g k x = hFI h k x) ∧ ∀ r i, (r < 386 ∨ 390 < r ∨ (r = 386 ∧ i ≠ 5) ∨ (387 ≤ r ∧ i < 200)) → hAI g r i = hAI h r i
theorem CD.rfl' (h : AH) : CD h h := ⟨rfl, rfl, rfl, rfl, rfl, fun _ _ _ => rfl, fun _ _ _ => rfl, fun _ _ _ _ _ => rfl, fun _ _ => rfl⟩
theorem MD.rfl' (h : AH) : MD h h := ⟨rfl, rfl, rfl, rfl, rfl, rfl, fun _ _ _ => rfl, fun _ _ _ => rfl, fun _ _ _ => rfl⟩
theorem CD.tr {h g k : AH} (a : CD h g) (b : CD g k) : CD h k := by
  obtain ⟨a1, a2, a3, a4, a5, a6, a7, a8, a9⟩ := a
  obtain ⟨b1, b2, b3, b4, b5, b6, b7, b8, b9⟩ := b
  exact ⟨b1.trans a1, b2.trans a2, b3.trans a3, b4.trans a4, b5.trans a5, fun k x e => (b6 k x e).trans (a6 k x e), fun k x e => (b7 k x e).trans (a7 k x e), fun k x e1 e2 e3 => (b8 k x e1 e2 e3).trans (a8 k x e1 e2 e3), fun x e => (b9 x e).trans (a9 x e)⟩
theorem MD.tr {h g k : AH} (a : MD h g) (b : MD g k) : MD h k := by
  obtain ⟨a1, a2, a3, a4, a5, a6, a7, a8, a9⟩ := a
  obtain ⟨b1, b2, b3, b4, b5, b6, b7, b8, b9⟩ := b
  exact ⟨b1.trans a1, b2.trans a2, b3.trans a3, b4.trans a4, b5.trans a5, b6.trans a6, fun k x e => (b7 k x e).trans (a7 k x e), fun k x e => (b8 k x e).trans (a8 k x e), fun r i e => (b9 r i e).trans (a9 r i e)⟩
def CDk (h g : AH) : Prop := CD h g ∧ hFI g 603 3 = hFI h 603 3
theorem CDk.rfl' (h : AH) : CDk h h := ⟨CD.rfl' h, rfl⟩
theorem CDk.tr {h g k : AH} (a : CDk h g) (b : CDk g k) : CDk h k := ⟨a.1.tr b.1, b.2.trans a.2⟩
theorem CT.cd {h g : AH} (q : CT h g) : CD h g := by
  obtain ⟨a1, a2, a3, a4, a5, a6, a7, a8, a9⟩ := q
  exact ⟨a1, a2, a5, a6, a4, a7, a8, fun k x e1 e2 _ => a9 k x e1 (by omega), fun x _ => by rw [a3]⟩
theorem CT.ce {h g : AH} (q : CT h g) : CDk h g := ⟨q.cd, q.2.2.2.2.2.2.2.2 _ _ (by omega) (by omega)⟩
theorem MT.md {h g : AH} (q : MT h g) : MD h g := by
  obtain ⟨a1, a2, a3, a4, a5, a6, a7, a8, a9⟩ := q
  exact ⟨a1, a2, a3, a6, a7, a5, a8, fun k x e => a9 k x (by omega) (by omega), fun r i _ => by rw [a4]⟩
theorem CD.f3 (h : AH) (f : Int32) : CD h (sFI h 603 3 f) := ⟨rfl, rfl, rfl, rfl, rfl, fun _ _ _ => rfl, fun _ _ _ => rfl, fun k x _ e _ => sFI_o _ _ (by omega), fun _ _ => rfl⟩
theorem MD.f9 (h : AH) (f : Int32) : MD h (sFI h 1209 348 f) := ⟨rfl, rfl, rfl, rfl, rfl, rfl, fun _ _ _ => rfl, fun k x e => sFI_o _ _ (by omega), fun _ _ _ => rfl⟩
theorem MD.ei (h : AH) {r i : Nat} (v : Int32) (hr : (r = 386 ∧ i = 5) ∨ (387 ≤ r ∧ r ≤ 390 ∧ 200 ≤ i)) : MD h (sEI h r i v) :=
  ⟨rfl, rfl, rfl, rfl, rfl, rfl, fun _ _ _ => rfl, fun _ _ _ => rfl, fun x j e => by
    by_cases c : x = r
    · subst c
      rw [sEI_at, pk_un (by omega)]
    · rw [sEI_ne _ _ _ c]⟩
/-- names and counts, the post told -/
def Yd (h g : AH) (a np nc ne : Nat) : Prop := hFR h 602 3 = some 56 ∧ DaSh h 56 ∧ (hFI h 501 a = nI np ∧ hFI h 503 a = nI nc ∧ hFI h 504 a = nI ne ∧ np ≤ 5 ∧ nc ≤ 6 ∧ ne ≤ 4) ∧ (hAI g 350 0 = nI np ∧ hAI g 350 2 = nI nc ∧ hAI g 350 3 = nI ne) ∧ (∀ i, i < np → hAJ h (a + 1) i = hAJ g 351 i) ∧ (∀ i, i < nc → hAJ h (a + 1) (5 + i) = hAJ g 352 i) ∧ ∀ i, i < ne → hAJ h (a + 1) (11 + i) = hAJ g 353 i
theorem DaSh.cd {h g : AH} (q : CD h g) (s : DaSh h 56) : DaSh g 56 := by
  obtain ⟨a1, a2, a3, a4, a5, a6, -⟩ := q
  unfold DaSh at s ⊢
  rw [a1, a2, a6 _ _ (by decide), a6 _ _ (by decide), a6 _ _ (by decide), a6 _ _ (by decide)]
  exact s
theorem Yd.tr {h g h' g' : AH} {a np nc ne : Nat} (ha : a = 4 ∨ a = 30) (s : Yd h g a np nc ne) (q : CD h h') (r : MD g g') : Yd h' g' a np nc ne := by
  obtain ⟨s1, s2, ⟨s3, s4, s5, s6⟩, ⟨s7, s8, s9⟩, s10, s11, s12⟩ := s
  have q0 := q
  obtain ⟨a1, a2, a3, a4, a5, a6, a7, a8, a9⟩ := q
  obtain ⟨b1, b2, b3, b4, b5, b6, b7, b8, b9⟩ := r
  exact ⟨by rw [a6 _ _ (by decide)]; exact s1, s2.cd q0, ⟨by rw [a8 _ _ (by omega) (by omega) (by omega)]; exact s3, by rw [a8 _ _ (by omega) (by omega) (by omega)]; exact s4, by rw [a8 _ _ (by omega) (by omega) (by omega)]; exact s5, s6⟩, ⟨by rw [b9 _ _ (by decide)]; exact s7, by rw [b9 _ _ (by decide)]; exact s8, by rw [b9 _ _ (by decide)]; exact s9⟩, by rw [a5, b6]; exact s10, by rw [a5, b6]; exact s11, by rw [a5, b6]; exact s12⟩
/-- the lines told so far -/
def Dd (h g : AH) (np nc ne m : Nat) : Prop := m ≤ 40 ∧ hFI h 200 56 = nI m ∧ hAI g 386 5 = nI m ∧ ∀ i, i < m → LR np nc ne (hAI h 57 i) (hAI h 58 i) (hAI h 59 i) (hAI h 60 i) (hAI g 387 (200 + i)) (hAI g 388 (200 + i)) (hAI g 389 (200 + i)) (hAI g 390 (200 + i))
theorem Dd.fr {h g h' g' : AH} {np nc ne m : Nat} (e1 : hFI h' 200 56 = hFI h 200 56) (e2 : hAI g' 386 5 = hAI g 386 5) (e3 : ∀ x, 57 ≤ x → x ≤ 60 → hAI h' x = hAI h x) (e4 : ∀ r i, 387 ≤ r → r ≤ 390 → i < 200 + m → hAI g' r i = hAI g r i) (s : Dd h g np nc ne m) : Dd h' g' np nc ne m := by
  obtain ⟨s1, s2, s3, s4⟩ := s
  refine ⟨s1, by rw [e1]; exact s2, by rw [e2]; exact s3, fun i hi => ?_⟩
  rw [e3 57 (by decide) (by decide), e3 58 (by decide) (by decide), e3 59 (by decide) (by decide), e3 60 (by decide) (by decide), e4 387 _ (by decide) (by decide) (by omega), e4 388 _ (by decide) (by decide) (by omega), e4 389 _ (by decide) (by decide) (by omega), e4 390 _ (by decide) (by decide) (by omega)]
  exact s4 i hi
theorem Dd.ct {h g h' g' : AH} {np nc ne m : Nat} (q : CT h h') (r : MT g g') (s : Dd h g np nc ne m) : Dd h' g' np nc ne m := s.fr (q.2.2.2.2.2.2.2.2 _ _ (by omega) (by omega)) (by rw [r.2.2.2.1]) (fun x _ _ => by rw [q.2.2.1]) (fun r' i _ _ _ => by rw [r.2.2.2.1])
theorem Dd.ei {h g : AH} {np nc ne m r : Nat} (v : Int32) (hr : 387 ≤ r) (s : Dd h g np nc ne m) : Dd h (sEI g r (200 + m) v) np nc ne m := s.fr rfl (by rw [sEI_ne _ _ _ (by omega)]) (fun _ _ _ => rfl) (fun x i _ _ hi => by
  by_cases c : x = r
  · subst c
    rw [sEI_at, pk_un (by omega)]
  · rw [sEI_ne _ _ _ c])
/-- a line of days, both sides -/
def Ld (a n : Nat) (T : Nat → Nat) (b np nc ne : Nat) (h g : AH) (C M : Option Res) : Prop := (∃ f h' g', f ≠ 0 ∧ C = some (some (.int 0), sFI h' 603 3 f) ∧ M = some (some (.int 0), sFI g' 1209 348 f) ∧ CD h h' ∧ MD g g') ∨ ∃ h' g' b' m', C = some (some (.int 1), h') ∧ M = some (some (.int 1), g') ∧ CDk h h' ∧ MD g g' ∧ CX h' a n T b' ∧ MX g' n T b' ∧ b < b' ∧ Dd h' g' np nc ne m'
theorem Ld.go {a n b np nc ne : Nat} {T : Nat → Nat} {h g h1 g1 : AH} {C M : Option Res} (q : CDk h h1) (r : MD g g1) (s : Ld a n T b np nc ne h1 g1 C M) : Ld a n T b np nc ne h g C M := by
  rcases s with ⟨f, h', g', f0, f1, f2, f3, f4⟩ | ⟨h', g', b', m', s1, s2, s3, s4, s5⟩
  · exact Or.inl ⟨f, h', g', f0, f1, f2, q.1.tr f3, r.tr f4⟩
  · exact Or.inr ⟨h', g', b', m', s1, s2, q.tr s3, r.tr s4, s5⟩
theorem Ld.no {a n b np nc ne : Nat} {T : Nat → Nat} {h g : AH} {C M : Option Res} {KC KM : Int32 → AH → Option Res} (k0 : ∀ x, KC 0 x = some (some (.int 0), x)) (m0 : ∀ x, KM 0 x = some (some (.int 0), x)) (f : Fb h g C M) : Ld a n T b np nc ne h g (bI C KC) (bI M KM) := by
  obtain ⟨f, h', g', f0, f1, f2, f3, f4⟩ := f
  exact Or.inl ⟨f, h', g', f0, by rw [f1, bI_s, k0], by rw [f2, bI_s, m0], f3.cd, f4.md⟩
theorem Ld.mono {a n b b0 np nc ne : Nat} {T : Nat → Nat} {h g : AH} {C M : Option Res} (hb : b0 ≤ b) (s : Ld a n T b np nc ne h g C M) : Ld a n T b0 np nc ne h g C M := by
  rcases s with s | ⟨h', g', b', m', s1, s2, s3, s4, s5, s6, s7, s8⟩
  · exact Or.inl s
  · exact Or.inr ⟨h', g', b', m', s1, s2, s3, s4, s5, s6, by omega, s8⟩
/-- Days.add -/
def dA (h : AH) (m : Nat) (a0 a1 a2 a3 : Int32) : AH := sFI (sEI (sEI (sEI (sEI h 57 m a0) 58 m a1) 59 m a2) 60 m a3) 200 56 (nI (m + 1))
theorem dA_s (h : AH) (m : Nat) (a0 a1 a2 a3 : Int32) : hK (dA h m a0 a1 a2 a3) = hK h ∧ hFR (dA h m a0 a1 a2 a3) = hFR h ∧ hLN (dA h m a0 a1 a2 a3) = hLN h ∧ hAR (dA h m a0 a1 a2 a3) = hAR h ∧ hFJ (dA h m a0 a1 a2 a3) = hFJ h ∧ CDk h (dA h m a0 a1 a2 a3) ∧ hFI (dA h m a0 a1 a2 a3) 200 56 = nI (m + 1) ∧ (hAI (dA h m a0 a1 a2 a3) 57 = upd (hAI h 57) m a0 ∧ hAI (dA h m a0 a1 a2 a3) 58 = upd (hAI h 58) m a1 ∧ hAI (dA h m a0 a1 a2 a3) 59 = upd (hAI h 59) m a2 ∧ hAI (dA h m a0 a1 a2 a3) 60 = upd (hAI h 60) m a3) ∧ (∀ k x, (k ≠ 200 ∨ x ≠ 56) → hFI (dA h m a0 a1 a2 a3) k x = hFI h k x) ∧ hAI (dA h m a0 a1 a2 a3) 2 = hAI h 2 := by
  have f : ∀ k x, (k ≠ 200 ∨ x ≠ 56) → hFI (dA h m a0 a1 a2 a3) k x = hFI h k x := fun k x e => by
    unfold dA
    rw [sFI_o _ _ e, rd_hFI_sEI, rd_hFI_sEI, rd_hFI_sEI, rd_hFI_sEI]
  have r : ∀ x, (x < 57 ∨ 60 < x) → hAI (dA h m a0 a1 a2 a3) x = hAI h x := fun x e => by
    unfold dA
    rw [rd_hAI_sFI, sEI_ne _ _ _ (by omega), sEI_ne _ _ _ (by omega), sEI_ne _ _ _ (by omega), sEI_ne _ _ _ (by omega)]
  have e1 : hK (dA h m a0 a1 a2 a3) = hK h := by unfold dA; rw [rd_hK_sFI, rd_hK_sEI, rd_hK_sEI, rd_hK_sEI, rd_hK_sEI]
  have e2 : hFR (dA h m a0 a1 a2 a3) = hFR h := by unfold dA; rw [rd_hFR_sFI, rd_hFR_sEI, rd_hFR_sEI, rd_hFR_sEI, rd_hFR_sEI]
  have e3 : hLN (dA h m a0 a1 a2 a3) = hLN h := by unfold dA; rw [rd_hLN_sFI, rd_hLN_sEI, rd_hLN_sEI, rd_hLN_sEI, rd_hLN_sEI]
  have e4 : hAR (dA h m a0 a1 a2 a3) = hAR h := by unfold dA; rw [rd_hAR_sFI, rd_hAR_sEI, rd_hAR_sEI, rd_hAR_sEI, rd_hAR_sEI]
  have e5 : hFJ (dA h m a0 a1 a2 a3) = hFJ h := by unfold dA; rw [rd_hFJ_sFI, rd_hFJ_sEI, rd_hFJ_sEI, rd_hFJ_sEI, rd_hFJ_sEI]
  have e6 : hNX (dA h m a0 a1 a2 a3) = hNX h := by unfold dA; rw [rd_hNX_sFI, rd_hNX_sEI, rd_hNX_sEI, rd_hNX_sEI, rd_hNX_sEI]
  have e7 : hAJ (dA h m a0 a1 a2 a3) = hAJ h := by unfold dA; rw [rd_hAJ_sFI, rd_hAJ_sEI, rd_hAJ_sEI, rd_hAJ_sEI, rd_hAJ_sEI]
  refine ⟨e1, e2, e3, e4, e5, ⟨⟨e1, e3, e4, e6, e7, fun k x _ => by rw [e2], fun k x _ => by rw [e5], fun k x _ _ e => f k x (by omega), r⟩, f _ _ (by decide)⟩, ?_, ⟨?_, ?_, ?_, ?_⟩, f, r 2 (by decide)⟩
  · unfold dA
    rw [sFI_at]
  · unfold dA
    rw [rd_hAI_sFI, sEI_ne _ _ _ (by decide), sEI_ne _ _ _ (by decide), sEI_ne _ _ _ (by decide), sEI_at]
  · unfold dA
    rw [rd_hAI_sFI, sEI_ne _ _ _ (by decide), sEI_ne _ _ _ (by decide), sEI_at, sEI_ne _ _ _ (by decide)]
  · unfold dA
    rw [rd_hAI_sFI, sEI_ne _ _ _ (by decide), sEI_at, sEI_ne _ _ _ (by decide), sEI_ne _ _ _ (by decide)]
  · unfold dA
    rw [rd_hAI_sFI, sEI_at, sEI_ne _ _ _ (by decide), sEI_ne _ _ _ (by decide), sEI_ne _ _ _ (by decide)]
theorem c_dadd {d m : Nat} {h : AH} (s : DaSh h 56) (e : hFI h 200 56 = nI m) (hm : m < 40) (a0 a1 a2 a3 : Int32) : am_C PG (d + 1) 32 [.ref 56, .int a0, .int a1, .int a2, .int a3] h = some (none, dA h m a0 a1 a2 a3) := by
  obtain ⟨d0, g1, g2, g3, g4, l1, l2, l3, l4, n1, n2, n3, n4⟩ := s
  have lt : nI m < (40 : Int32) := nI_lt (b := 40) hm (by decide)
  have x : ∀ x, am_in (nI m) 40 x = x := am_inN hm (by decide)
  have t : Int32.toNatClampNeg (nI m) = m := nI_clamp (by omega)
  obtain ⟨y1, z1, u1, u2, u3, u4⟩ : ∃ y1, sEI h 57 m a0 = y1 ∧ hK y1 = hK h ∧ hFR y1 = hFR h ∧ hLN y1 = hLN h ∧ hFI y1 = hFI h := ⟨_, rfl, rd_hK_sEI _ _ _ _, rd_hFR_sEI _ _ _ _, rd_hLN_sEI _ _ _ _, rd_hFI_sEI _ _ _ _⟩
  obtain ⟨y2, z2, v1, v2, v3, v4⟩ : ∃ y2, sEI y1 58 m a1 = y2 ∧ hK y2 = hK h ∧ hFR y2 = hFR h ∧ hLN y2 = hLN h ∧ hFI y2 = hFI h := ⟨_, rfl, (rd_hK_sEI _ _ _ _).trans u1, (rd_hFR_sEI _ _ _ _).trans u2, (rd_hLN_sEI _ _ _ _).trans u3, (rd_hFI_sEI _ _ _ _).trans u4⟩
  obtain ⟨y3, z3, w1, w2, w3, w4⟩ : ∃ y3, sEI y2 59 m a2 = y3 ∧ hK y3 = hK h ∧ hFR y3 = hFR h ∧ hLN y3 = hLN h ∧ hFI y3 = hFI h := ⟨_, rfl, (rd_hK_sEI _ _ _ _).trans v1, (rd_hFR_sEI _ _ _ _).trans v2, (rd_hLN_sEI _ _ _ _).trans v3, (rd_hFI_sEI _ _ _ _).trans v4⟩
  obtain ⟨y4, z4, q1, q4⟩ : ∃ y4, sEI y3 60 m a3 = y4 ∧ hK y4 = hK h ∧ hFI y4 = hFI h := ⟨_, rfl, (rd_hK_sEI _ _ _ _).trans w1, (rd_hFI_sEI _ _ _ _).trans w4⟩
  have o1 : hK y1 56 = 3 := by rw [u1]; exact d0
  have o2 : hK y2 56 = 3 := by rw [v1]; exact d0
  have o3 : hK y3 56 = 3 := by rw [w1]; exact d0
  have o4 : hK y4 56 = 3 := by rw [q1]; exact d0
  have p1 : hFR y1 202 56 = some (56 + 2) := by rw [u2]; exact g2
  have p2 : hFR y2 203 56 = some (56 + 3) := by rw [v2]; exact g3
  have p3 : hFR y3 204 56 = some (56 + 4) := by rw [w2]; exact g4
  have r1 : hK y1 (56 + 2) = 50 := by rw [u1]; exact l2
  have r2 : hK y2 (56 + 3) = 50 := by rw [v1]; exact l3
  have r3 : hK y3 (56 + 4) = 50 := by rw [w1]; exact l4
  have t1 : hLN y1 (56 + 2) = 40 := by rw [u3]; exact n2
  have t2 : hLN y2 (56 + 3) = 40 := by rw [v3]; exact n3
  have t3 : hLN y3 (56 + 4) = 40 := by rw [w3]; exact n4
  have f1 : hFI y1 200 56 = nI m := by rw [u4]; exact e
  have f2 : hFI y2 200 56 = nI m := by rw [v4]; exact e
  have f3 : hFI y3 200 56 = nI m := by rw [w4]; exact e
  have f4 : hFI y4 200 56 = nI m := by rw [q4]; exact e
  rw [q_X2_add, am_kd_t d0, e, if_pos lt, am_kd_t d0, g1, bR_s, am_kd_t d0, am_kd_t l1, n1, x, am_let_e, t, z1, am_kd_t o1, p1, bR_s, am_kd_t o1, am_kd_t r1, f1, t1, x, am_let_e, t, z2, am_kd_t o2, p2, bR_s, am_kd_t o2, am_kd_t r2, f2, t2, x, am_let_e, t, z3, am_kd_t o3, p3, bR_s, am_kd_t o3, am_kd_t r3, f3, t3, x, am_let_e, t, z4, am_kd_t o4, am_kd_t o4, am_let_e, f4, nI_1, ← z4, ← z3, ← z2, ← z1]
  rfl
/-- how a line ends -/
noncomputable def cEnd (d : Nat) (h : AH) (a0 a1 a2 a3 : Int32) : Option Res := bV (am_C PG (d + 4) 32 [.ref 56, .int a0, .int a1, .int a2, .int a3] h) fun h4 => am_kd h4 3 7 (bI (am_C PG (d + 4) 80 [.ref 3, .int (59 : Int32)] h4) fun v6 h5 => am_nar 4 v6 (some (some (.int v6), h5)))
noncomputable def mEnd (d2 : Nat) (g : AH) : Option Res := am_kd g 348 13 (bR (hFR g 1248 348) fun r1 => am_kd g r1 50 (am_in (5 : Int32) (hLN g r1) (am_kd g r1 50 (am_in (5 : Int32) (hLN g r1) (am_let (sEI g r1 (Int32.toNatClampNeg (5 : Int32)) ((hAI g r1 (Int32.toNatClampNeg (5 : Int32))) + (1 : Int32))) fun h2 => am_kd h2 348 13 (bI (am_C PG (d2 + 4) 185 [.ref 348] h2) fun v4 h3 => am_nar 4 v4 (some (some (.int v4), h3))))))))
theorem dy_end {d d2 a n b np nc ne m : Nat} {h g : AH} {T : Nat → Nat} {a0 a1 a2 a3 : Int32} (ha : a = 4 ∨ a = 30) (c : CX h a n T b) (mx : MX g n T b) (Y : Yd h g a np nc ne) (D : Dd h g np nc ne m) (hm : m < 40) (L : LR np nc ne a0 a1 a2 a3 (hAI g 387 (200 + m)) (hAI g 388 (200 + m)) (hAI g 389 (200 + m)) (hAI g 390 (200 + m))) : Ld a n T b np nc ne h g (cEnd d h a0 a1 a2 a3) (mEnd d2 g) := by
  obtain ⟨D1, D2, D3, D4⟩ := D
  have hms := mx.1.1
  have m0 := hms.1
  have f1248 : hFR _ 1248 348 = some 386 := (hms.2 37 (by decide)).1
  have k386 : hK _ 386 = 50 := (hms.2 37 (by decide)).2.1
  have n386 : hLN _ 386 = 6 := (hms.2 37 (by decide)).2.2
  obtain ⟨A1, A2, A3, A4, A5, A6, A7, ⟨A8, A9, A10, A11⟩, A12, A13⟩ := dA_s h m a0 a1 a2 a3
  have i5 : ∀ x, am_in (5 : Int32) 6 x = x := am_inN (i := 5) (by decide) (by decide)
  have t5 : Int32.toNatClampNeg (5 : Int32) = 5 := by decide
  have kc := c_dadd (d := d + 3) Y.2.1 D2 hm a0 a1 a2 a3
  have k3 : hK (dA h m a0 a1 a2 a3) 3 = 7 := by rw [A1]; exact c.1
  have kg : hK (sEI g 386 5 (nI (m + 1))) 348 = 13 := by rw [rd_hK_sEI]; exact m0
  have cA : CX (dA h m a0 a1 a2 a3) a n T b := CX.to (h := h) A1 A2 A3 A4 A13 (fun k x e => A12 k x (by omega)) A5 c
  have mA : MX (sEI g 386 5 (nI (m + 1))) n T b := mx.ei (r := 386) 5 _ (by decide)
  have DA : Dd (dA h m a0 a1 a2 a3) (sEI g 386 5 (nI (m + 1))) np nc ne (m + 1) := by
    refine ⟨hm, A7, by rw [sEI_at, pk_us], fun i hi => ?_⟩
    rw [A8, A9, A10, A11, sEI_ne _ _ _ (by decide), sEI_ne _ _ _ (by decide), sEI_ne _ _ _ (by decide), sEI_ne _ _ _ (by decide)]
    by_cases e : i = m
    · subst e
      rw [pk_us, pk_us, pk_us, pk_us]
      exact L
    · rw [pk_un e, pk_un e, pk_un e, pk_un e]
      exact D4 i (by omega)
  have eC : cEnd d h a0 a1 a2 a3 = bI (am_C PG (d + 4) 80 [.ref 3, .int 59] (dA h m a0 a1 a2 a3)) fun v6 h5 => am_nar 4 v6 (some (some (.int v6), h5)) := by
    unfold cEnd
    rw [kc, bV_s, am_kd_t k3]
  have eM : mEnd d2 g = bI (am_C PG (d2 + 4) 185 [.ref 348] (sEI g 386 5 (nI (m + 1)))) fun v4 h3 => am_nar 4 v4 (some (some (.int v4), h3)) := by
    unfold mEnd
    rw [am_kd_t m0, f1248, bR_s, am_kd_t k386, n386, i5, am_kd_t k386, i5, am_let_e, t5, D3, nI_1, am_kd_t kg]
  rw [eC, eM]
  refine Ld.go A6 (MD.ei g (nI (m + 1)) (Or.inl ⟨rfl, rfl⟩)) ?_
  rcases st_close (d := d) (d2 := d2 + 1) cA mA with F | ⟨h', g', x1, x2, x3, x4, x5, x6, x7⟩
  · exact Ld.no (fun _ => rfl) (fun _ => rfl) F
  · rw [x1, x2, bI_s, bI_s, am_nar4_1, am_nar4_1]
    exact Or.inr ⟨h', g', _, m + 1, rfl, rfl, x3.ce, x4.md, x5, x6, (nxt_le (T := T) c.le).2.2 x7, DA.ct x3 x4⟩
/-- the model's choice behind names -/
noncomputable def mNum (d2 : Nat) (g : AH) (l1 l2 : Int32) : Option Res := am_R PG (d2 + 5) 203 195 [some (.ref 348), some (.int l1), some (.int l2)] [] g
/-- a number, then the end -/
noncomputable def cNum (d : Nat) (h : AH) (u a0 a1 a2 : Int32) : Option Res := bI (am_C PG (d + 4) 81 [.ref 3, .int (1 : Int32), .int u] h) fun v h1 => if v = 0 then (am_nar 4 (0 : Int32) (some (some (.int (0 : Int32)), h1))) else (am_kd h1 3 7 (bR (hFR h1 602 3) fun r3 => am_kd h1 3 7 (am_kd h1 r3 3 (bV (am_C PG (d + 4) 32 [.ref r3, .int a0, .int a1, .int a2, .int (hFI h1 605 3)] h1) fun h4 => am_kd h4 3 7 (bI (am_C PG (d + 4) 80 [.ref 3, .int (59 : Int32)] h4) fun v6 h5 => am_nar 4 v6 (some (some (.int v6), h5)))))))
theorem dy_num {d d2 a n b np nc ne m u : Nat} {h g : AH} {T : Nat → Nat} {l1 uu a0 a1 a2 : Int32} (ha : a = 4 ∨ a = 30) (c : CX h a n T b) (mx : MX g n T b) (Y : Yd h g a np nc ne) (D : Dd h g np nc ne m) (hm : m < 40) (huu : uu = nI u) (hu : (l1 = 0 ∧ u = 24) ∨ (l1 ≠ 0 ∧ l1 ≠ 3 ∧ u = 999)) (L : ∀ v, 1 ≤ v → v ≤ u → LR np nc ne a0 a1 a2 (nI v) (hAI g 387 (200 + m)) (hAI g 388 (200 + m)) (hAI g 389 (200 + m)) (nI v)) : Ld a n T b np nc ne h g (cNum d h uu a0 a1 a2) (mNum d2 g l1 (nI (200 + m))) := by
  have hms := mx.1.1
  have m0 := hms.1
  have f1252 : hFR _ 1252 348 = some 390 := (hms.2 41 (by decide)).1
  have k390 : hK _ 390 = 50 := (hms.2 41 (by decide)).2.1
  have n390 : hLN _ 390 = 240 := (hms.2 41 (by decide)).2.2
  have xm : ∀ x, am_in (nI (200 + m)) 240 x = x := am_inN (by omega) (by decide)
  have tm : Int32.toNatClampNeg (nI (200 + m)) = 200 + m := nI_clamp (by omega)
  have eM : mNum d2 g l1 (nI (200 + m)) = bI (am_C PG (d2 + 4) 182 [.ref 348, .int 1, .int uu] g) fun v14 h13 => if v14 = 0 then (am_nar 4 (0 : Int32) (some (some (.int (0 : Int32)), h13))) else (am_kd h13 348 13 (bR (hFR h13 1252 348) fun r15 => am_kd h13 348 13 (am_kd h13 r15 50 (am_in (nI (200 + m)) (hLN h13 r15) (am_let (sEI h13 r15 (Int32.toNatClampNeg (nI (200 + m))) (hFI h13 1246 348)) fun h16 => mEnd d2 h16))))) := by
    unfold mNum
    rcases hu with ⟨z, z2⟩ | ⟨z, z3, z2⟩
    · subst z
      rw [q_X12_readsLine_195, if_neg (by decide), if_pos rfl, am_kd_t m0, huu, z2]
      rfl
    · rw [q_X12_readsLine_195, if_neg z3, if_neg z, am_kd_t m0, huu, z2]
      rfl
  rw [eM]
  unfold cNum
  rcases st_number (d := d) (d2 := d2 + 1) (lo := 1) (hi := u) (l := 1) (u := uu) rfl huu (by decide) (by omega) c mx with F | ⟨v, h1, g1, v1, v2, x1, x2, e605, e1246, x3, x4, c1, mx1, bn⟩
  · exact Ld.no (fun _ => rfl) (fun _ => rfl) F
  · rw [x1, x2, bI_s, bI_s, if_neg (by decide), if_neg (by decide)]
    refine Ld.go x3.ce x4.md ?_
    have Y1 := Y.tr ha x3.cd x4.md
    have D1 := D.ct x3 x4
    have hm1 := mx1.1.1
    have k3 : hK h1 3 = 7 := c1.1
    have k56 : hK h1 56 = 3 := Y1.2.1.1
    have f602 := Y1.1
    have m1 := hm1.1
    have f1252' : hFR g1 1252 348 = some 390 := (hm1.2 41 (by decide)).1
    have k390' : hK g1 390 = 50 := (hm1.2 41 (by decide)).2.1
    have n390' : hLN g1 390 = 240 := (hm1.2 41 (by decide)).2.2
    have eg : hAI g1 = hAI g := x4.2.2.2.1
    rw [am_kd_t k3, f602, bR_s, am_kd_t k3, am_kd_t k56, am_kd_t m1, f1252', bR_s, am_kd_t m1, am_kd_t k390', n390', xm, am_let_e, tm, e605, e1246]
    refine Ld.go (CDk.rfl' h1) (MD.ei g1 (r := 390) (i := 200 + m) (nI v) (Or.inr ⟨by decide, by decide, by omega⟩)) ?_
    have le := (nxt_le (T := T) c.le).2.1
    refine Ld.mono le (dy_end (d := d) (d2 := d2) ha c1 (mx1.ei (r := 390) (200 + m) (nI v) (by decide)) (Y1.tr ha (CD.rfl' h1) (MD.ei g1 (r := 390) (i := 200 + m) (nI v) (Or.inr ⟨by decide, by decide, by omega⟩))) (D1.ei (r := 390) (nI v) (by decide)) hm ?_)
    rw [sEI_ne _ _ _ (by decide), sEI_ne _ _ _ (by decide), sEI_ne _ _ _ (by decide), sEI_at, pk_us, eg]
    exact L v v1 v2
