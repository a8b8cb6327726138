/-! The reader: what a reading may change; the post told so far, of both sides. -/
/-- the first half of a row of the model -/
def hf (r : Nat) : Nat := if r = 350 ∨ r = 351 ∨ r = 355 then 5 else if r = 356 then 25 else if r = 353 ∨ r = 362 ∨ r = 363 ∨ r = 364 then 4 else if r = 369 then 24 else if r = 370 ∨ r = 371 then 1 else if r = 372 then 1000 else if r = 373 ∨ r = 374 then 0 else 6
/-- what reading a post changes of the class -/
def CQ (a : Nat) (h g : AH) : Prop := hK g = hK h ∧ hLN g = hLN h ∧ hAR g = hAR h ∧ hNX g = hNX h ∧ (∀ k x, (k ≠ 906 ∨ x ≠ 1) → hFR g k x = hFR h k x) ∧ (∀ k x, (k ≠ 905 ∨ x ≠ 1) → hFJ g k x = hFJ h k x) ∧
  (∀ k x, (x ≠ 1 ∨ k < 902 ∨ 908 < k) → (x ≠ 3 ∨ k < 603 ∨ 605 < k) → (x ≠ a ∨ k < 501 ∨ 505 < k) → (x ≠ a + 14 ∨ k ≠ 401) → hFI g k x = hFI h k x) ∧
  (∀ x, (x < a + 2 ∨ x = a + 14 ∨ x = a + 16 ∨ x = a + 17 ∨ x = a + 19 ∨ x = a + 20 ∨ x = a + 23 ∨ a + 24 < x) → hAI g x = hAI h x) ∧ ∀ x, x ≠ a + 1 → hAJ g x = hAJ h x
/-- what reading a post changes of the model -/
def MZ (h g : AH) : Prop := hK g = hK h ∧ hFR g = hFR h ∧ hLN g = hLN h ∧ hAR g = hAR h ∧ hNX g = hNX h ∧ (∀ k x, (k ≠ 1207 ∨ x ≠ 348) → hFJ g k x = hFJ h k x) ∧ (∀ k x, (x ≠ 348 ∨ k < 1203 ∨ (1209 < k ∧ k ≠ 1233 ∧ k ≠ 1246)) → hFI g k x = hFI h k x) ∧
  (∀ r i, (r < 350 ∨ 374 < r ∨ i < hf r) → hAI g r i = hAI h r i) ∧ ∀ r i, (r < 351 ∨ 354 < r ∨ i < hf r) → hAJ g r i = hAJ h r i
theorem CQ.rfl' (a : Nat) (h : AH) : CQ a h h := ⟨rfl, rfl, rfl, rfl, fun _ _ _ => rfl, fun _ _ _ => rfl, fun _ _ _ _ _ _ => rfl, fun _ _ => rfl, fun _ _ => rfl⟩
theorem MZ.rfl' (h : AH) : MZ h h := ⟨rfl, rfl, rfl, rfl, rfl, fun _ _ _ => rfl, fun _ _ _ => rfl, fun _ _ _ => rfl, fun _ _ _ => rfl⟩
theorem CQ.tr {a : Nat} {h g k : AH} (p : CQ a h g) (q : CQ a g k) : CQ a h k := by
  obtain ⟨a1, a2, a3, a4, a5, a6, a7, a8, a9⟩ := p
  obtain ⟨b1, b2, b3, b4, b5, b6, b7, b8, b9⟩ := q
  exact ⟨b1.trans a1, b2.trans a2, b3.trans a3, b4.trans a4, fun k x e => (b5 k x e).trans (a5 k x e), fun k x e => (b6 k x e).trans (a6 k x e), fun k x e1 e2 e3 e4 => (b7 k x e1 e2 e3 e4).trans (a7 k x e1 e2 e3 e4), fun x e => (b8 x e).trans (a8 x e), fun x e => (b9 x e).trans (a9 x e)⟩
theorem MZ.tr {h g k : AH} (p : MZ h g) (q : MZ g k) : MZ h k := by
  obtain ⟨a1, a2, a3, a4, a5, a6, a7, a8, a9⟩ := p
  obtain ⟨b1, b2, b3, b4, b5, b6, b7, b8, b9⟩ := q
  exact ⟨b1.trans a1, b2.trans a2, b3.trans a3, b4.trans a4, b5.trans a5, fun k x e => (b6 k x e).trans (a6 k x e), fun k x e => (b7 k x e).trans (a7 k x e), fun x i e => (b8 x i e).trans (a8 x i e), fun x i e => (b9 x i e).trans (a9 x i e)⟩
theorem CT.cq {h g : AH} (a : Nat) (q : CT h g) : CQ a h g := by
  obtain ⟨a1, a2, a3, a4, a5, a6, a7, a8, a9⟩ := q
  exact ⟨a1, a2, a5, a6, a7, a8, fun k x e1 e2 _ _ => a9 k x e1 (by omega), fun x _ => by rw [a3], fun x _ => by rw [a4]⟩
theorem MT.mz {h g : AH} (q : MT h g) : MZ h g := by
  obtain ⟨a1, a2, a3, a4, a5, a6, a7, a8, a9⟩ := q
  exact ⟨a1, a2, a3, a6, a7, a8, fun k x e => a9 k x (by omega) (by omega), fun r i _ => by rw [a4], fun r i _ => by rw [a5]⟩
theorem CQ.ei {a : Nat} (h : AH) {r : Nat} (i : Nat) (v : Int32) (hr : a + 2 ≤ r ∧ r ≤ a + 24 ∧ r ≠ a + 14 ∧ r ≠ a + 16 ∧ r ≠ a + 17 ∧ r ≠ a + 19 ∧ r ≠ a + 20 ∧ r ≠ a + 23) : CQ a h (sEI h r i v) :=
  ⟨rfl, rfl, rfl, rfl, fun _ _ _ => rfl, fun _ _ _ => rfl, fun _ _ _ _ _ _ => rfl, fun x e => sEI_ne _ _ _ (by omega), fun _ _ => rfl⟩
theorem sEJ_at (h : AH) (a i : Nat) (v : Int64) : hAJ (sEJ h a i v) a = vp_updL (hAJ h a) i v := am_up_eq
theorem sEJ_ne (h : AH) {a b : Nat} (i : Nat) (v : Int64) (e : b ≠ a) : hAJ (sEJ h a i v) b = hAJ h b := am_up_ne e
theorem CQ.ej {a : Nat} (h : AH) (i : Nat) (v : Int64) : CQ a h (sEJ h (a + 1) i v) :=
  ⟨rfl, rfl, rfl, rfl, fun _ _ _ => rfl, fun _ _ _ => rfl, fun _ _ _ _ _ _ => rfl, fun _ _ => rfl, fun x e => sEJ_ne _ _ _ e⟩
theorem CQ.fi {a : Nat} (h : AH) {k x : Nat} (v : Int32) (hk : (x = a ∧ 501 ≤ k ∧ k ≤ 505) ∨ (x = a + 14 ∧ k = 401) ∨ (x = 3 ∧ 603 ≤ k ∧ k ≤ 605)) : CQ a h (sFI h k x v) :=
  ⟨rfl, rfl, rfl, rfl, fun _ _ _ => rfl, fun _ _ _ => rfl, fun j y e1 e2 e3 e4 => sFI_o _ _ (by omega), fun _ _ => rfl, fun _ _ => rfl⟩
theorem MZ.ei (h : AH) {r i : Nat} (v : Int32) (hr : 350 ≤ r ∧ r ≤ 374) (hi : hf r ≤ i) : MZ h (sEI h r i v) :=
  ⟨rfl, rfl, rfl, rfl, rfl, fun _ _ _ => rfl, fun _ _ _ => rfl, fun x j e => by
    by_cases c : x = r
    · subst c
      rw [sEI_at, pk_un (by omega)]
    · rw [sEI_ne _ _ _ c], fun _ _ _ => rfl⟩
theorem MZ.ej (h : AH) {r i : Nat} (v : Int64) (hr : 351 ≤ r ∧ r ≤ 354) (hi : hf r ≤ i) : MZ h (sEJ h r i v) :=
  ⟨rfl, rfl, rfl, rfl, rfl, fun _ _ _ => rfl, fun _ _ _ => rfl, fun _ _ _ => rfl, fun x j e => by
    by_cases c : x = r
    · subst c
      rw [sEJ_at, pk_uLn (by omega)]
    · rw [sEJ_ne _ _ _ c]⟩
theorem MZ.fi (h : AH) {k : Nat} (v : Int32) (hk : (1203 ≤ k ∧ k ≤ 1209) ∨ k = 1233 ∨ k = 1246) : MZ h (sFI h k 348 v) :=
  ⟨rfl, rfl, rfl, rfl, rfl, fun _ _ _ => rfl, fun j y e => sFI_o _ _ (by omega), fun _ _ _ => rfl, fun _ _ _ => rfl⟩
/-- both refuse, behind a reading -/
def Fz (a : Nat) (h g : AH) (C M : Option Res) : Prop := ∃ f h' g', f ≠ 0 ∧ C = some (some (.int 0), sFI h' 603 3 f) ∧ M = some (some (.int 0), sFI g' 1209 348 f) ∧ CQ a h h' ∧ MZ g g'
/-- the post told so far -/
def pPl (h g : AH) (a i : Nat) : Prop := ∃ w, w ≤ 9999 ∧ hAI h (a + 24) i = nI w ∧ hAI g 355 (5 + i) = nI w
def pCl (h g : AH) (a np i : Nat) : Prop := ∃ kd st ho ha sp, kd ≤ 3 ∧ st < np ∧ 1 ≤ ho ∧ ho ≤ 999 ∧ ha ≤ ho ∧ sp ≤ 9 ∧ hAI h (a + 4) i = nI kd ∧ hAI g 357 (6 + i) = nI kd ∧ hAI h (a + 5) i = nI st ∧ hAI g 358 (6 + i) = nI st ∧ hAI h (a + 6) i = nI ho ∧ hAI g 359 (6 + i) = nI ho ∧ hAI h (a + 18) i = nI ha ∧ hAI g 360 (6 + i) = nI ha ∧ hAI h (a + 7) i = nI sp ∧ hAI g 361 (6 + i) = nI sp
def pPe (h g : AH) (a np i : Nat) : Prop := ∃ q s w, q < np ∧ s ≤ 9 ∧ w ≤ 999 ∧ hAI h (a + 21) i = nI q ∧ hAI g 362 (4 + i) = nI q ∧ hAI h (a + 8) i = nI s ∧ hAI g 363 (4 + i) = nI s ∧ hAI h (a + 22) i = nI w ∧ hAI g 364 (4 + i) = nI w
def pWo (h g : AH) (a nc ne i : Nat) : Prop := ∃ e t u y, e < ne ∧ t < nc ∧ 1 ≤ u ∧ u ≤ 99 ∧ y ≤ 99 ∧ hAI h (a + 9) i = nI e ∧ hAI g 365 (6 + i) = nI e ∧ hAI h (a + 10) i = nI t ∧ hAI g 366 (6 + i) = nI t ∧ hAI h (a + 11) i = nI u ∧ hAI g 367 (6 + i) = nI u ∧ hAI h (a + 12) i = nI y ∧ hAI g 368 (6 + i) = nI y
def pSt (h g : AH) (a np : Nat) : Prop := ∀ i j, i < 5 → j < 5 → ∃ k, k ≤ 9 ∧ hAI h (a + 2) (5 * i + j) = nI k ∧ hAI g 356 (25 + (5 * i + j)) = nI k ∧ ((np ≤ i ∨ np ≤ j) → k = 0)
def pHe (h g : AH) (a : Nat) : Prop := ∀ j, j < 24 → ∃ k, k ≤ 9 ∧ hAI h (a + 13) j = nI k ∧ hAI g 369 (24 + j) = nI k
def pTh (h g : AH) (a : Nat) : Prop :=
  (hFI h 604 3 = 0 ∧ hAI g 370 1 = nI 1000 ∧ hAI g 371 1 = nI 1000 ∧ hFI g 1233 348 = nI 1000 ∧ hFI h 401 (a + 14) = nI 3 ∧ hAI h (a + 15) 0 = -1 ∧ hAI h (a + 15) 1 = -2 ∧ hAI h (a + 15) 2 = -10) ∨
  (hFI h 604 3 = 1 ∧ hAI g 370 1 = nI 1000 ∧ ∃ m len W, 0 < m ∧ m ≤ 1000 ∧ hAI g 371 1 = nI (1000 + m) ∧ PoL h a len W ∧ ∀ (b o k s : Int32) (vs : Nat → Int32) (σ : Nat → Nat → Int32), vs 1 = b → vs 2 = o → vs 3 = k → vs 4 = s → (∀ i, i < m → (mkN vs (fun i => hAI g 372 (1000 + i)) σ i).1 < 7 ∧ mok1 (hAI g 372 (1000 + i)) (mkN vs (fun i => hAI g 372 (1000 + i)) σ i).1) ∧ mwv vs (fun i => hAI g 372 (1000 + i)) m σ = W b o k s)
def PR (h g : AH) (a np ny nc ne nw : Nat) : Prop := Ct2 h g a np ny nc ne nw ∧ Nm2 h g a np nc ne nw ∧ (∀ i, i < np → pPl h g a i) ∧ (∀ i, i < nc → pCl h g a np i) ∧ (∀ i, i < ne → pPe h g a np i) ∧ (∀ i, i < nw → pWo h g a nc ne i) ∧ pSt h g a np ∧ pHe h g a ∧ pTh h g a
theorem pPl.fr {h g h' g' : AH} {a i : Nat} (e1 : hAI h' (a + 24) i = hAI h (a + 24) i) (e2 : hAI g' 355 (5 + i) = hAI g 355 (5 + i)) (s : pPl h g a i) : pPl h' g' a i := by
  unfold pPl at s ⊢
  rw [e1, e2]
  exact s
theorem pCl.fr {h g h' g' : AH} {a np i : Nat} (e1 : ∀ k, (k = 4 ∨ k = 5 ∨ k = 6 ∨ k = 7 ∨ k = 18) → hAI h' (a + k) i = hAI h (a + k) i) (e2 : ∀ r, 357 ≤ r → r ≤ 361 → hAI g' r (6 + i) = hAI g r (6 + i)) (s : pCl h g a np i) : pCl h' g' a np i := by
  unfold pCl at s ⊢
  rw [e1 4 (by decide), e1 5 (by decide), e1 6 (by decide), e1 7 (by decide), e1 18 (by decide), e2 357 (by decide) (by decide), e2 358 (by decide) (by decide), e2 359 (by decide) (by decide), e2 360 (by decide) (by decide), e2 361 (by decide) (by decide)]
  exact s
theorem pCl.mono {h g : AH} {a np np' i : Nat} (hn : np ≤ np') (s : pCl h g a np i) : pCl h g a np' i := by
  obtain ⟨kd, st, ho, ha, sp, s1, s2, s3⟩ := s
  exact ⟨kd, st, ho, ha, sp, s1, by omega, s3⟩
theorem pPe.fr {h g h' g' : AH} {a np i : Nat} (e1 : ∀ k, (k = 21 ∨ k = 8 ∨ k = 22) → hAI h' (a + k) i = hAI h (a + k) i) (e2 : ∀ r, 362 ≤ r → r ≤ 364 → hAI g' r (4 + i) = hAI g r (4 + i)) (s : pPe h g a np i) : pPe h' g' a np i := by
  unfold pPe at s ⊢
  rw [e1 21 (by decide), e1 8 (by decide), e1 22 (by decide), e2 362 (by decide) (by decide), e2 363 (by decide) (by decide), e2 364 (by decide) (by decide)]
  exact s
theorem pPe.mono {h g : AH} {a np np' i : Nat} (hn : np ≤ np') (s : pPe h g a np i) : pPe h g a np' i := by
  obtain ⟨q, s, w, s1, s2⟩ := s
  exact ⟨q, s, w, by omega, s2⟩
theorem pWo.fr {h g h' g' : AH} {a nc ne i : Nat} (e1 : ∀ k, 9 ≤ k → k ≤ 12 → hAI h' (a + k) i = hAI h (a + k) i) (e2 : ∀ r, 365 ≤ r → r ≤ 368 → hAI g' r (6 + i) = hAI g r (6 + i)) (s : pWo h g a nc ne i) : pWo h' g' a nc ne i := by
  unfold pWo at s ⊢
  rw [e1 9 (by decide) (by decide), e1 10 (by decide) (by decide), e1 11 (by decide) (by decide), e1 12 (by decide) (by decide), e2 365 (by decide) (by decide), e2 366 (by decide) (by decide), e2 367 (by decide) (by decide), e2 368 (by decide) (by decide)]
  exact s
theorem pWo.mono {h g : AH} {a nc nc' ne ne' i : Nat} (hn : nc ≤ nc') (hn2 : ne ≤ ne') (s : pWo h g a nc ne i) : pWo h g a nc' ne' i := by
  obtain ⟨e, t, u, y, s1, s2, s3⟩ := s
  exact ⟨e, t, u, y, by omega, by omega, s3⟩
theorem pSt.fr {h g h' g' : AH} {a np : Nat} (e1 : hAI h' (a + 2) = hAI h (a + 2)) (e2 : hAI g' 356 = hAI g 356) (s : pSt h g a np) : pSt h' g' a np := by
  unfold pSt at s ⊢
  rw [e1, e2]
  exact s
theorem pSt.mono {h g : AH} {a np np' : Nat} (hn : np ≤ np') (s : pSt h g a np) : pSt h g a np' := by
  intro i j hi hj
  obtain ⟨k, k1, k2, k3, k4⟩ := s i j hi hj
  exact ⟨k, k1, k2, k3, fun z => k4 (by omega)⟩
theorem pHe.fr {h g h' g' : AH} {a : Nat} (e1 : hAI h' (a + 13) = hAI h (a + 13)) (e2 : hAI g' 369 = hAI g 369) (s : pHe h g a) : pHe h' g' a := by
  unfold pHe at s ⊢
  rw [e1, e2]
  exact s
theorem pTh.fr {h g h' g' : AH} {a : Nat} (e1 : hFI h' 604 3 = hFI h 604 3) (e2 : hFI h' 401 (a + 14) = hFI h 401 (a + 14)) (e3 : hAI h' (a + 15) = hAI h (a + 15)) (e4 : ∀ r, 370 ≤ r → r ≤ 372 → hAI g' r = hAI g r) (e5 : hFI g' 1233 348 = hFI g 1233 348) (s : pTh h g a) : pTh h' g' a := by
  unfold pTh PoL at s ⊢
  rw [e1, e2, e3, e4 370 (by decide) (by decide), e4 371 (by decide) (by decide), e4 372 (by decide) (by decide), e5]
  exact s
theorem Ct2.fr {h g h' g' : AH} {a np ny nc ne nw : Nat} (e1 : ∀ k, 501 ≤ k → k ≤ 505 → hFI h' k a = hFI h k a) (e2 : hAI g' 350 = hAI g 350) (s : Ct2 h g a np ny nc ne nw) : Ct2 h' g' a np ny nc ne nw := by
  unfold Ct2 at s ⊢
  rw [e1 501 (by decide) (by decide), e1 502 (by decide) (by decide), e1 503 (by decide) (by decide), e1 504 (by decide) (by decide), e1 505 (by decide) (by decide), e2]
  exact s
theorem Nm2.fr {h g h' g' : AH} {a np nc ne nw : Nat} (e1 : hAJ h' (a + 1) = hAJ h (a + 1)) (e2 : ∀ r, 351 ≤ r → r ≤ 354 → hAJ g' r = hAJ g r) (s : Nm2 h g a np nc ne nw) : Nm2 h' g' a np nc ne nw := by
  unfold Nm2 at s ⊢
  rw [e1, e2 351 (by decide) (by decide), e2 352 (by decide) (by decide), e2 353 (by decide) (by decide), e2 354 (by decide) (by decide)]
  exact s
/-- tokens may go by -/
theorem PR.ct {h g h' g' : AH} {a np ny nc ne nw : Nat} (ha : 3 < a) (ha2 : a ≤ 30) (q : CT h h') (r : MT g g') (s : PR h g a np ny nc ne nw) : PR h' g' a np ny nc ne nw := by
  obtain ⟨q1, q2, q3, q4, q5, q6, q7, q8, q9⟩ := q
  obtain ⟨r1, r2, r3, r4, r5, r6, r7, r8, r9⟩ := r
  obtain ⟨s1, s2, s3, s4, s5, s6, s7, s8, s9⟩ := s
  exact ⟨s1.fr (fun k _ _ => q9 k a (by omega) (by omega)) (by rw [r4]), s2.fr (by rw [q4]) (fun r _ _ => by rw [r5]), fun i hi => (s3 i hi).fr (by rw [q3]) (by rw [r4]), fun i hi => (s4 i hi).fr (fun k _ => by rw [q3]) (fun r _ _ => by rw [r4]), fun i hi => (s5 i hi).fr (fun k _ => by rw [q3]) (fun r _ _ => by rw [r4]), fun i hi => (s6 i hi).fr (fun k _ _ => by rw [q3]) (fun r _ _ => by rw [r4]), s7.fr (by rw [q3]) (by rw [r4]), s8.fr (by rw [q3]) (by rw [r4]), s9.fr (q9 _ _ (by omega) (by omega)) (q9 _ _ (by omega) (by omega)) (by rw [q3]) (fun r _ _ => by rw [r4]) (r9 _ _ (by omega) (by omega))⟩
theorem Fb.fz {a : Nat} {h g : AH} {C M : Option Res} (f : Fb h g C M) : Fz a h g C M := by
  obtain ⟨f, h', g', f0, f1, f2, f3, f4⟩ := f
  exact ⟨f, h', g', f0, f1, f2, f3.cq a, f4.mz⟩
