/-! What holds between calls of law. -/
/-- the rows that Inv speaks of -/
def cRow (a : Nat) : Prop := a ≠ 20 ∧ a ≠ 46 ∧ (a < 85 ∨ 92 < a) ∧ (a < 95 ∨ 111 < a) ∧ (a < 113 ∨ 123 < a) ∧ (a < 375 ∨ 384 < a) ∧ (a < 397 ∨ 398 < a) ∧ (a < 402 ∨ 409 < a)
/-- the numbers that Inv speaks of -/
def cFld (k a : Nat) : Prop := (k = 700 → a ≠ 84 ∧ a ≠ 94 ∧ a ≠ 103) ∧ a ≠ 112 ∧ a ≠ 93 ∧ (a = 348 → k = 1201 ∨ k = 1264)
/-- nothing is changed but what is used within a call -/
def Qt (h g : AH) : Prop := hK g = hK h ∧ hFR g = hFR h ∧ hLN g = hLN h ∧ hAR g = hAR h ∧ hAJ g = hAJ h ∧ hNX g = hNX h ∧ (∀ k a, 1000000 ≤ a → hFJ g k a = hFJ h k a) ∧ (∀ a, cRow a → hAI g a = hAI h a) ∧ (∀ k a, cFld k a → hFI g k a = hFI h k a) ∧ ∀ j, j < 43 → hAI g 397 j = hAI h 397 j
theorem Qt.rfl' (h : AH) : Qt h h := ⟨rfl, rfl, rfl, rfl, rfl, rfl, fun _ _ _ => rfl, fun _ _ => rfl, fun _ _ _ => rfl, fun _ _ => rfl⟩
theorem Qt.tr {h g k : AH} (a : Qt h g) (b : Qt g k) : Qt h k := by
  obtain ⟨a1, a2, a3, a4, a5, a6, a7, a8, a9, a10⟩ := a
  obtain ⟨b1, b2, b3, b4, b5, b6, b7, b8, b9, b10⟩ := b
  exact ⟨b1.trans a1, b2.trans a2, b3.trans a3, b4.trans a4, b5.trans a5, b6.trans a6, fun k a h => (b7 k a h).trans (a7 k a h), fun a h => (b8 a h).trans (a8 a h), fun k a h => (b9 k a h).trans (a9 k a h), fun j h => (b10 j h).trans (a10 j h)⟩
theorem Qt.ai (h : AH) (a : Nat) (f : Nat → Int32) (ha : a = 20 ∨ a = 46 ∨ (85 ≤ a ∧ a ≤ 92) ∨ (95 ≤ a ∧ a ≤ 111) ∨ (113 ≤ a ∧ a ≤ 123) ∨ (375 ≤ a ∧ a ≤ 384) ∨ a = 398 ∨ (402 ≤ a ∧ a ≤ 409)) : Qt h (sAI h a f) :=
  ⟨rfl, rfl, rfl, rfl, rfl, rfl, fun _ _ _ => rfl, fun b hb => sAI_ne _ _ (by unfold cRow at hb; omega), fun _ _ _ => rfl, fun j _ => by rw [sAI_ne _ _ (by omega)]⟩
theorem Qt.fi (h : AH) (k a : Nat) (v : Int32) (ha : ¬ cFld k a) : Qt h (sFI h k a v) :=
  ⟨rfl, rfl, rfl, rfl, rfl, rfl, fun _ _ _ => rfl, fun _ _ => rfl, fun j b hb => sFI_o _ _ (by
    by_cases e : j = k
    · by_cases e2 : b = a
      · subst e; subst e2; exact absurd hb ha
      · exact Or.inr e2
    · exact Or.inl e), fun _ _ => rfl⟩
theorem Qt.fj (h : AH) (k a : Nat) (v : Int64) (ha : a < 1000000) : Qt h (sFJ h k a v) :=
  ⟨rfl, rfl, rfl, rfl, rfl, rfl, fun j b hb => by
    show am_up2 (hFJ h) k a v j b = _
    unfold am_up2
    rw [if_neg (by omega)], fun _ _ => rfl, fun _ _ _ => rfl, fun _ _ => rfl⟩
theorem Qt.st (h : AH) (a : Nat) (T : SV) (ha : a = 84 ∨ a = 94 ∨ a = 103) : Qt h (putS h a T) :=
  ⟨rfl, rfl, rfl, rfl, rfl, rfl, fun _ _ _ => rfl, fun b hb => pS_far _ _ (by unfold cRow at hb; omega), fun k b hb => pS_fi _ _ (by
    unfold cFld at hb
    by_cases e : k = 700
    · have := hb.1 e
      right; omega
    · exact Or.inl e), fun j _ => by rw [pS_far _ _ (by omega)]⟩
theorem Qt.hm {g : AH} {f u : Nat → Int32} {ρ τ : Nat → Nat → Int32} {w y : M4} (hu : ∀ j, j < 43 → u j = f j) : Qt (HM g f ρ w) (HM g u τ y) := by
  refine ⟨by rw [hm_K, hm_K], by rw [hm_R, hm_R], by rw [hm_L, hm_L], ?_, ?_, ?_, ?_, ?_, ?_, ?_⟩
  · unfold HM; simp only [rd_hAR_mF, rd_hAR_mV, rd_hAR_sAI]
  · unfold HM; simp only [rd_hAJ_mF, rd_hAJ_mV, rd_hAJ_sAI]
  · unfold HM; simp only [rd_hNX_mF, rd_hNX_mV, rd_hNX_sAI]
  · intro k a _; unfold HM; simp only [rd_hFJ_mF, rd_hFJ_mV, rd_hFJ_sAI]
  · intro a ha
    unfold cRow at ha
    rw [hm_o _ _ _ _ (by omega) (by omega), hm_o _ _ _ _ (by omega) (by omega)]
  · intro k a ha
    unfold cFld at ha
    have e : a ≠ 348 ∨ k < 1265 ∨ 1268 < k := by
      by_cases e : a = 348
      · have := ha.2.2.2 e
        right; omega
      · exact Or.inl e
    rw [hm_fo _ _ _ _ e, hm_fo _ _ _ _ e]
  · intro j hj
    rw [hm_at, hm_at, hu j hj]
/-! shapes -/
def StoSh (h : AH) (a : Nat) : Prop := hK h a = 9 ∧ hFR h 800 a = some (a + 1) ∧ hFR h 801 a = some (a + 10) ∧ hFR h 802 a = some (a + 15) ∧ StSh h (a + 1) ∧ DaSh h (a + 10) ∧ HeSh h (a + 15)
theorem StoSh.to {h g : AH} {a : Nat} (e1 : hK g = hK h) (e2 : hFR g = hFR h) (e3 : hLN g = hLN h) (s : StoSh h a) : StoSh g a := by
  obtain ⟨s1, s2, s3, s4, s5, s6, s7⟩ := s
  exact ⟨by rw [e1]; exact s1, by rw [e2]; exact s2, by rw [e2]; exact s3, by rw [e2]; exact s4, s5.to e1 e2 e3, s6.to e1 e2 e3, s7.to e1 e2 e3⟩
def chF : List (Nat × Nat × Nat) := [(101, 113, 600), (102, 114, 6), (103, 115, 4), (105, 116, 5), (106, 117, 5), (107, 118, 5), (110, 119, 91), (111, 120, 6), (112, 121, 6), (115, 122, 100), (116, 123, 100)]
def ChoSh (h : AH) : Prop := hK h 112 = 2 ∧ hFR h 100 112 = some 93 ∧ ∀ i, i < 11 → hFR h (chF.getD i (0, 0, 0)).1 112 = some (chF.getD i (0, 0, 0)).2.1 ∧ hK h (chF.getD i (0, 0, 0)).2.1 = 50 ∧ hLN h (chF.getD i (0, 0, 0)).2.1 = (chF.getD i (0, 0, 0)).2.2
theorem ChoSh.to {h g : AH} (e1 : hK g = hK h) (e2 : hFR g = hFR h) (e3 : hLN g = hLN h) (s : ChoSh h) : ChoSh g := by
  unfold ChoSh at s ⊢
  rw [e1, e2, e3]
  exact s
/-- the words -/
def wsp : List Nat := [8740067, 456690, 16819, 1841546, 47, 4555648, 5878, 380989, 232608281, 464141, 79, 168984, 316351, 161156, 555, 291420470, 326448, 91904, 204, 10494723, 8740238, 11263, 262775, 3074, 10631, 1111, 423, 40613, 6257, 223456, 10266413]
def WdSh (h : AH) : Prop := hK h 1000100 = 56 ∧ hLN h 1000100 = 31 ∧ ∀ i, i < 31 → hAR h 1000100 i = some (1000000 + i) ∧ hK h (1000000 + i) = 11 ∧ hFJ h 1000 (1000000 + i) = lN (wsp.getD i 0) ∧ hFI h 1001 (1000000 + i) = (if i < 27 then 1 else 0)
theorem WdSh.to {h g : AH} (e1 : hK g = hK h) (e2 : hAR g = hAR h) (e3 : hLN g = hLN h) (e4 : ∀ k a, 1000000 ≤ a → hFJ g k a = hFJ h k a) (e5 : ∀ a, 1000000 ≤ a → hFI g 1001 a = hFI h 1001 a) (s : WdSh h) : WdSh g := by
  obtain ⟨s1, s2, s3⟩ := s
  refine ⟨by rw [e1]; exact s1, by rw [e3]; exact s2, fun i hi => ?_⟩
  obtain ⟨t1, t2, t3, t4⟩ := s3 i hi
  exact ⟨by rw [e2]; exact t1, by rw [e1]; exact t2, by rw [e4 _ _ (by omega)]; exact t3, by rw [e5 _ (by omega)]; exact t4⟩
def GSh (h : AH) (L : Nat) : Prop :=
  hK h 0 = 12 ∧ hFR h 1100 0 = some 1 ∧ hFR h 1101 0 = some 3 ∧ hFR h 1104 0 = some 56 ∧ hFR h 1105 0 = some 61 ∧ hFR h 1106 0 = some 81 ∧ hFR h 1107 0 = some 82 ∧ hFR h 1112 0 = some 93 ∧ hFR h 1113 0 = some 112 ∧
  (hK h 1 = 10 ∧ hFR h 900 1 = some 2 ∧ hK h 2 = 51 ∧ hLN h 2 = 1000) ∧ (hK h 3 = 7 ∧ hFR h 600 3 = some 1) ∧ PoSh h 4 ∧ PoSh h 30 ∧ DaSh h 56 ∧ StoSh h 61 ∧ (hK h 81 = 55 ∧ hLN h 81 = 4 ∧ ∀ k, k < 4 → hAR h 81 k = some (124 + 20 * k) ∧ StoSh h (124 + 20 * k)) ∧ (hK h 82 = 52 ∧ hLN h 82 = 4) ∧ XUn h ∧ AhSh h 93 94 ∧ hFR h 1 93 = some 103 ∧ StSh h 103 ∧ ChoSh h ∧ MSh h ∧ (hK h 410 = 53 ∧ hLN h 410 = 1) ∧ (hK h 1000101 = 57 ∧ hLN h 1000101 = L)
/-- shapes stay: references as they were, but for the posts, the Reader's and the Tape's word -/
theorem GSh.to {h g : AH} {L : Nat} (e1 : hK g = hK h) (e2 : ∀ k a, (a = 0 → k ≠ 1102 ∧ k ≠ 1103) → (a = 3 → k = 600) → (a = 1 → k = 900) → hFR g k a = hFR h k a) (e3 : hLN g = hLN h) (e4 : hAR g = hAR h) (s : GSh h L) : GSh g L := by
  obtain ⟨s1, s2, s3, s4, s5, s6, s7, s8, s9, ⟨s10, s11, s12, s13⟩, ⟨s14, s15⟩, s16, s17, s18, s19, ⟨s20, s21, s22⟩, ⟨s23, s24⟩, s25, s26, s27, s28, s29, s30, s31, s32⟩ := s
  have f : ∀ k a, 3 < a → hFR g k a = hFR h k a := fun k a ha => e2 k a (fun z => by omega) (fun z => by omega) (fun z => by omega)
  have fs : ∀ a, 3 < a → StSh h a → StSh g a := fun a ha s => by
    unfold StSh at s ⊢
    rw [e1, e3]
    simp only [f _ a ha]
    exact s
  have fd : ∀ a, 3 < a → DaSh h a → DaSh g a := fun a ha s => by
    unfold DaSh at s ⊢
    rw [e1, e3]
    simp only [f _ a ha]
    exact s
  have fh : ∀ a, 3 < a → HeSh h a → HeSh g a := fun a ha s => by
    unfold HeSh at s ⊢
    rw [e1, e3]
    simp only [f _ a ha]
    exact s
  have fl : ∀ a, 3 < a → LwSh h a → LwSh g a := fun a ha s => by
    unfold LwSh at s ⊢
    rw [e1, e3]
    simp only [f _ a ha]
    exact s
  have fp : ∀ a, 3 < a → PoSh h a → PoSh g a := fun a ha s => by
    obtain ⟨q1, q2, q3⟩ := s
    refine ⟨?_, fl _ (by omega) q2, fs _ (by omega) q3⟩
    unfold PoSh0 at q1 ⊢
    rw [e1, e3]
    simp only [f _ a ha]
    exact q1
  have ft : ∀ a, 3 < a → StoSh h a → StoSh g a := fun a ha s => by
    obtain ⟨q1, q2, q3, q4, q5, q6, q7⟩ := s
    exact ⟨by rw [e1]; exact q1, by rw [f _ a ha]; exact q2, by rw [f _ a ha]; exact q3, by rw [f _ a ha]; exact q4, fs _ (by omega) q5, fd _ (by omega) q6, fh _ (by omega) q7⟩
  have f0 : ∀ k, k ≠ 1102 → k ≠ 1103 → hFR g k 0 = hFR h k 0 := fun k h1 h2 => e2 k 0 (fun _ => ⟨h1, h2⟩) (fun z => by omega) (fun z => by omega)
  refine ⟨by rw [e1]; exact s1, by rw [f0 _ (by decide) (by decide)]; exact s2, by rw [f0 _ (by decide) (by decide)]; exact s3, by rw [f0 _ (by decide) (by decide)]; exact s4, by rw [f0 _ (by decide) (by decide)]; exact s5, by rw [f0 _ (by decide) (by decide)]; exact s6, by rw [f0 _ (by decide) (by decide)]; exact s7, by rw [f0 _ (by decide) (by decide)]; exact s8, by rw [f0 _ (by decide) (by decide)]; exact s9,
    ⟨by rw [e1]; exact s10, by rw [e2 900 1 (fun z => by omega) (fun z => by omega) (fun _ => rfl)]; exact s11, by rw [e1]; exact s12, by rw [e3]; exact s13⟩, ⟨by rw [e1]; exact s14, by rw [e2 600 3 (fun z => by omega) (fun _ => rfl) (fun z => by omega)]; exact s15⟩, fp _ (by decide) s16, fp _ (by decide) s17, fd _ (by decide) s18, ft _ (by decide) s19, ⟨by rw [e1]; exact s20, by rw [e3]; exact s21, fun k hk => ⟨by rw [e4]; exact (s22 k hk).1, ft _ (by omega) (s22 k hk).2⟩⟩, ⟨by rw [e1]; exact s23, by rw [e3]; exact s24⟩, ?_, ?_, by rw [f _ _ (by decide)]; exact s27, fs _ (by decide) s28, ?_, s30.to e1 (fun k => f k _ (by decide)) e3, by rw [e1, e3]; exact s31, by rw [e1, e3]; exact s32⟩
  · obtain ⟨x1, x2, x3, x4, x5, x6, x7, x8⟩ := s25
    exact ⟨by rw [e1]; exact x1, by rw [f0 _ (by decide) (by decide)]; exact x2, by rw [f0 _ (by decide) (by decide)]; exact x3, by rw [e1]; exact x4, by rw [e3]; exact x5, by rw [e4]; exact x6, fun j hj => fs _ (by omega) (x7 j hj), fs _ (by decide) x8⟩
  · obtain ⟨x1, x2, x3⟩ := s26
    exact ⟨by rw [e1]; exact x1, by rw [f _ _ (by decide)]; exact x2, fs _ (by decide) x3⟩
  · obtain ⟨x1, x2, x3⟩ := s29
    refine ⟨by rw [e1]; exact x1, by rw [f _ _ (by decide)]; exact x2, fun i hi => ?_⟩
    rw [e1, e3, f _ _ (by decide)]
    exact x3 i hi
