/-! The reader: stretches of the model's codes put together. -/
theorem SemM.pre {cs0 : Nat → Int32} {c c' w w' : Nat} {Pre Pre' : (Nat → Nat → Int32) → Prop} {Post : (Nat → Nat → Int32) → (Nat → Nat → Int32) → Int32 → Prop} {V : Int32 → Int32 → Int32 → Int32 → Int32} (e : ∀ τ, Pre τ → Pre' τ) (s : SemM cs0 c c' w w' Pre' Post V) : SemM cs0 c c' w w' Pre Post V := fun cs h vs σ τ hE hP => s cs h vs σ τ hE (e τ hP)
theorem SemM.val {cs0 : Nat → Int32} {c c' w w' : Nat} {Pre : (Nat → Nat → Int32) → Prop} {Post : (Nat → Nat → Int32) → (Nat → Nat → Int32) → Int32 → Prop} {V V' : Int32 → Int32 → Int32 → Int32 → Int32} (e : ∀ b o k s, V b o k s = V' b o k s) (s : SemM cs0 c c' w w' Pre Post V) : SemM cs0 c c' w w' Pre Post V' := by
  have : V = V' := by
    funext b o k s
    exact e b o k s
  rw [← this]
  exact s
theorem SemC.val {cs0 : Nat → Int32} {l l' m : Nat} {V V' : Int32 → Int32 → Int32 → Int32 → Int32} (e : ∀ b o k s, V b o k s = V' b o k s) (s : SemC cs0 l l' m V) : SemC cs0 l l' m V' := by
  have : V = V' := by
    funext b o k s
    exact e b o k s
  rw [← this]
  exact s
theorem mop_b {σ : Nat → Nat → Int32} {d r i : Nat} (h : i ≠ d) : mop σ d r i = σ r i := by
  unfold mop
  rw [up2_o _ _ (Or.inr h), up2_o _ _ (Or.inr h), up2_o _ _ (Or.inr h), up2_o _ _ (Or.inr h), up2_o _ _ (Or.inr h)]
theorem mop_r (σ : Nat → Nat → Int32) (d : Nat) : mop σ d 1 d = 0 ∧ mop σ d 3 d = 0 ∧ mop σ d 4 d = 0 ∧ mop σ d 5 d = 20 ∧ mop σ d 7 d = 0 ∧ mop σ d 8 d = σ 8 d := by
  unfold mop
  refine ⟨?_, ?_, ?_, ?_, ?_, ?_⟩
  · rw [up2_o _ _ (Or.inl (by decide)), up2_o _ _ (Or.inl (by decide)), up2_o _ _ (Or.inl (by decide)), up2_o _ _ (Or.inl (by decide)), up2_at]
  · rw [up2_o _ _ (Or.inl (by decide)), up2_o _ _ (Or.inl (by decide)), up2_o _ _ (Or.inl (by decide)), up2_at]
  · rw [up2_o _ _ (Or.inl (by decide)), up2_o _ _ (Or.inl (by decide)), up2_at]
  · rw [up2_o _ _ (Or.inl (by decide)), up2_at]
  · rw [up2_at]
  · rw [up2_o _ _ (Or.inl (by decide)), up2_o _ _ (Or.inl (by decide)), up2_o _ _ (Or.inl (by decide)), up2_o _ _ (Or.inl (by decide)), up2_o _ _ (Or.inl (by decide))]
theorem mtm_congr {σ τ : Nat → Nat → Int32} {w : Nat} {q : Nat × Int32} (e : ∀ r i, i ≤ w → σ r i = τ r i) (hq : q.1 ≤ w) : ∀ r i, i ≤ w → mtm σ q r i = mtm τ q r i := by
  intro r i hi
  unfold mtm am_up2
  rw [e 7 _ hq, e 6 _ hq, e r i hi]
theorem SemM.paren {O O1 cs0 : Nat → Int32} {c c1 w : Nat} {V : Int32 → Int32 → Int32 → Int32 → Int32} (h28 : cs0 c = 28) (h29 : cs0 c1 = 29) (hc : c + 1 ≤ c1) (hw : w < 5) (hO : ∀ i, 1 ≤ i → i ≤ w → O1 i = O i) (hO1 : O1 (w + 1) ≠ 1) (s : SemM cs0 (c + 1) c1 (w + 1) (w + 1) (PrExpr O1 (w + 1)) (PoExpr (w + 1)) V) : SemM cs0 c (c1 + 1) w (drp O w) (MO O w) (PoPart w) V := by
  intro cs e vs σ τ hE hP
  have e1 : cs c = 28 := (e c (by omega)).trans h28
  have e2 : cs c1 = 29 := (e c1 (by omega)).trans h29
  have k1 : mkN vs cs σ (c + 1) = (w + 1, mop (am_up2 τ 8 (w + 1) 0) (w + 1)) := by
    rw [mkN_s, hE, e1]
    rfl
  have b1 : ∀ r i, i ≤ w → mop (am_up2 τ 8 (w + 1) 0) (w + 1) r i = τ r i := fun r i hi => by
    rw [mop_b (by omega), up2_o _ _ (Or.inr (by omega))]
  obtain ⟨r1, r3, r4, r5, r7, r8⟩ := mop_r (am_up2 τ 8 (w + 1) 0) (w + 1)
  rw [up2_at] at r8
  generalize mop (am_up2 τ 8 (w + 1) 0) (w + 1) = τ1 at k1 b1 r1 r3 r4 r5 r7 r8
  have p1 : PrExpr O1 (w + 1) τ1 := by
    refine ⟨fun i h1 h2 => ?_, r1, r3, r4, r5, r7⟩
    by_cases z : i = w + 1
    · subst z
      rw [r8]
      exact ⟨fun q => absurd q (by decide), fun q => absurd q hO1⟩
    · rw [b1 8 i (by omega), hO i h1 (by omega)]
      exact hP i h1 (by omega)
  obtain ⟨ok, τ2, k2, q1, q2, q3⟩ := s cs (fun i hi => e i (by omega)) vs σ τ1 k1 p1
  have b2 : ∀ r i, i ≤ w → mte τ2 (w + 1) r i = τ r i := fun r i hi => by
    rw [mte_b (by omega), q1 r i (by omega), b1 r i hi]
  have mp : mpop (mte τ2 (w + 1)) w (V (vs 1) (vs 2) (vs 3) (vs 4)) = mpop τ w (V (vs 1) (vs 2) (vs 3) (vs 4)) := mpop_congr w _ (fun i hi => b2 8 i hi)
  have k3 : mkN vs cs σ (c1 + 1) = ((mpop τ w (V (vs 1) (vs 2) (vs 3) (vs 4))).1, mtm (mte τ2 (w + 1)) (mpop τ w (V (vs 1) (vs 2) (vs 3) (vs 4)))) := by
    rw [mkN_s, k2, e2]
    show ((mpop (mte τ2 (w + 1)) w (mte τ2 (w + 1) 0 (w + 1))).1, mtm (mte τ2 (w + 1)) (mpop (mte τ2 (w + 1)) w (mte τ2 (w + 1) 0 (w + 1)))) = _
    rw [mte_0, q3, mp]
  refine ⟨fun i hi hj => ?_, _, by rw [k3, mpop_drp w _ hP], ?_⟩
  · by_cases z1 : i = c
    · subst z1
      rw [hE, e1]
      exact ⟨by show w < 7; omega, mok_28 (Or.inl rfl) (by show w < 6; omega)⟩
    · by_cases z2 : i = c1
      · subst z2
        rw [k2, e2]
        exact ⟨by show w + 1 < 7; omega, mok_29 (by show 0 < w + 1; omega)⟩
      · exact ok i (by omega) (by omega)
  · exact mtm_congr b2 (mpop_le τ w _)
theorem SemM.neg {O O1 cs0 : Nat → Int32} {c c1 w : Nat} {V : Int32 → Int32 → Int32 → Int32 → Int32} (h30 : cs0 c = 30) (hc : c + 1 ≤ c1) (hw : w < 5) (hO : ∀ i, 1 ≤ i → i ≤ w → O1 i = O i) (hO1 : O1 (w + 1) = 1) (s : SemM cs0 (c + 1) c1 (w + 1) (drp O1 (w + 1)) (MO O1 (w + 1)) (PoPart (w + 1)) V) : SemM cs0 c c1 w (drp O w) (MO O w) (PoPart w) (fun b o k s => if V b o k s = 0 then 1 else 0) := by
  intro cs e vs σ τ hE hP
  have e1 : cs c = 30 := (e c (by omega)).trans h30
  have k1 : mkN vs cs σ (c + 1) = (w + 1, mop (am_up2 τ 8 (w + 1) 1) (w + 1)) := by
    rw [mkN_s, hE, e1]
    rfl
  have b1 : ∀ r i, i ≤ w → mop (am_up2 τ 8 (w + 1) 1) (w + 1) r i = τ r i := fun r i hi => by
    rw [mop_b (by omega), up2_o _ _ (Or.inr (by omega))]
  obtain ⟨r1, r3, r4, r5, r7, r8⟩ := mop_r (am_up2 τ 8 (w + 1) 1) (w + 1)
  rw [up2_at] at r8
  generalize mop (am_up2 τ 8 (w + 1) 1) (w + 1) = τ1 at k1 b1 r1 r3 r4 r5 r7 r8
  have p1 : MO O1 (w + 1) τ1 := by
    intro i h1 h2
    by_cases z : i = w + 1
    · subst z
      rw [r8, hO1]
    · rw [b1 8 i (by omega), hO i h1 (by omega)]
      exact hP i h1 (by omega)
  obtain ⟨ok, τ2, k2, q1⟩ := s cs (fun i hi => e i (by omega)) vs σ τ1 k1 p1
  have dr : drp O1 (w + 1) = drp O w := by
    show (if O1 (w + 1) = 1 then drp O1 w else w + 1) = _
    rw [if_pos hO1, drp_congr w hO]
  generalize hv : V (vs 1) (vs 2) (vs 3) (vs 4) = v at q1
  have mp : mpop τ1 (w + 1) v = mpop τ w (if v = 0 then 1 else 0) := by
    show (if τ1 8 (w + 1) = 1 then mpop τ1 w (if v = 0 then 1 else 0) else (w + 1, v)) = _
    rw [if_pos r8, mpop_congr w _ (fun i hi => b1 8 i hi)]
  refine ⟨fun i hi hj => ?_, τ2, by rw [k2, dr], ?_⟩
  · by_cases z1 : i = c
    · subst z1
      rw [hE, e1]
      exact ⟨by show w < 7; omega, mok_28 (Or.inr rfl) (by show w < 6; omega)⟩
    · exact ok i (by omega) hj
  · intro r i hi
    show _ = mtm τ (mpop τ w (if V (vs 1) (vs 2) (vs 3) (vs 4) = 0 then 1 else 0)) r i
    rw [hv, q1 r i (by omega), mp]
    exact mtm_congr b1 (mpop_le τ w _) r i hi
theorem SemM.prod {O cs0 : Nat → Int32} {c c' w : Nat} {V : Int32 → Int32 → Int32 → Int32 → Int32} (hO : Opn O w) (s : SemM cs0 c c' w (drp O w) (MO O w) (PoPart w) V) : SemM cs0 c c' w w (PrProd O w) (PoProd w) V := by
  intro cs e vs σ τ hE ⟨hP, h7⟩
  obtain ⟨ok, τ', k, q⟩ := s cs e vs σ τ hE hP
  rw [drp_opn hO] at k
  refine ⟨ok, τ', k, fun r i hi => ?_, fun r hr => ?_, ?_⟩
  · rw [q r i (by omega), mpop_opn hP hO]
    exact up2_o _ _ (Or.inr (by omega))
  · rw [q r w (Nat.le_refl _), mpop_opn hP hO]
    exact up2_o _ _ (Or.inl (by omega))
  · rw [q 6 w (Nat.le_refl _), mpop_opn hP hO]
    unfold mtm
    dsimp only
    rw [up2_at, if_pos h7]
theorem SemM.star {O cs0 : Nat → Int32} {c c1 c2 w : Nat} {V1 V2 : Int32 → Int32 → Int32 → Int32 → Int32} (hO : Opn O w) (hw : w < 7) (hx : cs0 c1 = 22) (h12 : c1 + 1 ≤ c2) (s1 : SemM cs0 c c1 w w (PrProd O w) (PoProd w) V1) (s2 : SemM cs0 (c1 + 1) c2 w (drp O w) (MO O w) (PoPart w) V2) : SemM cs0 c c2 w w (PrProd O w) (PoProd w) (fun b o k s => V1 b o k s * V2 b o k s) := by
  intro cs e vs σ τ hE hP
  obtain ⟨ok1, τ1, k1, a1, a2, a3⟩ := s1 cs (fun i hi => e i (by omega)) vs σ τ hE hP
  have ex : cs c1 = 22 := (e c1 (by omega)).trans hx
  have k2 : mkN vs cs σ (c1 + 1) = (w, am_up2 τ1 7 w 22) := by
    rw [mkN_s, k1, ex]
    rfl
  have p2 : MO O w (am_up2 τ1 7 w 22) := (hP.1.bel (τ' := am_up2 τ1 7 w 22) (fun r i hi => by rw [up2_o _ _ (Or.inr (by omega))]; exact a1 r i hi) (by rw [up2_o _ _ (Or.inl (by decide))]; exact a2 8 (by omega)))
  obtain ⟨ok2, τ2, k3, q⟩ := s2 cs e vs σ _ k2 p2
  rw [drp_opn hO] at k3
  refine ⟨ok_join ok1 ?_ ok2, τ2, k3, fun r i hi => ?_, fun r hr => ?_, ?_⟩
  · rw [k1, ex]
    exact ⟨hw, mok_o (by decide) w⟩
  · rw [q r i (by omega), mpop_opn p2 hO]
    unfold mtm
    rw [up2_o _ _ (Or.inr (by show i ≠ w; omega)), up2_o _ _ (Or.inr (by omega)), a1 r i hi]
  · rw [q r w (Nat.le_refl _), mpop_opn p2 hO]
    unfold mtm
    rw [up2_o _ _ (Or.inl (by omega)), up2_o _ _ (Or.inl (by omega)), a2 r hr]
  · rw [q 6 w (Nat.le_refl _), mpop_opn p2 hO]
    unfold mtm
    dsimp only
    rw [up2_at, up2_at, if_neg (by decide), up2_o _ _ (Or.inl (by decide)), a3]
theorem SemM.sum {O cs0 : Nat → Int32} {c c' w : Nat} {V : Int32 → Int32 → Int32 → Int32 → Int32} (s : SemM cs0 c c' w w (PrProd O w) (PoProd w) V) : SemM cs0 c c' w w (PrSum O w) (PoSum w) V := by
  intro cs e vs σ τ hE ⟨hP, h4, h5, h7⟩
  obtain ⟨ok, τ', k, a1, a2, a3⟩ := s cs e vs σ τ hE ⟨hP, h7⟩
  refine ⟨ok, τ', k, a1, fun r hr => a2 r (by omega), ?_⟩
  rw [a2 5 (by omega), a2 4 (by omega), a3, h4, h5, if_neg (by decide), Int32.zero_add]
theorem SemM.add {O cs0 : Nat → Int32} {c c1 c2 w : Nat} {x : Int32} {V1 V2 : Int32 → Int32 → Int32 → Int32 → Int32} (hw : w < 7) (hx : cs0 c1 = x) (hx2 : x = 20 ∨ x = 21) (h12 : c1 + 1 ≤ c2) (s1 : SemM cs0 c c1 w w (PrSum O w) (PoSum w) V1) (s2 : SemM cs0 (c1 + 1) c2 w w (PrProd O w) (PoProd w) V2) : SemM cs0 c c2 w w (PrSum O w) (PoSum w) (fun b o k s => if x = 21 then V1 b o k s - V2 b o k s else V1 b o k s + V2 b o k s) := by
  intro cs e vs σ τ hE hP
  obtain ⟨ok1, τ1, k1, a1, a2, a3⟩ := s1 cs (fun i hi => e i (by omega)) vs σ τ hE hP
  have ex : cs c1 = x := (e c1 (by omega)).trans hx
  have k2 : mkN vs cs σ (c1 + 1) = (w, am_up2 (msu τ1 w) 5 w x) := by
    rw [mkN_s, k1, ex]
    rcases hx2 with h | h <;> subst h <;> rfl
  have b2 : ∀ r i, i < w → am_up2 (msu τ1 w) 5 w x r i = τ r i := fun r i hi => by
    rw [up2_o _ _ (Or.inr (by omega)), msu_b (by omega), a1 r i hi]
  have c4 : am_up2 (msu τ1 w) 5 w x 4 w = V1 (vs 1) (vs 2) (vs 3) (vs 4) := by
    rw [up2_o _ _ (Or.inl (by decide)), msu_4, a3]
  have c5 : am_up2 (msu τ1 w) 5 w x 5 w = x := up2_at _ _ _ _
  have c7 : am_up2 (msu τ1 w) 5 w x 7 w = 0 := by rw [up2_o _ _ (Or.inl (by decide)), msu_7]
  have cr : ∀ r, r ≤ 3 ∨ r = 8 → am_up2 (msu τ1 w) 5 w x r w = τ r w := fun r hr => by
    rw [up2_o _ _ (Or.inl (by omega)), msu_r (by omega) (by omega), a2 r hr]
  generalize am_up2 (msu τ1 w) 5 w x = ρ at k2 b2 c4 c5 c7 cr
  obtain ⟨ok2, τ2, k3, d1, d2, d3⟩ := s2 cs e vs σ ρ k2 ⟨hP.1.bel b2 (cr 8 (by omega)), c7⟩
  refine ⟨ok_join ok1 ?_ ok2, τ2, k3, fun r i hi => (d1 r i hi).trans (b2 r i hi), fun r hr => (d2 r (by omega)).trans (cr r hr), ?_⟩
  · rw [k1, ex]
    exact ⟨hw, mok_o (by rcases hx2 with h | h <;> subst h <;> decide) w⟩
  · rw [d2 5 (by omega), d2 4 (by omega), d3, c4, c5]
theorem SemM.test {O cs0 : Nat → Int32} {c c' w : Nat} {V : Int32 → Int32 → Int32 → Int32 → Int32} (s : SemM cs0 c c' w w (PrSum O w) (PoSum w) V) : SemM cs0 c c' w w (PrTest O w) (PoTest w) V := by
  intro cs e vs σ τ hE ⟨hP, h3, h4, h5, h7⟩
  obtain ⟨ok, τ', k, a1, a2, a3⟩ := s cs e vs σ τ hE ⟨hP, h4, h5, h7⟩
  refine ⟨ok, τ', k, a1, fun r hr => a2 r (by omega), ?_⟩
  unfold mtv
  rw [msu_r (by decide) (by decide), a2 3 (by omega), h3, if_neg (by decide), if_neg (by decide), msu_4, a3]
theorem SemM.cmp {O cs0 : Nat → Int32} {c c1 c2 w : Nat} {x : Int32} {V1 V2 : Int32 → Int32 → Int32 → Int32 → Int32} (hw : w < 7) (hx : cs0 c1 = x) (hx2 : x = 24 ∨ x = 25) (h12 : c1 + 1 ≤ c2) (s1 : SemM cs0 c c1 w w (PrSum O w) (PoSum w) V1) (s2 : SemM cs0 (c1 + 1) c2 w w (PrSum O w) (PoSum w) V2) : SemM cs0 c c2 w w (PrTest O w) (PoTest w) (fun b o k s => if x = 24 then (if V1 b o k s < V2 b o k s then 1 else 0) else if V1 b o k s = V2 b o k s then 1 else 0) := by
  intro cs e vs σ τ hE ⟨hP, h3, h4, h5, h7⟩
  obtain ⟨ok1, τ1, k1, a1, a2, a3⟩ := s1 cs (fun i hi => e i (by omega)) vs σ τ hE ⟨hP, h4, h5, h7⟩
  have ex : cs c1 = x := (e c1 (by omega)).trans hx
  have k2 : mkN vs cs σ (c1 + 1) = (w, am_up2 (am_up2 (am_up2 (am_up2 (msu τ1 w) 2 w (msu τ1 w 4 w)) 3 w x) 4 w 0) 5 w 20) := by
    rw [mkN_s, k1, ex]
    rcases hx2 with h | h <;> subst h <;> rfl
  rw [msu_4, a3] at k2
  generalize hv : V1 (vs 1) (vs 2) (vs 3) (vs 4) = v at k2
  have b2 : ∀ r i, i < w → am_up2 (am_up2 (am_up2 (am_up2 (msu τ1 w) 2 w v) 3 w x) 4 w 0) 5 w 20 r i = τ r i := fun r i hi => by
    rw [up2_o _ _ (Or.inr (by omega)), up2_o _ _ (Or.inr (by omega)), up2_o _ _ (Or.inr (by omega)), up2_o _ _ (Or.inr (by omega)), msu_b (by omega), a1 r i hi]
  have c2' : am_up2 (am_up2 (am_up2 (am_up2 (msu τ1 w) 2 w v) 3 w x) 4 w 0) 5 w 20 2 w = v := by
    rw [up2_o _ _ (Or.inl (by decide)), up2_o _ _ (Or.inl (by decide)), up2_o _ _ (Or.inl (by decide)), up2_at]
  have c3 : am_up2 (am_up2 (am_up2 (am_up2 (msu τ1 w) 2 w v) 3 w x) 4 w 0) 5 w 20 3 w = x := by
    rw [up2_o _ _ (Or.inl (by decide)), up2_o _ _ (Or.inl (by decide)), up2_at]
  have c4 : am_up2 (am_up2 (am_up2 (am_up2 (msu τ1 w) 2 w v) 3 w x) 4 w 0) 5 w 20 4 w = 0 := by
    rw [up2_o _ _ (Or.inl (by decide)), up2_at]
  have c5 : am_up2 (am_up2 (am_up2 (am_up2 (msu τ1 w) 2 w v) 3 w x) 4 w 0) 5 w 20 5 w = 20 := up2_at _ _ _ _
  have c7 : am_up2 (am_up2 (am_up2 (am_up2 (msu τ1 w) 2 w v) 3 w x) 4 w 0) 5 w 20 7 w = 0 := by
    rw [up2_o _ _ (Or.inl (by decide)), up2_o _ _ (Or.inl (by decide)), up2_o _ _ (Or.inl (by decide)), up2_o _ _ (Or.inl (by decide)), msu_7]
  have cr : ∀ r, r ≤ 1 ∨ r = 8 → am_up2 (am_up2 (am_up2 (am_up2 (msu τ1 w) 2 w v) 3 w x) 4 w 0) 5 w 20 r w = τ r w := fun r hr => by
    rw [up2_o _ _ (Or.inl (by omega)), up2_o _ _ (Or.inl (by omega)), up2_o _ _ (Or.inl (by omega)), up2_o _ _ (Or.inl (by omega)), msu_r (by omega) (by omega), a2 r (by omega)]
  generalize am_up2 (am_up2 (am_up2 (am_up2 (msu τ1 w) 2 w v) 3 w x) 4 w 0) 5 w 20 = ρ at k2 b2 c2' c3 c4 c5 c7 cr
  obtain ⟨ok2, τ2, k3, d1, d2, d3⟩ := s2 cs e vs σ ρ k2 ⟨hP.bel b2 (cr 8 (by omega)), c4, c5, c7⟩
  refine ⟨ok_join ok1 ?_ ok2, τ2, k3, fun r i hi => (d1 r i hi).trans (b2 r i hi), fun r hr => (d2 r (by omega)).trans (cr r hr), ?_⟩
  · rw [k1, ex]
    exact ⟨hw, mok_o (by rcases hx2 with h | h <;> subst h <;> decide) w⟩
  · unfold mtv
    rw [msu_r (by decide) (by decide), msu_r (by decide) (by decide), msu_4, d3, d2 3 (by omega), d2 2 (by omega), c2', c3]
    dsimp only
    rw [hv]
    rcases hx2 with h | h
    · subst h
      rw [if_pos rfl, if_pos rfl]
    · subst h
      have z : ¬ (25 : Int32) = 24 := by decide
      rw [if_neg z, if_pos rfl, if_neg z]
theorem SemM.expr {O cs0 : Nat → Int32} {c c' w : Nat} {V : Int32 → Int32 → Int32 → Int32 → Int32} (s : SemM cs0 c c' w w (PrTest O w) (PoTest w) V) : SemM cs0 c c' w w (PrExpr O w) (PoExpr w) V := by
  intro cs e vs σ τ hE ⟨hP, h1, h3, h4, h5, h7⟩
  obtain ⟨ok, τ', k, a1, a2, a3⟩ := s cs e vs σ τ hE ⟨hP, h3, h4, h5, h7⟩
  refine ⟨ok, τ', k, a1, a2 8 (by omega), ?_⟩
  rw [a3]
  unfold mtk
  rw [msu_r (by decide) (by decide), a2 1 (by omega), h1, if_neg (by decide), if_neg (by decide)]
theorem SemM.join {O cs0 : Nat → Int32} {c c1 c2 w : Nat} {x : Int32} {V1 V2 : Int32 → Int32 → Int32 → Int32 → Int32} (hw : w < 7) (hx : cs0 c1 = x) (hx2 : x = 26 ∨ x = 27) (h12 : c1 + 1 ≤ c2) (s1 : SemM cs0 c c1 w w (PrExpr O w) (PoExpr w) V1) (s2 : SemM cs0 (c1 + 1) c2 w w (PrTest O w) (PoTest w) V2) : SemM cs0 c c2 w w (PrExpr O w) (PoExpr w) (fun b o k s => if x = 26 then (if V1 b o k s = 0 then 0 else if V2 b o k s = 0 then 0 else 1) else (if V1 b o k s = 0 then (if V2 b o k s = 0 then 0 else 1) else 1)) := by
  intro cs e vs σ τ hE hP
  obtain ⟨ok1, τ1, k1, a1, a2, a3⟩ := s1 cs (fun i hi => e i (by omega)) vs σ τ hE hP
  have ex : cs c1 = x := (e c1 (by omega)).trans hx
  have k2 : mkN vs cs σ (c1 + 1) = (w, am_up2 (mte τ1 w) 1 w x) := by
    rw [mkN_s, k1, ex]
    rcases hx2 with h | h <;> subst h <;> rfl
  obtain ⟨m3, m4, m5, m7, m8⟩ := mte_r τ1 w
  have mz := mte_0 τ1 w
  rw [a3] at mz
  generalize hv : V1 (vs 1) (vs 2) (vs 3) (vs 4) = v at mz
  have b2 : ∀ r i, i < w → am_up2 (mte τ1 w) 1 w x r i = τ r i := fun r i hi => by
    rw [up2_o _ _ (Or.inr (by omega)), mte_b (by omega), a1 r i hi]
  have c0 : am_up2 (mte τ1 w) 1 w x 0 w = v := by rw [up2_o _ _ (Or.inl (by decide)), mz]
  have cx : am_up2 (mte τ1 w) 1 w x 1 w = x := up2_at _ _ _ _
  have c3 : am_up2 (mte τ1 w) 1 w x 3 w = 0 := by rw [up2_o _ _ (Or.inl (by decide)), m3]
  have c4 : am_up2 (mte τ1 w) 1 w x 4 w = 0 := by rw [up2_o _ _ (Or.inl (by decide)), m4]
  have c5 : am_up2 (mte τ1 w) 1 w x 5 w = 20 := by rw [up2_o _ _ (Or.inl (by decide)), m5]
  have c7 : am_up2 (mte τ1 w) 1 w x 7 w = 0 := by rw [up2_o _ _ (Or.inl (by decide)), m7]
  have c8 : am_up2 (mte τ1 w) 1 w x 8 w = τ 8 w := by rw [up2_o _ _ (Or.inl (by decide)), m8, a2]
  generalize am_up2 (mte τ1 w) 1 w x = ρ at k2 b2 c0 cx c3 c4 c5 c7 c8
  obtain ⟨ok2, τ2, k3, d1, d2, d3⟩ := s2 cs e vs σ ρ k2 ⟨hP.1.bel b2 c8, c3, c4, c5, c7⟩
  refine ⟨ok_join ok1 ?_ ok2, τ2, k3, fun r i hi => (d1 r i hi).trans (b2 r i hi), (d2 8 (by omega)).trans c8, ?_⟩
  · rw [k1, ex]
    exact ⟨hw, mok_o (by rcases hx2 with h | h <;> subst h <;> decide) w⟩
  · rw [d3]
    unfold mtk
    rw [msu_r (by decide) (by decide), msu_r (by decide) (by decide), d2 1 (by omega), d2 0 (by omega), c0, cx]
    dsimp only
    rw [hv]
    rcases hx2 with h | h
    · subst h
      rw [if_pos rfl, if_pos rfl]
    · subst h
      have z : ¬ (27 : Int32) = 26 := by decide
      rw [if_neg z, if_pos rfl, if_neg z]
