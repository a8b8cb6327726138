/-! The reader: what the codes of a law are worth, on both sides. -/
/-- the class's codes from l to l' push V on a stack of at most m -/
def SemC (cs0 : Nat → Int32) (l l' m : Nat) (V : Int32 → Int32 → Int32 → Int32 → Int32) : Prop := ∀ cs : Nat → Int32, (∀ i, i < l' → cs i = cs0 i) → ∀ b o k s f t F, t ≤ m → evN b o k s cs f l = (t, F) → ∃ F', evN b o k s cs f l' = (t + 1, F') ∧ (∀ i, i < t → F' i = F i) ∧ F' t = V b o k s
theorem SemC.mono {cs0 cs1 : Nat → Int32} {l l' m : Nat} {V : Int32 → Int32 → Int32 → Int32 → Int32} (e : ∀ i, i < l' → cs1 i = cs0 i) (s : SemC cs0 l l' m V) : SemC cs1 l l' m V := fun cs h => s cs (fun i hi => (h i hi).trans (e i hi))
theorem evN_s (b o k s : Int32) (cs f : Nat → Int32) (n : Nat) : evN b o k s cs f (n + 1) = ev1 b o k s (cs n) (evN b o k s cs f n) := rfl
theorem SemC.plain {cs0 : Nat → Int32} {l m : Nat} {c : Int32} (hc : cs0 l = c) (h : ¬ c < -4) (hm : m < 32) : SemC cs0 l (l + 1) m (fun b o k s => ev0 b o k s c) := by
  intro cs e b o k s f t F ht hE
  refine ⟨upd F t (ev0 b o k s c), ?_, fun i hi => pk_un (by omega), pk_us⟩
  rw [evN_s, hE, e l (by omega), hc]
  unfold ev1
  rw [if_neg h]
  dsimp only
  rw [if_pos (show t < 32 by omega)]
theorem SemC.not {cs0 : Nat → Int32} {l l' m : Nat} {V : Int32 → Int32 → Int32 → Int32 → Int32} (hc : cs0 l' = -5) (s : SemC cs0 l l' m V) : SemC cs0 l (l' + 1) m (fun b o k s => if V b o k s = 0 then 1 else 0) := by
  intro cs e b o k s' f t F ht hE
  obtain ⟨F', e1, e2, e3⟩ := s cs (fun i hi => e i (by omega)) b o k s' f t F ht hE
  refine ⟨upd F' t (if V b o k s' = 0 then 1 else 0), ?_, fun i hi => (pk_un (by omega)).trans (e2 i hi), pk_us⟩
  rw [evN_s, e1, e l' (by omega), hc]
  unfold ev1
  dsimp only
  rw [if_pos (by decide), if_pos rfl, if_neg (by omega), Nat.add_sub_cancel]
  simp only [e3]
theorem SemC.bin {cs0 : Nat → Int32} {l l1 l2 m : Nat} {c : Int32} {V1 V2 : Int32 → Int32 → Int32 → Int32 → Int32} (hc : cs0 l2 = c) (h : c < -5) (h12 : l1 ≤ l2) (s1 : SemC cs0 l l1 m V1) (s2 : SemC cs0 l1 l2 (m + 1) V2) : SemC cs0 l (l2 + 1) m (fun b o k s => jn c (V1 b o k s) (V2 b o k s)) := by
  intro cs e b o k s' f t F ht hE
  obtain ⟨F1, e1, e2, e3⟩ := s1 cs (fun i hi => e i (by omega)) b o k s' f t F ht hE
  obtain ⟨F2, g1, g2, g3⟩ := s2 cs (fun i hi => e i (by omega)) b o k s' f (t + 1) F1 (by omega) e1
  refine ⟨upd F2 t (jn c (V1 b o k s') (V2 b o k s')), ?_, fun i hi => (pk_un (by omega)).trans ((g2 i (by omega)).trans (e2 i hi)), pk_us⟩
  have c4 : c < -4 := by
    rw [Int32.lt_iff_toInt_lt] at h ⊢
    have a1 : Int32.toInt (-5) = -5 := rfl
    have a2 : Int32.toInt (-4) = -4 := rfl
    omega
  have c5 : ¬ c = -5 := fun z => by rw [z] at h; exact absurd h (by decide)
  rw [evN_s, g1, e l2 (by omega), hc]
  unfold ev1
  dsimp only
  rw [if_pos c4, if_neg c5, if_neg (by omega), show t + 1 + 1 - 1 = t + 1 by omega, show t + 1 + 1 - 2 = t by omega, g3, g2 t (by omega), e3]
/-- levels: which of them a not has opened -/
def MO (O : Nat → Int32) (w : Nat) (τ : Nat → Nat → Int32) : Prop := ∀ i, 1 ≤ i → i ≤ w → (τ 8 i = 1 ↔ O i = 1)
/-- the level that is left when the nots from w down are closed -/
def drp (O : Nat → Int32) : Nat → Nat
  | 0 => 0
  | w + 1 => if O (w + 1) = 1 then drp O w else w + 1
theorem drp_le (O : Nat → Int32) : ∀ w, drp O w ≤ w
  | 0 => Nat.le_refl _
  | w + 1 => by
    unfold drp
    split
    · exact Nat.le_succ_of_le (drp_le O w)
    · exact Nat.le_refl _
theorem drp_congr {O O' : Nat → Int32} : ∀ w, (∀ i, 1 ≤ i → i ≤ w → O' i = O i) → drp O' w = drp O w
  | 0, _ => rfl
  | w + 1, h => by
    unfold drp
    rw [h (w + 1) (by omega) (by omega), drp_congr w (fun i h1 h2 => h i h1 (by omega))]
/-- a level in which a not does not stand -/
def Opn (O : Nat → Int32) (w : Nat) : Prop := w = 0 ∨ O w ≠ 1
theorem drp_opn {O : Nat → Int32} {w : Nat} (h : Opn O w) : drp O w = w := by
  rcases w with _ | w
  · rfl
  · unfold drp
    rw [if_neg (h.resolve_left (by omega))]
theorem mpop_drp {O : Nat → Int32} {τ : Nat → Nat → Int32} : ∀ (w : Nat) (v : Int32), MO O w τ → (mpop τ w v).1 = drp O w
  | 0, v, _ => rfl
  | w + 1, v, h => by
    unfold mpop drp
    by_cases c : O (w + 1) = 1
    · rw [if_pos c, if_pos ((h (w + 1) (by omega) (by omega)).2 c)]
      exact mpop_drp w _ (fun i h1 h2 => h i h1 (by omega))
    · rw [if_neg c, if_neg (fun z => c ((h (w + 1) (by omega) (by omega)).1 z))]
theorem mpop_opn {O : Nat → Int32} {τ : Nat → Nat → Int32} {w : Nat} {v : Int32} (m : MO O w τ) (h : Opn O w) : mpop τ w v = (w, v) := by
  rcases w with _ | w
  · rfl
  · unfold mpop
    rw [if_neg (fun z => h.resolve_left (by omega) ((m (w + 1) (by omega) (by omega)).1 z))]
theorem mpop_congr {σ τ : Nat → Nat → Int32} : ∀ (w : Nat) (v : Int32), (∀ i, i ≤ w → σ 8 i = τ 8 i) → mpop σ w v = mpop τ w v
  | 0, _, _ => rfl
  | w + 1, v, h => by
    unfold mpop
    rw [h (w + 1) (Nat.le_refl _), mpop_congr w _ (fun i hi => h i (by omega))]
/-- the model's codes from c to c', from level w to level w' -/
def SemM (cs0 : Nat → Int32) (c c' w w' : Nat) (Pre : (Nat → Nat → Int32) → Prop) (Post : (Nat → Nat → Int32) → (Nat → Nat → Int32) → Int32 → Prop) (V : Int32 → Int32 → Int32 → Int32 → Int32) : Prop :=
  ∀ cs : Nat → Int32, (∀ i, i < c' → cs i = cs0 i) → ∀ (vs : Nat → Int32) (σ τ : Nat → Nat → Int32), mkN vs cs σ c = (w, τ) → Pre τ → (∀ i, c ≤ i → i < c' → (mkN vs cs σ i).1 < 7 ∧ mok1 (cs i) (mkN vs cs σ i).1) ∧ ∃ τ', mkN vs cs σ c' = (w', τ') ∧ Post τ τ' (V (vs 1) (vs 2) (vs 3) (vs 4))
theorem SemM.mono {cs0 cs1 : Nat → Int32} {c c' w w' : Nat} {Pre : (Nat → Nat → Int32) → Prop} {Post : (Nat → Nat → Int32) → (Nat → Nat → Int32) → Int32 → Prop} {V : Int32 → Int32 → Int32 → Int32 → Int32} (e : ∀ i, i < c' → cs1 i = cs0 i) (s : SemM cs0 c c' w w' Pre Post V) : SemM cs1 c c' w w' Pre Post V := fun cs h => s cs (fun i hi => (h i hi).trans (e i hi))
theorem mkN_s (vs cs : Nat → Int32) (σ : Nat → Nat → Int32) (n : Nat) : mkN vs cs σ (n + 1) = mk1 vs (cs n) (mkN vs cs σ n) := rfl
def PoPart (w : Nat) (τ τ' : Nat → Nat → Int32) (v : Int32) : Prop := ∀ r i, i ≤ w → τ' r i = mtm τ (mpop τ w v) r i
def Bel (w : Nat) (τ τ' : Nat → Nat → Int32) : Prop := ∀ r i, i < w → τ' r i = τ r i
def PrProd (O : Nat → Int32) (w : Nat) (τ : Nat → Nat → Int32) : Prop := MO O w τ ∧ τ 7 w = 0
def PoProd (w : Nat) (τ τ' : Nat → Nat → Int32) (v : Int32) : Prop := Bel w τ τ' ∧ (∀ r, r ≤ 5 ∨ r = 8 → τ' r w = τ r w) ∧ τ' 6 w = v
def PrSum (O : Nat → Int32) (w : Nat) (τ : Nat → Nat → Int32) : Prop := MO O w τ ∧ τ 4 w = 0 ∧ τ 5 w = 20 ∧ τ 7 w = 0
def PoSum (w : Nat) (τ τ' : Nat → Nat → Int32) (v : Int32) : Prop := Bel w τ τ' ∧ (∀ r, r ≤ 3 ∨ r = 8 → τ' r w = τ r w) ∧ (if τ' 5 w = 21 then τ' 4 w - τ' 6 w else τ' 4 w + τ' 6 w) = v
def PrTest (O : Nat → Int32) (w : Nat) (τ : Nat → Nat → Int32) : Prop := MO O w τ ∧ τ 3 w = 0 ∧ τ 4 w = 0 ∧ τ 5 w = 20 ∧ τ 7 w = 0
def PoTest (w : Nat) (τ τ' : Nat → Nat → Int32) (v : Int32) : Prop := Bel w τ τ' ∧ (∀ r, r ≤ 1 ∨ r = 8 → τ' r w = τ r w) ∧ mtv (msu τ' w) w = v
def PrExpr (O : Nat → Int32) (w : Nat) (τ : Nat → Nat → Int32) : Prop := MO O w τ ∧ τ 1 w = 0 ∧ τ 3 w = 0 ∧ τ 4 w = 0 ∧ τ 5 w = 20 ∧ τ 7 w = 0
def PoExpr (w : Nat) (τ τ' : Nat → Nat → Int32) (v : Int32) : Prop := Bel w τ τ' ∧ τ' 8 w = τ 8 w ∧ mtk (msu τ' w) w (mtv (msu τ' w) w) = v
theorem MO.bel {O : Nat → Int32} {w : Nat} {τ τ' : Nat → Nat → Int32} (m : MO O w τ) (b : Bel w τ τ') (e : τ' 8 w = τ 8 w) : MO O w τ' := fun i h1 h2 => by
  by_cases c : i = w
  · subst c
    rw [e]; exact m i h1 h2
  · rw [b 8 i (by omega)]; exact m i h1 h2
theorem up2_at (σ : Nat → Nat → Int32) (k a : Nat) (v : Int32) : am_up2 σ k a v k a = v := if_pos ⟨rfl, rfl⟩
theorem up2_o (σ : Nat → Nat → Int32) {k a j b : Nat} (v : Int32) (h : j ≠ k ∨ b ≠ a) : am_up2 σ k a v j b = σ j b := if_neg (by omega)
theorem msu_r {τ : Nat → Nat → Int32} {w r : Nat} (h : r ≠ 4) (h7 : r ≠ 7) : msu τ w r w = τ r w := by
  unfold msu
  rw [up2_o _ _ (Or.inl h7), up2_o _ _ (Or.inl h)]
theorem msu_4 (τ : Nat → Nat → Int32) (w : Nat) : msu τ w 4 w = if τ 5 w = 21 then τ 4 w - τ 6 w else τ 4 w + τ 6 w := by
  unfold msu
  rw [up2_o _ _ (Or.inl (by decide)), up2_at]
theorem msu_7 (τ : Nat → Nat → Int32) (w : Nat) : msu τ w 7 w = 0 := by
  unfold msu
  rw [up2_at]
theorem msu_b {τ : Nat → Nat → Int32} {w r i : Nat} (h : i ≠ w) : msu τ w r i = τ r i := by
  unfold msu
  rw [up2_o _ _ (Or.inr h), up2_o _ _ (Or.inr h)]
theorem mte_b {τ : Nat → Nat → Int32} {w r i : Nat} (h : i ≠ w) : mte τ w r i = τ r i := by
  unfold mte
  rw [up2_o _ _ (Or.inr h), up2_o _ _ (Or.inr h), up2_o _ _ (Or.inr h), up2_o _ _ (Or.inr h), msu_b h]
theorem mte_0 (τ : Nat → Nat → Int32) (w : Nat) : mte τ w 0 w = mtk (msu τ w) w (mtv (msu τ w) w) := by
  unfold mte
  rw [up2_o _ _ (Or.inl (by decide)), up2_o _ _ (Or.inl (by decide)), up2_o _ _ (Or.inl (by decide)), up2_at]
theorem mte_r (τ : Nat → Nat → Int32) (w : Nat) : mte τ w 3 w = 0 ∧ mte τ w 4 w = 0 ∧ mte τ w 5 w = 20 ∧ mte τ w 7 w = 0 ∧ mte τ w 8 w = τ 8 w := by
  unfold mte
  refine ⟨?_, ?_, ?_, ?_, ?_⟩
  · rw [up2_o _ _ (Or.inl (by decide)), up2_o _ _ (Or.inl (by decide)), up2_at]
  · rw [up2_o _ _ (Or.inl (by decide)), up2_at]
  · rw [up2_at]
  · rw [up2_o _ _ (Or.inl (by decide)), up2_o _ _ (Or.inl (by decide)), up2_o _ _ (Or.inl (by decide)), up2_o _ _ (Or.inl (by decide)), msu_7]
  · rw [up2_o _ _ (Or.inl (by decide)), up2_o _ _ (Or.inl (by decide)), up2_o _ _ (Or.inl (by decide)), up2_o _ _ (Or.inl (by decide)), msu_r (by decide) (by decide)]
/-- a code that stands for itself -/
def Pln (c : Int32) : Prop := c = 1 ∨ c = 2 ∨ c = 3 ∨ c = 4 ∨ ¬ c < 100
theorem Pln.mk {c : Int32} (h : Pln c) (vs : Nat → Int32) (q : Nat × (Nat → Nat → Int32)) : mk1 vs c q = ((mpop q.2 q.1 (mval vs c)).1, mtm q.2 (mpop q.2 q.1 (mval vs c))) ∧ ∀ d, mok1 c d := by
  have hn : c ≠ 28 ∧ c ≠ 30 ∧ c ≠ 20 ∧ c ≠ 21 ∧ c ≠ 22 ∧ c ≠ 24 ∧ c ≠ 25 ∧ c ≠ 26 ∧ c ≠ 27 ∧ c ≠ 29 := by
    refine ⟨?_, ?_, ?_, ?_, ?_, ?_, ?_, ?_, ?_, ?_⟩
    all_goals
      intro z
      subst z
      rcases h with h | h | h | h | h
      · exact absurd h (by decide)
      · exact absurd h (by decide)
      · exact absurd h (by decide)
      · exact absurd h (by decide)
      · exact h (by decide)
  obtain ⟨n1, n2, n3, n4, n5, n6, n7, n8, n9, n10⟩ := hn
  refine ⟨?_, fun d => ⟨fun z => absurd z (by rintro (z | z) <;> contradiction), fun z => absurd z n10, fun z => ?_⟩⟩
  · unfold mk1
    rw [if_neg n1, if_neg n2, if_neg (by rintro (z | z) <;> contradiction), if_neg n5, if_neg (by rintro (z | z) <;> contradiction), if_neg (by rintro (z | z) <;> contradiction), if_neg n10]
  · rcases h with h | h | h | h | h
    · subst h; exact vp_in_nI (n := 1) (N := 20) (by decide) (by decide)
    · subst h; exact vp_in_nI (n := 2) (N := 20) (by decide) (by decide)
    · subst h; exact vp_in_nI (n := 3) (N := 20) (by decide) (by decide)
    · subst h; exact vp_in_nI (n := 4) (N := 20) (by decide) (by decide)
    · refine absurd ?_ h
      rw [Int32.lt_iff_toInt_lt] at z ⊢
      have a1 : Int32.toInt 20 = 20 := rfl
      have a2 : Int32.toInt 100 = 100 := rfl
      omega
theorem SemM.plain {O cs0 : Nat → Int32} {c w : Nat} {x : Int32} (hx : cs0 c = x) (h : Pln x) (hw : w < 7) : SemM cs0 c (c + 1) w (drp O w) (MO O w) (PoPart w) (fun b o k s => mval (fun i => if i = 1 then b else if i = 2 then o else if i = 3 then k else s) x) := by
  intro cs e vs σ τ hE hP
  have ex : cs c = x := (e c (by omega)).trans hx
  have ev : mval (fun i => if i = 1 then vs 1 else if i = 2 then vs 2 else if i = 3 then vs 3 else vs 4) x = mval vs x := by
    unfold mval
    rcases h with h | h | h | h | h
    · subst h; rfl
    · subst h; rfl
    · subst h; rfl
    · subst h; rfl
    · rw [if_neg h, if_neg h]
  obtain ⟨p1, p2⟩ := h.mk vs (w, τ)
  refine ⟨fun i h1 h2 => ?_, mtm τ (mpop τ w (mval vs x)), ?_, ?_⟩
  · have : i = c := by omega
    subst this
    rw [hE, ex]
    exact ⟨hw, p2 w⟩
  · rw [mkN_s, hE, ex, p1]
    dsimp only
    rw [mpop_drp w _ hP]
  · show PoPart w τ _ (mval (fun i => if i = 1 then vs 1 else if i = 2 then vs 2 else if i = 3 then vs 3 else vs 4) x)
    rw [ev]
    exact fun r i _ => rfl
theorem mok_o {c : Int32} (h : c = 20 ∨ c = 21 ∨ c = 22 ∨ c = 24 ∨ c = 25 ∨ c = 26 ∨ c = 27) (d : Nat) : mok1 c d := by
  rcases h with h | h | h | h | h | h | h <;> subst h <;> exact ⟨fun z => absurd z (by decide), fun z => absurd z (by decide), fun z => absurd z (by decide)⟩
theorem mok_28 {c : Int32} {d : Nat} (h : c = 28 ∨ c = 30) (hd : d < 6) : mok1 c d := by
  rcases h with h | h <;> subst h <;> exact ⟨fun _ => hd, fun z => absurd z (by decide), fun z => absurd z (by decide)⟩
theorem mok_29 {d : Nat} (hd : 0 < d) : mok1 29 d := ⟨fun z => absurd z (by decide), fun _ => hd, fun z => absurd z (by decide)⟩
/-- two stretches, a code between them -/
theorem ok_join {P : Nat → Prop} {c c1 c2 : Nat} (h1 : ∀ i, c ≤ i → i < c1 → P i) (h : P c1) (h2 : ∀ i, c1 + 1 ≤ i → i < c2 → P i) : ∀ i, c ≤ i → i < c2 → P i := fun i hi hj => by
  by_cases e1 : i < c1
  · exact h1 i hi e1
  · by_cases e2 : i = c1
    · rw [e2]; exact h
    · exact h2 i (by omega) hj
