/-! The steps that leave the heap alone: what a stretch of the small machine is for the machine. -/
def am_lvl (E : AE) : Nat → LV → List (Nat × Value)
  | _, [] => []
  | k, none :: t => am_lvl E (k + 1) t
  | k, some v :: t => (k, eg E v) :: am_lvl E (k + 1) t
theorem am_lvl_mem {E : AE} {q : Nat × Value} : ∀ {k : Nat} {lv : LV}, q ∈ am_lvl E k lv ↔ ∃ (j : Nat) (v : Value), lv[j]? = some (some v) ∧ q = (k + j, eg E v)
  | k, [] => by
    constructor
    · intro h; cases h
    · intro ⟨j, v, h, _⟩; cases h
  | k, none :: t => by
    show q ∈ am_lvl E (k + 1) t ↔ _
    rw [am_lvl_mem (k := k + 1) (lv := t)]
    constructor
    · intro ⟨j, v, h1, h2⟩
      exact ⟨j + 1, v, h1, by rw [h2]; congr 1; omega⟩
    · intro ⟨j, v, h1, h2⟩
      cases j with
      | zero => cases h1
      | succ j => exact ⟨j, v, h1, by rw [h2]; congr 1; omega⟩
  | k, some w :: t => by
    show q ∈ (k, eg E w) :: am_lvl E (k + 1) t ↔ _
    rw [List.mem_cons, am_lvl_mem (k := k + 1) (lv := t)]
    constructor
    · rintro (h | ⟨j, v, h1, h2⟩)
      · exact ⟨0, w, rfl, h⟩
      · exact ⟨j + 1, v, h1, by rw [h2]; congr 1; omega⟩
    · intro ⟨j, v, h1, h2⟩
      cases j with
      | zero => cases h1; exact Or.inl h2
      | succ j => exact Or.inr ⟨j, v, h1, by rw [h2]; congr 1; omega⟩
theorem am_lv_at {E : AE} {ls : Array Slot} {n : Nat} {lv : LV} (h : lv_has ls n (am_lvl E 0 lv)) {i : Nat} {v : Value} (hv : lv[i]? = some (some v)) : ls[i]? = some (.val (eg E v)) :=
  h.2.2 (i, eg E v) (am_lvl_mem.mpr ⟨i, v, hv, by rw [Nat.zero_add]⟩)
theorem eg_cat (E : AE) (v : Value) : (eg E v).category = v.category := by
  cases v with
  | ref n => unfold eg; dsimp only; split <;> rfl
  | _ => rfl
theorem am_stN_spec : ∀ (lv : LV) (i : Nat) (v : Option Value) (f : LV → Option Res) (r : Res), am_stN lv i v f = some r → ∃ lv1 : LV, f lv1 = some r ∧ lv1.length = lv.length ∧ i < lv.length ∧ lv1[i]? = some v ∧ ∀ (j : Nat), j ≠ i → lv1[j]? = lv[j]?
  | [], _, _, _, _, h => by cases h
  | x :: t, 0, v, f, r, h => ⟨v :: t, h, rfl, Nat.succ_pos _, rfl, fun j hj => by
    cases j with
    | zero => exact absurd rfl hj
    | succ j => rfl⟩
  | x :: t, i + 1, v, f, r, h => by
    obtain ⟨l1, h1, h2, h3, h4, h5⟩ := am_stN_spec t i v (fun t1 => f (x :: t1)) r h
    refine ⟨x :: l1, h1, by simp [h2], Nat.succ_lt_succ h3, h4, fun j hj => ?_⟩
    cases j with
    | zero => rfl
    | succ j => exact h5 j (fun e => hj (by omega))
theorem am_st1_spec : ∀ (lv : LV) (i : Nat) (v : Option Value) (f : LV → Option Res) (r : Res), am_st1 lv i v f = some r → ∃ lv1 : LV, f lv1 = some r ∧ lv1.length = lv.length ∧ i < lv.length ∧ lv1[i]? = some v ∧ ∀ (j : Nat) (x : Value), j ≠ i → lv1[j]? = some (some x) → lv[j]? = some (some x) ∧ ¬ (j + 1 = i ∧ x.category = 2)
  | [], _, _, _, _, h => by cases h
  | x :: t, 0, v, f, r, h => ⟨v :: t, h, rfl, Nat.succ_pos _, rfl, fun j y hj hy => by
    cases j with
    | zero => exact absurd rfl hj
    | succ j => exact ⟨hy, fun q => by omega⟩⟩
  | [_], _ + 1, _, _, _, h => by cases h
  | x :: z :: t, 1, v, f, r, h => by
    have aux : ∀ w : Option Value, (∀ y, w = some y → x = some y ∧ y.category ≠ 2) → f (w :: v :: t) = some r → ∃ lv1 : LV, f lv1 = some r ∧ lv1.length = (x :: z :: t).length ∧ 1 < (x :: z :: t).length ∧ lv1[1]? = some v ∧ ∀ (j : Nat) (y : Value), j ≠ 1 → lv1[j]? = some (some y) → (x :: z :: t)[j]? = some (some y) ∧ ¬ (j + 1 = 1 ∧ y.category = 2) := by
      intro w hw hf
      refine ⟨w :: v :: t, hf, rfl, by simp, rfl, fun j y hj hy => ?_⟩
      match j, hj, hy with
      | 0, _, hy =>
        obtain ⟨h1, h2⟩ := hw y (Option.some.inj hy)
        exact ⟨by rw [h1]; rfl, fun q => h2 q.2⟩
      | 1, hj, _ => exact absurd rfl hj
      | j + 2, _, hy => exact ⟨hy, fun q => by omega⟩
    unfold am_st1 at h
    split at h
    · exact aux none (fun y e => by cases e) h
    · cases h
    · exact aux _ (fun y e => by cases e; exact ⟨rfl, by decide⟩) h
    · exact aux _ (fun y e => by cases e; exact ⟨rfl, by decide⟩) h
    · rename_i hn1 hn2 _ _
      refine aux x (fun y e => ⟨e, fun q => ?_⟩) h
      cases y with
      | long b => exact hn1 b e
      | double b => exact hn2 b e
      | _ => cases q
  | x :: y :: t, i + 2, v, f, r, h => by
    obtain ⟨l1, h1, h2, h3, h4, h5⟩ := am_st1_spec (y :: t) (i + 1) v (fun t1 => f (x :: t1)) r h
    refine ⟨x :: l1, h1, by simp [h2], Nat.succ_lt_succ h3, h4, fun j w hj hw => ?_⟩
    cases j with
    | zero => exact ⟨hw, fun q => by omega⟩
    | succ j =>
      obtain ⟨g1, g2⟩ := h5 j w (fun e => hj (by omega)) hw
      exact ⟨g1, fun q => g2 ⟨by omega, q.2⟩⟩
