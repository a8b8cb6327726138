/-! The steps that leave the heap alone: what a stretch of the small machine is for the machine. -/
def am_lvl (E : AE) : Nat → LV → List (Nat × Value)
  | _, [] => []
  | k, none :: t => am_lvl E (k + 1) t
  | k, some v :: t => (k, eg E v) :: am_lvl E (k + 1) t
theorem am_lvl_mem {E : AE} {q : Nat × Value} : ∀ {k : Nat} {lv : LV}, q ∈ am_lvl E k lv ↔ ∃ (j : Nat) (v : Value), lv[j]? = some (some v) ∧ q = (k + j, eg E v)
  | k, [] => by
    constructor
    · intro h; cases h
    · intro ⟨j, v, h, _⟩; cases h
  | k, none :: t => by
    show q ∈ am_lvl E (k + 1) t ↔ _
    rw [am_lvl_mem (k := k + 1) (lv := t)]
    constructor
    · intro ⟨j, v, h1, h2⟩
      exact ⟨j + 1, v, h1, by rw [h2]; congr 1; omega⟩
    · intro ⟨j, v, h1, h2⟩
      cases j with
      | zero => cases h1
      | succ j => exact ⟨j, v, h1, by rw [h2]; congr 1; omega⟩
  | k, some w :: t => by
    show q ∈ (k, eg E w) :: am_lvl E (k + 1) t ↔ _
    rw [List.mem_cons, am_lvl_mem (k := k + 1) (lv := t)]
    constructor
    · rintro (h | ⟨j, v, h1, h2⟩)
      · exact ⟨0, w, rfl, h⟩
      · exact ⟨j + 1, v, h1, by rw [h2]; congr 1; omega⟩
    · intro ⟨j, v, h1, h2⟩
      cases j with
      | zero => cases h1; exact Or.inl h2
      | succ j => exact Or.inr ⟨j, v, h1, by rw [h2]; congr 1; omega⟩
theorem am_lv_at {E : AE} {ls : Array Slot} {n : Nat} {lv : LV} (h : lv_has ls n (am_lvl E 0 lv)) {i : Nat} {v : Value} (hv : lv[i]? = some (some v)) : ls[i]? = some (.val (eg E v)) :=
  h.2.2 (i, eg E v) (am_lvl_mem.mpr ⟨i, v, hv, by rw [Nat.zero_add]⟩)
theorem eg_cat (E : AE) (v : Value) : (eg E v).category = v.category := by
  cases v with
  | ref n => unfold eg; dsimp only; split <;> rfl
  | _ => rfl
theorem am_stN_spec : ∀ (lv : LV) (i : Nat) (v : Option Value) (f : LV → Option Res) (r : Res), am_stN lv i v f = some r → ∃ lv1 : LV, f lv1 = some r ∧ lv1.length = lv.length ∧ i < lv.length ∧ lv1[i]? = some v ∧ ∀ (j : Nat), j ≠ i → lv1[j]? = lv[j]?
  | [], _, _, _, _, h => by cases h
  | x :: t, 0, v, f, r, h => ⟨v :: t, h, rfl, Nat.succ_pos _, rfl, fun j hj => by
    cases j with
    | zero => exact absurd rfl hj
    | succ j => rfl⟩
  | x :: t, i + 1, v, f, r, h => by
    obtain ⟨l1, h1, h2, h3, h4, h5⟩ := am_stN_spec t i v (fun t1 => f (x :: t1)) r h
    refine ⟨x :: l1, h1, by simp [h2], Nat.succ_lt_succ h3, h4, fun j hj => ?_⟩
    cases j with
    | zero => rfl
    | succ j => exact h5 j (fun e => hj (by omega))
theorem am_st1_spec : ∀ (lv : LV) (i : Nat) (v : Option Value) (f : LV → Option Res) (r : Res), am_st1 lv i v f = some r → ∃ lv1 : LV, f lv1 = some r ∧ lv1.length = lv.length ∧ i < lv.length ∧ lv1[i]? = some v ∧ ∀ (j : Nat) (x : Value), j ≠ i → lv1[j]? = some (some x) → lv[j]? = some (some x) ∧ ¬ (j + 1 = i ∧ x.category = 2)
  | [], _, _, _, _, h => by cases h
  | x :: t, 0, v, f, r, h => ⟨v :: t, h, rfl, Nat.succ_pos _, rfl, fun j y hj hy => by
    cases j with
    | zero => exact absurd rfl hj
    | succ j => exact ⟨hy, fun q => by omega⟩⟩
  | [_], _ + 1, _, _, _, h => by cases h
  | x :: z :: t, 1, v, f, r, h => by
    have aux : ∀ w : Option Value, (∀ y, w = some y → x = some y ∧ y.category ≠ 2) → f (w :: v :: t) = some r → ∃ lv1 : LV, f lv1 = some r ∧ lv1.length = (x :: z :: t).length ∧ 1 < (x :: z :: t).length ∧ lv1[1]? = some v ∧ ∀ (j : Nat) (y : Value), j ≠ 1 → lv1[j]? = some (some y) → (x :: z :: t)[j]? = some (some y) ∧ ¬ (j + 1 = 1 ∧ y.category = 2) := by
      intro w hw hf
      refine ⟨w :: v :: t, hf, rfl, by simp, rfl, fun j y hj hy => ?_⟩
      match j, hj, hy with
      | 0, _, hy =>
        obtain ⟨h1, h2⟩ := hw y (Option.some.inj hy)
        exact ⟨by rw [h1]; rfl, fun q => h2 q.2⟩
      | 1, hj, _ => exact absurd rfl hj
      | j + 2, _, hy => exact ⟨hy, fun q => by omega⟩
    unfold am_st1 at h
    split at h
    · exact aux none (fun y e => by cases e) h
    · cases h
    · exact aux _ (fun y e => by cases e; exact ⟨rfl, fun q => by cases q⟩) h
    · exact aux _ (fun y e => by cases e; exact ⟨rfl, fun q => by cases q⟩) h
    · rename_i hn1 hn2 _ _
      refine aux x (fun y e => ⟨e, fun q => ?_⟩) h
      cases y with
      | long b => exact hn1 b e
      | double b => exact hn2 b e
      | _ => cases q
  | x :: y :: t, i + 2, v, f, r, h => by
    obtain ⟨l1, h1, h2, h3, h4, h5⟩ := am_st1_spec (y :: t) (i + 1) v (fun t1 => f (x :: t1)) r h
    refine ⟨x :: l1, h1, by simp [h2], Nat.succ_lt_succ h3, h4, fun j w hj hw => ?_⟩
    cases j with
    | zero => exact ⟨hw, fun q => by omega⟩
    | succ j =>
      obtain ⟨g1, g2⟩ := h5 j w (fun e => hj (by omega)) hw
      exact ⟨g1, fun q => g2 ⟨by omega, q.2⟩⟩
theorem pI_inv {st : List Value} {f : Int32 → List Value → Option Res} {r : Res} (h : pI st f = some r) : ∃ x t, st = .int x :: t ∧ f x t = some r := by
  unfold pI am_id at h
  split at h
  · exact ⟨_, _, rfl, h⟩
  · cases h
theorem pJ_inv {st : List Value} {f : Int64 → List Value → Option Res} {r : Res} (h : pJ st f = some r) : ∃ x t, st = .long x :: t ∧ f x t = some r := by
  unfold pJ am_id at h
  split at h
  · exact ⟨_, _, rfl, h⟩
  · cases h
theorem pR_inv {st : List Value} {f : Nat → List Value → Option Res} {r : Res} (h : pR st f = some r) : ∃ x t, st = .ref x :: t ∧ f x t = some r := by
  unfold pR am_id at h
  split at h
  · exact ⟨_, _, rfl, h⟩
  · cases h
theorem ldI_inv {lv : LV} {i : Nat} {f : Int32 → Option Res} {r : Res} (h : ldI lv i f = some r) : ∃ x, lv[i]? = some (some (.int x)) ∧ f x = some r := by
  unfold ldI am_id at h
  split at h
  · rename_i h1; exact ⟨_, h1, h⟩
  · cases h
theorem ldJ_inv {lv : LV} {i : Nat} {f : Int64 → Option Res} {r : Res} (h : ldJ lv i f = some r) : ∃ x, lv[i]? = some (some (.long x)) ∧ f x = some r := by
  unfold ldJ am_id at h
  split at h
  · rename_i h1; exact ⟨_, h1, h⟩
  · cases h
theorem ldA_inv {lv : LV} {i : Nat} {f : Nat → Option Res} {r : Res} (h : ldA lv i f = some r) : ∃ x, lv[i]? = some (some (.ref x)) ∧ f x = some r := by
  unfold ldA am_id at h
  split at h
  · rename_i h1; exact ⟨_, h1, h⟩
  · cases h
theorem am_kd_inv {hh : AH} {a k : Nat} {x : Option Res} {r : Res} (h : am_kd hh a k x = some r) : hK hh a = k ∧ x = some r := by
  unfold am_kd at h
  split at h
  · rename_i h1; exact ⟨h1, h⟩
  · cases h
theorem am_in_inv {i : Int32} {n : Nat} {x : Option Res} {r : Res} (h : am_in i n x = some r) : vp_in i n ∧ x = some r := by
  unfold am_in at h
  split at h
  · cases h
  · rename_i h1; exact ⟨h1, h⟩
theorem bR_inv {o : Option Nat} {f : Nat → Option Res} {r : Res} (h : bR o f = some r) : ∃ a, o = some a ∧ f a = some r := by
  unfold bR at h
  split at h
  · exact ⟨_, rfl, h⟩
  · cases h
theorem am_dz_inv {b : Int32} {x : Option Res} {r : Res} (h : am_dz b x = some r) : ¬ b = 0 ∧ x = some r := by
  unfold am_dz at h
  split at h
  · cases h
  · rename_i h1; exact ⟨h1, h⟩
theorem am_dzJ_inv {b : Int64} {x : Option Res} {r : Res} (h : am_dzJ b x = some r) : ¬ b = 0 ∧ x = some r := by
  unfold am_dzJ at h
  split at h
  · cases h
  · rename_i h1; exact ⟨h1, h⟩
theorem am_nw_inv {b : Int32} {x : Option Res} {r : Res} (h : am_nw b x = some r) : ¬ b < 0 ∧ b.toNatClampNeg ≤ 2048 ∧ x = some r := by
  unfold am_nw at h
  split at h
  · cases h
  · rename_i h1; exact ⟨fun q => h1 (Or.inl q), Nat.le_of_not_lt fun q => h1 (Or.inr q), h⟩
theorem am_c1_inv {v : Value} {x : Option Res} {r : Res} (h : am_c1 v x = some r) : v.category = 1 ∧ x = some r := by
  unfold am_c1 am_id at h
  cases v <;> first | (cases h; done) | exact ⟨rfl, h⟩
section SND
variable {p : Program} {l : Launch} {e : Env} {R : Room} {s : State} {m : MethodId} {args : Array Value} {below : List Frame} {meth : Method} {c : Code} {Q : State → Prop} {E : AE} {n0 : Nat} {cc : ByteArray} {lv : LV} {st : List Value} {h : AH} {pc : Nat}
def am_W (p : Program) (l : Launch) (e : Env) (R : Room) (s : State) (m : MethodId) (args : Array Value) (below : List Frame) (meth : Method) (c : Code) (Q : State → Prop) (E : AE) (n0 pc : Nat) (lv : LV) (st : List Value) (h : AH) : Prop :=
  ∀ (H : Heap) (locs : List Loc) (ls : Array Slot), am_Rel E h H → lv_has ls c.maxLocals (am_lvl E 0 lv) → lv.length = c.maxLocals → (∀ q ∈ locs, E.1 ≤ q.base) → n0 ≤ hNX h →
    W p l e R s m args below meth c H locs (hNX h - n0) (2048 * (hNX h - n0)) Q (F0 m pc ls (st.map (eg E)))
theorem am_W.go {pc1 : Nat} {st1 : List Value} (hrow : ∀ (H : Heap) (locs : List Loc) (ls : Array Slot) (cells slots : Nat), lv_has ls c.maxLocals (am_lvl E 0 lv) → am_Rel E h H → W p l e R s m args below meth c H locs cells slots Q (F0 m pc1 ls (st1.map (eg E))) → W p l e R s m args below meth c H locs cells slots Q (F0 m pc ls (st.map (eg E))))
    (k : am_W p l e R s m args below meth c Q E n0 pc1 lv st1 h) : am_W p l e R s m args below meth c Q E n0 pc lv st h :=
  fun H locs ls hR hl hn hL hN => hrow H locs ls _ _ hl hR (k H locs ls hR hl hn hL hN)
theorem am_W.go2 {pc1 pc2 : Nat} {st1 st2 : List Value} {q : Prop} (hrow : ∀ (H : Heap) (locs : List Loc) (ls : Array Slot) (cells slots : Nat), (q → W p l e R s m args below meth c H locs cells slots Q (F0 m pc1 ls (st1.map (eg E)))) → (¬ q → W p l e R s m args below meth c H locs cells slots Q (F0 m pc2 ls (st2.map (eg E)))) → W p l e R s m args below meth c H locs cells slots Q (F0 m pc ls (st.map (eg E))))
    (k1 : q → am_W p l e R s m args below meth c Q E n0 pc1 lv st1 h) (k2 : ¬ q → am_W p l e R s m args below meth c Q E n0 pc2 lv st2 h) : am_W p l e R s m args below meth c Q E n0 pc lv st h :=
  fun H locs ls hR hl hn hL hN => hrow H locs ls _ _ (fun a => k1 a H locs ls hR hl hn hL hN) (fun a => k2 a H locs ls hR hl hn hL hN)
/-- a local gets a value of one word -/
theorem am_W.sto {pc1 i : Nat} {v : Value} {st1 : List Value} {lv1 : LV} (hv : v.category = 1)
    (hrow : ∀ (H : Heap) (locs : List Loc) (ls : Array Slot) (cells slots : Nat), lv_has ls c.maxLocals (am_lvl E 0 lv) → i < c.maxLocals → (∀ ls1, lv_has ls1 c.maxLocals ((i, eg E v) :: (am_lvl E 0 lv).filter (fun q => !(q.1 == i) && !(q.1 + 1 == i && q.2.category == 2))) → W p l e R s m args below meth c H locs cells slots Q (F0 m pc1 ls1 (st1.map (eg E)))) → W p l e R s m args below meth c H locs cells slots Q (F0 m pc ls (st.map (eg E))))
    (h1 : lv1.length = lv.length) (h2 : i < lv.length) (h3 : lv1[i]? = some (some v)) (h4 : ∀ (j : Nat) (x : Value), j ≠ i → lv1[j]? = some (some x) → lv[j]? = some (some x) ∧ ¬ (j + 1 = i ∧ x.category = 2))
    (k : am_W p l e R s m args below meth c Q E n0 pc1 lv1 st1 h) : am_W p l e R s m args below meth c Q E n0 pc lv st h := by
  intro H locs ls hR hl hn hL hN
  refine hrow H locs ls _ _ hl (by omega) fun ls1 hl1 => k H locs ls1 hR ⟨hl1.1, hl1.2.1, fun q hq => hl1.2.2 q ?_⟩ (by omega) hL hN
  obtain ⟨j, x, e1, rfl⟩ := am_lvl_mem.mp hq
  by_cases e2 : j = i
  · subst e2
    rw [h3] at e1
    cases e1
    rw [Nat.zero_add]
    exact List.mem_cons_self
  · obtain ⟨g1, g2⟩ := h4 j x e2 e1
    refine List.mem_cons_of_mem _ (List.mem_filter.mpr ⟨am_lvl_mem.mpr ⟨j, x, g1, rfl⟩, ?_⟩)
    simp only [eg_cat, Nat.zero_add, Bool.and_eq_true, Bool.not_eq_true', beq_eq_false_iff_ne, Bool.and_eq_false_iff]
    refine ⟨e2, ?_⟩
    by_cases e3 : j + 1 = i
    · exact Or.inr (fun e4 => g2 ⟨e3, e4⟩)
    · exact Or.inl e3
theorem am_W.sto2 {pc1 i : Nat} {v : Value} {st1 : List Value} {lv1 lv2 : LV} (hv : v.category = 2)
    (hrow : ∀ (H : Heap) (locs : List Loc) (ls : Array Slot) (cells slots : Nat), lv_has ls c.maxLocals (am_lvl E 0 lv) → i + 1 < c.maxLocals → (∀ ls1, lv_has ls1 c.maxLocals ((i, eg E v) :: (am_lvl E 0 lv).filter (fun q => !(q.1 == i) && (!(q.1 == i + 1) && !(q.1 + 1 == i && q.2.category == 2)))) → W p l e R s m args below meth c H locs cells slots Q (F0 m pc1 ls1 (st1.map (eg E)))) → W p l e R s m args below meth c H locs cells slots Q (F0 m pc ls (st.map (eg E))))
    (h1 : lv1.length = lv.length) (h3 : lv1[i]? = some (some v)) (h4 : ∀ (j : Nat) (x : Value), j ≠ i → lv1[j]? = some (some x) → lv[j]? = some (some x) ∧ ¬ (j + 1 = i ∧ x.category = 2))
    (g1 : lv2.length = lv1.length) (g2 : i + 1 < lv1.length) (g3 : lv2[i + 1]? = some none) (g4 : ∀ j, j ≠ i + 1 → lv2[j]? = lv1[j]?)
    (k : am_W p l e R s m args below meth c Q E n0 pc1 lv2 st1 h) : am_W p l e R s m args below meth c Q E n0 pc lv st h := by
  intro H locs ls hR hl hn hL hN
  refine hrow H locs ls _ _ hl (by omega) fun ls1 hl1 => k H locs ls1 hR ⟨hl1.1, hl1.2.1, fun q hq => hl1.2.2 q ?_⟩ (by omega) hL hN
  obtain ⟨j, x, e1, rfl⟩ := am_lvl_mem.mp hq
  by_cases e5 : j = i + 1
  · subst e5; rw [g3] at e1; cases e1
  rw [g4 j e5] at e1
  by_cases e2 : j = i
  · subst e2
    rw [h3] at e1
    cases e1
    rw [Nat.zero_add]
    exact List.mem_cons_self
  · obtain ⟨g1, g2⟩ := h4 j x e2 e1
    refine List.mem_cons_of_mem _ (List.mem_filter.mpr ⟨am_lvl_mem.mpr ⟨j, x, g1, rfl⟩, ?_⟩)
    simp only [eg_cat, Nat.zero_add, Bool.and_eq_true, Bool.not_eq_true', beq_eq_false_iff_ne, Bool.and_eq_false_iff]
    refine ⟨e2, e5, ?_⟩
    by_cases e3 : j + 1 = i
    · exact Or.inr (fun e4 => g2 ⟨e3, e4⟩)
    · exact Or.inl e3
end SND
