def am_tc : List (List Nat) := [[2, 2, 1], [2, 2, 2, 2, 0, 2, 2, 2, 0, 0, 2, 2, 2, 0, 0, 2, 2], [0, 2, 2, 2, 2], [0, 2, 2, 0, 2, 2], [2, 0, 2], [2, 0, 0, 0, 0, 0, 2, 2, 2, 2, 2, 2, 2, 2, 2, 2, 2, 2, 2, 2], [2, 2, 2, 0, 4, 0], [0, 2, 2, 2, 2, 2, 2, 2, 2], [2, 2, 2], [2, 0, 0, 0, 0, 1, 3, 5, 0], [1, 4], [2, 2, 2, 2, 2, 2, 2, 2, 2, 0, 0, 2, 2, 2], [0, 0, 2, 0, 0, 0, 0, 1, 0, 0, 2, 2, 2, 2, 2, 2, 2, 2, 2, 2, 2, 2, 2, 2, 2, 2, 2, 2, 2, 2, 2, 2, 2, 0, 2, 2, 2, 2, 2, 2, 2, 2, 2, 2, 2, 2, 0, 2, 2, 2, 2, 2, 2, 2, 2, 2, 2, 2, 2, 2, 2, 2, 2, 2, 0, 0, 0, 0, 0, 2, 2, 2, 2, 0, 0, 2, 2, 2, 2, 0, 0, 1]]
def am_cls : List vw_C := [(RX0, TX0, 3), (RX1, TX1, 17), (RX2, TX2, 5), (RX3, TX3, 6), (RX4, TX4, 3), (RX5, TX5, 20), (RX6, TX6, 6), (RX7, TX7, 9), (RX8, TX8, 3), (RX9, TX9, 9), (RX9, TX9, 0), (RX11, TX11, 14), (RX12, TX12, 82)]
def w_spl : List Int64 := [8740067, 456690, 16819, 1841546, 47, 4555648, 5878, 380989, 232608281, 464141, 79, 168984, 316351, 161156, 555, 291420470, 326448, 91904, 204, 10494723, 8740238, 11263, 262775, 3074, 10631, 1111, 423, 40613, 6257, 223456, 10266413]
def w_kpl : List Int32 := [1, 1, 1, 1, 1, 1, 1, 1, 1, 1, 1, 1, 1, 1, 1, 1, 1, 1, 1, 1, 1, 1, 1, 1, 1, 1, 1, 0, 0, 0, 0]
/-! What the small machine's heap says of the machine's. -/
/-- where the new cells begin, where the old things lie, the classes' numbers and slots, the array classes, the heap at the start -/
abbrev AE : Type := Nat × (Nat → Nat) × va_G × (Nat → ClassId) × Heap
def ea (E : AE) (a : Nat) : Nat := if a < 1000000 then E.1 + a else E.2.1 (a - 1000000)
def eg (E : AE) (v : Value) : Value := match v with
  | .ref n => if n = nul then .null else .ref (ea E n)
  | v => v
def am_tyc (ci k : Nat) : Nat := (am_tc.getD ci []).getD k 0
def am_fv (h : AH) (ci k a : Nat) : Value := match am_tyc ci k with
  | 1 => .long (hFJ h (100 * ci + k) a)
  | 2 => .ref ((hFR h (100 * ci + k) a).getD nul)
  | 3 => .ref ((hFR h (100 * ci + k) a).getD nul)
  | _ => .int (hFI h (100 * ci + k) a)
def am_el (h : AH) (kd a j : Nat) : Value := match kd with
  | 53 => .long (hAJ h a j)
  | 54 => .ref ((hAR h a j).getD nul)
  | 55 => .ref ((hAR h a j).getD nul)
  | 56 => .ref ((hAR h a j).getD nul)
  | _ => .int (hAI h a j)
def w_sp (k : Nat) : Int64 := w_spl.getD k 0
def w_kp (k : Nat) : Int32 := w_kpl.getD k 0
def am_ob (E : AE) (h : AH) (a ci : Nat) (H : Heap) : Prop := ∃ q : vw_C, am_cls[ci]? = some q ∧ t_OB (ea E a) (E.2.2.1.1 ci) q.2.2 (E.2.2.1.2 ci) H (fun k => eg E (am_fv h ci k a))
def am_stt (kd : Nat) : Prop := kd = 11 ∨ kd = 56 ∨ kd = 57
/-- a row as it may lie there; ours have no mark of the machine's -/
def am_av (v : Cell) (n : Nat) (f : Nat → Value) : Cell := { v with slots := Array.ofFn (n := n) fun j => f j.val }
def am_vok (E : AE) (kd : Nat) (v : Cell) : Prop := v = { cls := E.2.2.2.1 kd, slots := #[] } ∨ (am_stt kd ∧ v.cls = E.2.2.2.1 kd ∧ v.vm ≠ .unknown ∧ ∀ k, v.vm ≠ .statics k)
def am_ar (E : AE) (h : AH) (a kd : Nat) (H : Heap) : Prop := ∃ v : Cell, am_vok E kd v ∧ H[ea E a]? = some (am_av v (hLN h a) (fun j => eg E (am_el h kd a j)))
def am_Rel (E : AE) (h : AH) (H : Heap) : Prop :=
  H.size = E.1 + hNX h ∧ (∀ q, q < E.1 → H[q]? = E.2.2.2.2[q]?) ∧
  (∀ a ci, hK h a = ci + 1 → ci < 13 → ci ≠ 10 → am_ob E h a ci H) ∧ (∀ a, 50 ≤ hK h a → am_ar E h a (hK h a) H) ∧
  (∀ a, hK h a ≠ 0 → (a < hNX h ∧ ¬ am_stt (hK h a)) ∨ (1000000 ≤ a ∧ a < nul ∧ am_stt (hK h a) ∧ E.2.1 (a - 1000000) < E.1)) ∧
  hNX h ≤ 1000000 ∧ (∀ a, hLN h a ≤ 4096) ∧ ∀ a, hK h a = 11 → 1000000 ≤ a ∧ a < 1000031 ∧ hFJ h 1000 a = w_sp (a - 1000000) ∧ hFI h 1001 a = w_kp (a - 1000000)
theorem am_Rel.at0 {E : AE} {h : AH} {H : Heap} (R : am_Rel E h H) {a : Nat} (h50 : 50 ≤ hK h a) (hns : ¬ am_stt (hK h a)) : H[ea E a]? = some (arrV (E.2.2.2.1 (hK h a)) (hLN h a) (fun j => eg E (am_el h (hK h a) a j))) := by
  obtain ⟨v, hv, g⟩ := R.2.2.2.1 a h50
  rcases hv with rfl | hv
  · exact g
  · exact absurd hv.1 hns
theorem am_Rel.dyn {E : AE} {h : AH} {H : Heap} (R : am_Rel E h H) {a : Nat} (hk : hK h a ≠ 0) (hs : ¬ am_stt (hK h a)) : a < hNX h ∧ ea E a = E.1 + a := by
  obtain ⟨-, -, -, -, hd, hb, -, -⟩ := R
  rcases hd a hk with ⟨h1, -⟩ | ⟨-, -, h2, -⟩
  · refine ⟨h1, ?_⟩
    unfold ea
    rw [if_pos (by omega)]
  · exact absurd h2 hs
theorem am_Rel.apart {E : AE} {h : AH} {H : Heap} (R : am_Rel E h H) {a b : Nat} (hk : hK h a ≠ 0) (hs : ¬ am_stt (hK h a)) (hb : hK h b ≠ 0) (hne : b ≠ a) : ea E b ≠ ea E a := by
  obtain ⟨ha1, ha2⟩ := R.dyn hk hs
  obtain ⟨-, -, -, -, hd, hbd, -, -⟩ := R
  rw [ha2]
  unfold ea
  rcases hd b hb with ⟨h1, -⟩ | ⟨h1, -, -, h2⟩
  · rw [if_pos (by omega)]; omega
  · rw [if_neg (by omega)]; omega
theorem am_Rel.live {E : AE} {h : AH} {H : Heap} (R : am_Rel E h H) {a : Nat} (hk : hK h a ≠ 0) : a ≠ nul ∧ eg E (.ref a) = .ref (ea E a) := by
  obtain ⟨-, -, -, -, hd, hbd, -, -⟩ := R
  have hn : a ≠ nul := by
    rcases hd a hk with ⟨h1, -⟩ | ⟨-, h1, -, -⟩
    · unfold nul; omega
    · exact Nat.ne_of_lt h1
  exact ⟨hn, by show (if a = nul then Value.null else Value.ref (ea E a)) = _; rw [if_neg hn]⟩
theorem am_Rel.chg {E : AE} {h h1 : AH} {H H1 : Heap} {a : Nat} (R : am_Rel E h H) (hk : hK h1 = hK h) (hn : hNX h1 = hNX h) (hl : hLN h1 = hLN h) (hka : hK h a ≠ 0) (hst : ¬ am_stt (hK h a))
    (hf : ∀ b, b ≠ a → (∀ ci k, am_fv h1 ci k b = am_fv h ci k b) ∧ ∀ kd j, am_el h1 kd b j = am_el h kd b j) (hw : ∀ b, b ≠ a → hFJ h1 1000 b = hFJ h 1000 b ∧ hFI h1 1001 b = hFI h 1001 b)
    (hz : H1.size = H.size) (ho : ∀ q, q ≠ ea E a → H1[q]? = H[q]?) (hob : ∀ ci, hK h a = ci + 1 → ci < 13 → ci ≠ 10 → am_ob E h1 a ci H1) (har : 50 ≤ hK h a → am_ar E h1 a (hK h a) H1) : am_Rel E h1 H1 := by
  have hap := fun b hb hne => R.apart (b := b) hka hst hb hne
  obtain ⟨hd1, hd2⟩ := R.dyn hka hst
  obtain ⟨r1, r2, r3, r4, r5, r6, r7, r8⟩ := R
  refine ⟨by rw [hz, hn]; exact r1, fun q hq => ?_, fun b ci hb h13 h10 => ?_, fun b hb => ?_, ?_, by rw [hn]; exact r6, by rw [hl]; exact r7, fun b hb => ?_⟩
  · rw [ho q (by rw [hd2]; omega)]; exact r2 q hq
  · rw [hk] at hb
    by_cases e : b = a
    · subst e; exact hob ci hb h13 h10
    · obtain ⟨q, g1, g2⟩ := r3 b ci hb h13 h10
      exact ⟨q, g1, (g2.kept (ho _ (hap b (by omega) e))).to (fun k _ => by rw [(hf b e).1])⟩
  · rw [hk] at hb ⊢
    by_cases e : b = a
    · subst e; exact har hb
    · obtain ⟨v, hv, g⟩ := r4 b hb
      refine ⟨v, hv, ?_⟩
      rw [ho _ (hap b (by omega) e), hl, g]
      congr 2
      funext j
      rw [(hf b e).2]
  · rw [hk, hn]; exact r5
  · rw [hk] at hb
    have e : b ≠ a := fun e => hst (by rw [← e, hb]; exact Or.inl rfl)
    rw [(hw b e).1, (hw b e).2]
    exact r8 b hb
theorem am_nst {h : AH} {a ci : Nat} (hka : hK h a = ci + 1) (h13 : ci < 13) (h10 : ci ≠ 10) : hK h a ≠ 0 ∧ ¬ am_stt (hK h a) ∧ ¬ 50 ≤ hK h a := by
  unfold am_stt; omega
theorem am_fvI {h : AH} {ci k a : Nat} {v : Int32} (ht : am_tyc ci k ≠ 1 ∧ am_tyc ci k ≠ 2 ∧ am_tyc ci k ≠ 3) (j : Nat) : am_fv (sFI h (100 * ci + k) a v) ci j a = if j = k then .int v else am_fv h ci j a := by
  by_cases e : j = k
  · subst e
    rw [if_pos rfl]
    unfold am_fv
    split
    · rename_i h1; exact absurd h1 ht.1
    · rename_i h1; exact absurd h1 ht.2.1
    · rename_i h1; exact absurd h1 ht.2.2
    · show Value.int (if 100 * ci + j = 100 * ci + j ∧ a = a then v else _) = _
      rw [if_pos ⟨rfl, rfl⟩]
  · rw [if_neg e]
    unfold am_fv
    split
    · rfl
    · rfl
    · rfl
    · show Value.int (if 100 * ci + j = 100 * ci + k ∧ a = a then v else _) = _
      rw [if_neg (fun q => e (by omega))]
theorem am_fvJ {h : AH} {ci k a : Nat} {v : Int64} (ht : am_tyc ci k = 1) (j : Nat) : am_fv (sFJ h (100 * ci + k) a v) ci j a = if j = k then .long v else am_fv h ci j a := by
  by_cases e : j = k
  · subst e
    rw [if_pos rfl]
    unfold am_fv
    rw [ht]
    show Value.long (if 100 * ci + j = 100 * ci + j ∧ a = a then v else _) = _
    rw [if_pos ⟨rfl, rfl⟩]
  · rw [if_neg e]
    unfold am_fv
    split
    · show Value.long (if 100 * ci + j = 100 * ci + k ∧ a = a then v else _) = _
      rw [if_neg (fun q => e (by omega))]
    · rfl
    · rfl
    · rfl
theorem am_fvR {h : AH} {ci k a : Nat} {v : Option Nat} (ht : am_tyc ci k = 2 ∨ am_tyc ci k = 3) (j : Nat) : am_fv (sFR h (100 * ci + k) a v) ci j a = if j = k then .ref (v.getD nul) else am_fv h ci j a := by
  have hq : ∀ x : Nat, (am_up2 (hFR h) (100 * ci + k) a v) (100 * ci + x) a = if x = k then v else hFR h (100 * ci + x) a := by
    intro x
    unfold am_up2
    by_cases e : x = k
    · rw [if_pos ⟨by omega, rfl⟩, if_pos e]
    · rw [if_neg (fun q => e (by omega)), if_neg e]
  by_cases e : j = k
  · subst e
    rw [if_pos rfl]
    unfold am_fv
    rcases ht with ht | ht <;> rw [ht]
    · show Value.ref (((am_up2 (hFR h) (100 * ci + j) a v) (100 * ci + j) a).getD nul) = _
      rw [hq, if_pos rfl]
    · show Value.ref (((am_up2 (hFR h) (100 * ci + j) a v) (100 * ci + j) a).getD nul) = _
      rw [hq, if_pos rfl]
  · rw [if_neg e]
    unfold am_fv
    split
    · rfl
    · show Value.ref (((am_up2 (hFR h) (100 * ci + k) a v) (100 * ci + j) a).getD nul) = _
      rw [hq, if_neg e]
    · show Value.ref (((am_up2 (hFR h) (100 * ci + k) a v) (100 * ci + j) a).getD nul) = _
      rw [hq, if_neg e]
    · rfl
/-- a field gets a value: the same picture in the machine -/
theorem am_Rel.fld {E : AE} {h h1 : AH} {H H1 : Heap} {a ci k : Nat} {q : vw_C} {w : Value} (R : am_Rel E h H) (hka : hK h a = ci + 1) (h13 : ci < 13) (h10 : ci ≠ 10) (hq : am_cls[ci]? = some q)
    (e1 : hK h1 = hK h) (e2 : hNX h1 = hNX h) (e3 : hLN h1 = hLN h) (ef : ∀ b, b ≠ a → (∀ ci k, am_fv h1 ci k b = am_fv h ci k b) ∧ ∀ kd j, am_el h1 kd b j = am_el h kd b j) (ew : ∀ b, b ≠ a → hFJ h1 1000 b = hFJ h 1000 b ∧ hFI h1 1001 b = hFI h 1001 b)
    (ev : ∀ j, am_fv h1 ci j a = if j = k then w else am_fv h ci j a) (hz : H1.size = H.size) (ho : ∀ x, x ≠ ea E a → H1[x]? = H[x]?)
    (hob : t_OB (ea E a) (E.2.2.1.1 ci) q.2.2 (E.2.2.1.2 ci) H1 (updV (fun k => eg E (am_fv h ci k a)) k (eg E w))) : am_Rel E h1 H1 := by
  obtain ⟨n1, n2, n3⟩ := am_nst hka h13 h10
  refine R.chg e1 e2 e3 n1 n2 ef ew hz ho (fun ci' h5 _ _ => ?_) (fun h5 => absurd h5 n3)
  have : ci' = ci := by omega
  subst this
  refine ⟨q, hq, hob.to (fun j _ => ?_)⟩
  rw [ev]
  unfold updV
  by_cases e : j = k
  · rw [if_pos e, if_pos e]
  · rw [if_neg e, if_neg e]
theorem am_up2_ne {α : Type} {f : Nat → Nat → α} {k a : Nat} {v : α} {j b : Nat} (h : b ≠ a) : am_up2 f k a v j b = f j b := by
  unfold am_up2
  rw [if_neg (fun q => h q.2)]
theorem am_up_ne {α : Type} {f : Nat → α} {a : Nat} {v : α} {b : Nat} (h : b ≠ a) : am_up f a v b = f b := by
  unfold am_up
  rw [if_neg h]
theorem am_up_eq {α : Type} {f : Nat → α} {a : Nat} {v : α} : am_up f a v a = v := by
  unfold am_up
  rw [if_pos rfl]
theorem sFI_off {h : AH} {k a : Nat} {v : Int32} : (∀ b, b ≠ a → (∀ ci j, am_fv (sFI h k a v) ci j b = am_fv h ci j b) ∧ ∀ kd j, am_el (sFI h k a v) kd b j = am_el h kd b j) ∧ ∀ b, b ≠ a → hFJ (sFI h k a v) 1000 b = hFJ h 1000 b ∧ hFI (sFI h k a v) 1001 b = hFI h 1001 b := by
  refine ⟨fun b hb => ⟨fun ci j => ?_, fun kd j => rfl⟩, fun b hb => ⟨rfl, am_up2_ne hb⟩⟩
  unfold am_fv
  split <;> first | rfl | (show Value.int (am_up2 (hFI h) k a v _ b) = _; rw [am_up2_ne hb])
theorem sFJ_off {h : AH} {k a : Nat} {v : Int64} : (∀ b, b ≠ a → (∀ ci j, am_fv (sFJ h k a v) ci j b = am_fv h ci j b) ∧ ∀ kd j, am_el (sFJ h k a v) kd b j = am_el h kd b j) ∧ ∀ b, b ≠ a → hFJ (sFJ h k a v) 1000 b = hFJ h 1000 b ∧ hFI (sFJ h k a v) 1001 b = hFI h 1001 b := by
  refine ⟨fun b hb => ⟨fun ci j => ?_, fun kd j => rfl⟩, fun b hb => ⟨am_up2_ne hb, rfl⟩⟩
  unfold am_fv
  split <;> first | rfl | (show Value.long (am_up2 (hFJ h) k a v _ b) = _; rw [am_up2_ne hb])
theorem sFR_off {h : AH} {k a : Nat} {v : Option Nat} : (∀ b, b ≠ a → (∀ ci j, am_fv (sFR h k a v) ci j b = am_fv h ci j b) ∧ ∀ kd j, am_el (sFR h k a v) kd b j = am_el h kd b j) ∧ ∀ b, b ≠ a → hFJ (sFR h k a v) 1000 b = hFJ h 1000 b ∧ hFI (sFR h k a v) 1001 b = hFI h 1001 b := by
  refine ⟨fun b hb => ⟨fun ci j => ?_, fun kd j => rfl⟩, fun b hb => ⟨rfl, rfl⟩⟩
  unfold am_fv
  split <;> first | rfl | (show Value.ref ((am_up2 (hFR h) k a v _ b).getD nul) = _; rw [am_up2_ne hb])
/-- a row gets other contents -/
theorem am_Rel.row {E : AE} {h h1 : AH} {H H1 : Heap} {a : Nat} (R : am_Rel E h H) (h50 : 50 ≤ hK h a) (hst : ¬ am_stt (hK h a)) (e1 : hK h1 = hK h) (e2 : hNX h1 = hNX h) (e3 : hLN h1 = hLN h)
    (ef : ∀ ci k b, am_fv h1 ci k b = am_fv h ci k b) (eg1 : ∀ b, b ≠ a → ∀ kd j, am_el h1 kd b j = am_el h kd b j) (ew : ∀ b, hFJ h1 1000 b = hFJ h 1000 b ∧ hFI h1 1001 b = hFI h 1001 b)
    (hz : H1.size = H.size) (ho : ∀ x, x ≠ ea E a → H1[x]? = H[x]?) (hc : H1[ea E a]? = some (arrV (E.2.2.2.1 (hK h a)) (hLN h a) (fun j => eg E (am_el h1 (hK h a) a j)))) : am_Rel E h1 H1 := by
  refine R.chg e1 e2 e3 (by omega) hst (fun b hb => ⟨fun ci k => ef ci k b, eg1 b hb⟩) (fun b _ => ew b) hz ho (fun ci h5 h13 _ => by omega) (fun _ => ?_)
  refine ⟨_, Or.inl rfl, ?_⟩
  rw [e3]
  exact hc
/-- a new object -/
theorem am_Rel.nob {E : AE} {h : AH} {H H1 : Heap} {ci : Nat} {q : vw_C} (R : am_Rel E h H) (h13 : ci < 13) (h10 : ci ≠ 10) (hq : am_cls[ci]? = some q) (hb : hNX h + 1 ≤ 1000000) (hz : H1.size = H.size + 1) (ho : ∀ x, x < H.size → H1[x]? = H[x]?)
    (hob : t_OB (E.1 + hNX h) (E.2.2.1.1 ci) q.2.2 (E.2.2.1.2 ci) H1 (fun k => eg E (am_fv (nObj h (ci + 1)) ci k (hNX h)))) : am_Rel E (nObj h (ci + 1)) H1 := by
  obtain ⟨r1, r2, r3, r4, r5, r6, r7, r8⟩ := R
  have hn : hK h (hNX h) = 0 := by
    by_cases e : hK h (hNX h) = 0
    · exact e
    · rcases r5 _ e with ⟨g, -⟩ | ⟨g, -⟩ <;> omega
  have hk : ∀ b, b ≠ hNX h → hK (nObj h (ci + 1)) b = hK h b := fun b e => am_up_ne e
  have hk0 : hK (nObj h (ci + 1)) (hNX h) = ci + 1 := am_up_eq
  have hea : ∀ b, hK h b ≠ 0 → ea E b < H.size := by
    intro b e
    unfold ea
    rcases r5 b e with ⟨g, -⟩ | ⟨g, -, -, g2⟩
    · rw [if_pos (by omega)]; omega
    · rw [if_neg (by omega)]; omega
  have hfv : ∀ b, b ≠ hNX h → ∀ c k, am_fv (nObj h (ci + 1)) c k b = am_fv h c k b := by
    intro b e c k
    unfold am_fv
    split
    · show Value.long (if b = hNX h then 0 else _) = _
      rw [if_neg e]
    · show Value.ref ((if b = hNX h then none else _ : Option Nat).getD nul) = _
      rw [if_neg e]
    · show Value.ref ((if b = hNX h then none else _ : Option Nat).getD nul) = _
      rw [if_neg e]
    · show Value.int (if b = hNX h then 0 else _) = _
      rw [if_neg e]
  refine ⟨by rw [hz, r1]; show _ = _ + (hNX h + 1); omega, fun x hx => by rw [ho x (by omega)]; exact r2 x hx, fun b c hb1 hc13 hc10 => ?_, fun b hb1 => ?_, fun b hb1 => ?_, hb, r7, fun b hb1 => ?_⟩
  · by_cases e : b = hNX h
    · subst e
      rw [hk0] at hb1
      have : c = ci := by omega
      subst this
      refine ⟨q, hq, ?_⟩
      rw [show ea E (hNX h) = E.1 + hNX h by unfold ea; rw [if_pos (by omega)]]
      exact hob
    · rw [hk b e] at hb1
      obtain ⟨q1, g1, g2⟩ := r3 b c hb1 hc13 hc10
      exact ⟨q1, g1, (g2.kept (ho _ (hea b (by omega)))).to (fun k _ => by rw [hfv b e])⟩
  · by_cases e : b = hNX h
    · subst e; rw [hk0] at hb1; omega
    · rw [hk b e] at hb1 ⊢
      obtain ⟨v, hv, g⟩ := r4 b hb1
      refine ⟨v, hv, ?_⟩
      rw [ho _ (hea b (by omega))]
      exact g
  · by_cases e : b = hNX h
    · subst e
      refine Or.inl ⟨Nat.lt_succ_self _, ?_⟩
      rw [hk0]
      unfold am_stt; omega
    · rw [hk b e] at hb1 ⊢
      rcases r5 b hb1 with ⟨g, g2⟩ | g
      · exact Or.inl ⟨Nat.lt_succ_of_lt g, g2⟩
      · exact Or.inr g
  · by_cases e : b = hNX h
    · subst e; rw [hk0] at hb1; omega
    · rw [hk b e] at hb1
      have g := r8 b hb1
      refine ⟨g.1, g.2.1, ?_, ?_⟩
      · show (if b = hNX h then 0 else _) = _
        rw [if_neg e]; exact g.2.2.1
      · show (if b = hNX h then 0 else _) = _
        rw [if_neg e]; exact g.2.2.2
/-- a new row -/
theorem am_Rel.nar {E : AE} {h : AH} {H H1 : Heap} {kd n : Nat} (R : am_Rel E h H) (h50 : 50 ≤ kd) (hst : ¬ am_stt kd) (hb : hNX h + 1 ≤ 1000000) (hn4 : n ≤ 4096) (hz : H1.size = H.size + 1) (ho : ∀ x, x < H.size → H1[x]? = H[x]?)
    (hc : H1[E.1 + hNX h]? = some (arrV (E.2.2.2.1 kd) n (fun j => eg E (am_el (nArr h kd n) kd (hNX h) j)))) : am_Rel E (nArr h kd n) H1 := by
  obtain ⟨r1, r2, r3, r4, r5, r6, r7, r8⟩ := R
  have hn : hK h (hNX h) = 0 := by
    by_cases e : hK h (hNX h) = 0
    · exact e
    · rcases r5 _ e with ⟨g, -⟩ | ⟨g, -⟩ <;> omega
  have hk : ∀ b, b ≠ hNX h → hK (nArr h kd n) b = hK h b := fun b e => am_up_ne e
  have hk0 : hK (nArr h kd n) (hNX h) = kd := am_up_eq
  have hl : ∀ b, b ≠ hNX h → hLN (nArr h kd n) b = hLN h b := fun b e => am_up_ne e
  have hl0 : hLN (nArr h kd n) (hNX h) = n := am_up_eq
  have hea : ∀ b, hK h b ≠ 0 → ea E b < H.size := by
    intro b e
    unfold ea
    rcases r5 b e with ⟨g, -⟩ | ⟨g, -, -, g2⟩
    · rw [if_pos (by omega)]; omega
    · rw [if_neg (by omega)]; omega
  have hel : ∀ b, b ≠ hNX h → ∀ k j, am_el (nArr h kd n) k b j = am_el h k b j := by
    intro b e k j
    unfold am_el
    split
    · show Value.long (am_up (hAJ h) (hNX h) _ b j) = _
      rw [am_up_ne e]
    · show Value.ref ((am_up (hAR h) (hNX h) _ b j).getD nul) = _
      rw [am_up_ne e]
    · show Value.ref ((am_up (hAR h) (hNX h) _ b j).getD nul) = _
      rw [am_up_ne e]
    · show Value.ref ((am_up (hAR h) (hNX h) _ b j).getD nul) = _
      rw [am_up_ne e]
    · show Value.int (am_up (hAI h) (hNX h) _ b j) = _
      rw [am_up_ne e]
  refine ⟨by rw [hz, r1]; show _ = _ + (hNX h + 1); omega, fun x hx => by rw [ho x (by omega)]; exact r2 x hx, fun b c hb1 hc13 hc10 => ?_, fun b hb1 => ?_, fun b hb1 => ?_, hb, fun b => ?_, fun b hb1 => ?_⟩
  · by_cases e : b = hNX h
    · subst e; rw [hk0] at hb1; omega
    · rw [hk b e] at hb1
      obtain ⟨q1, g1, g2⟩ := r3 b c hb1 hc13 hc10
      exact ⟨q1, g1, g2.kept (ho _ (hea b (by omega)))⟩
  · by_cases e : b = hNX h
    · subst e
      rw [hk0]
      refine ⟨_, Or.inl rfl, ?_⟩
      rw [show ea E (hNX h) = E.1 + hNX h by unfold ea; rw [if_pos (by omega)], hl0]
      exact hc
    · rw [hk b e] at hb1 ⊢
      obtain ⟨v, hv, g⟩ := r4 b hb1
      refine ⟨v, hv, ?_⟩
      rw [ho _ (hea b (by omega)), hl b e, g]
      congr 2
      funext j
      rw [hel b e]
  · by_cases e : b = hNX h
    · subst e
      refine Or.inl ⟨Nat.lt_succ_self _, ?_⟩
      rw [hk0]
      exact hst
    · rw [hk b e] at hb1 ⊢
      rcases r5 b hb1 with ⟨g, g2⟩ | g
      · exact Or.inl ⟨Nat.lt_succ_of_lt g, g2⟩
      · exact Or.inr g
  · by_cases e : b = hNX h
    · subst e; rw [hl0]; exact hn4
    · rw [hl b e]; exact r7 b
  · by_cases e : b = hNX h
    · subst e; rw [hk0] at hb1; omega
    · rw [hk b e] at hb1
      exact r8 b hb1
