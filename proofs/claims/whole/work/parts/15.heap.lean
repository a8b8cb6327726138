/-! The steps that read or write the heap. -/
def am_tys (E : AE) : List (ClassId × FieldType) := [(E.2.2.2.1 50, .int), (E.2.2.2.1 51, .char), (E.2.2.2.1 52, .boolean), (E.2.2.2.1 53, .long), (E.2.2.2.1 54, .object "ThirstHours$State"), (E.2.2.2.1 55, .object "ThirstHours$Store")]
/-- the words' own row, and the script -/
def am_KA (E : AE) (U : State) : Prop := ArrOfT U (E.2.2.2.1 56) (.object "ThirstHours$Word") ∧ ArrOfT U (E.2.2.2.1 57) .int
section HEAP
variable {p : Program} {l : Launch} {e : Env} {R : Room} {s : State} {m : MethodId} {args : Array Value} {below : List Frame} {meth : Method} {c : Code} {Q : State → Prop} {E : AE} {n0 : Nat} {cc : ByteArray} {lv : LV} {st r : List Value} {h : AH} {pc : Nat}
theorem am_fs {E : AE} {h : AH} {ci a N k : Nat} (hk : k < N) : ((List.range N).map fun k => eg E (am_fv h ci k a))[k]? = some (eg E (am_fv h ci k a)) := by
  rw [List.getElem?_map, List.getElem?_range hk]; rfl
theorem am_one {E : AE} {h : AH} {ci a : Nat} {H : Heap} {q : vw_C} (hq : am_cls[ci]? = some q) (ho : am_ob E h a ci H) : va_P E.2.2.1 am_cls [(ea E a, .inr (ci, (List.range q.2.2).map fun k => eg E (am_fv h ci k a)))] H := by
  intro k x hx
  have hz : k < 1 := (List.getElem?_eq_some_iff.mp hx).1
  have h0 : k = 0 := by omega
  subst h0
  cases hx
  obtain ⟨q1, g1, g2⟩ := ho
  cases hq.symm.trans g1
  refine ⟨q, hq, g2.to (fun j hj => ?_)⟩
  unfold vp_V
  rw [List.getD_eq_getElem?_getD, am_fs hj]
  rfl
theorem aw_get (hx : p.tables.exec = Jvm.exec) (hb : c.code = cc) {own : String} {TB : List Cond} (hts : ∀ w ∈ TB, w.before args s = true) (hown : s.vm.findClass own = some m.cls) (hKK : va_K E.2.2.1 am_cls (am_tys E) s)
    {ci k : Nat} {C : String} {T : u_T} {N : Nat} (hc : am_cls[ci]? = some (C, T, N)) (hin : ∀ w ∈ u_ws C T N, w ∈ TB) (hk : k < N) {idx : Nat} (hlink : Cond.fieldLink own idx (T k).1 (T k).2.1 (T k).2.2.1 ∈ TB) (hd : decode cc pc = .ok (.getfield idx, 3))
    {a : Nat} (hka : hK h a = ci + 1) (h13 : ci < 13) (h10 : ci ≠ 10) (kk : am_W p l e R s m args below meth c Q E n0 (pc + 3) lv (am_fv h ci k a :: r) h) : am_W p l e R s m args below meth c Q E n0 pc lv (.ref a :: r) h := by
  intro H locs ls hR hl hn hL hN
  have w := kk H locs ls hR hl hn hL hN
  have he := (hR.live (a := a) (by omega)).2
  show W p l e R s m args below meth c H locs _ _ Q (F0 m pc ls (eg E (.ref a) :: r.map (eg E)))
  rw [he]
  exact va_get (D := E.2.2.1) (cl := am_cls) (tys := am_tys E) (v := eg E (am_fv h ci k a)) hx hb hts hin hown hKK (am_one hc (hR.2.2.1 a ci hka h13 h10)) 0 rfl hc k hk (hts _ hlink) (fun _ h9 => h9) (am_fs hk) hd w
/-- a value that a field of this type takes as it is -/
def am_fit (ty : FieldType) (v : Value) : Prop := narrow ty v = v ∧ fits ty v = true
theorem aw_put (hx : p.tables.exec = Jvm.exec) (hb : c.code = cc) {own : String} {TB : List Cond} (hts : ∀ w ∈ TB, w.before args s = true) (hown : s.vm.findClass own = some m.cls) (hKK : va_K E.2.2.1 am_cls (am_tys E) s)
    {ci k : Nat} {C : String} {T : u_T} {N : Nat} (hc : am_cls[ci]? = some (C, T, N)) (hin : ∀ w ∈ u_ws C T N, w ∈ TB) (ty0 : Nat → FieldType) (hty : ∀ k, k < N → parseFieldDescriptor (T k).2.2.1 = some (ty0 k)) (hnm : ∀ a, a < N → ∀ b, b < N → a ≠ b → (T a).2.1 ≠ (T b).2.1)
    (hk : k < N) {idx : Nat} (hlink : Cond.fieldLink own idx (T k).1 (T k).2.1 (T k).2.2.1 ∈ TB) (hd : decode cc pc = .ok (.putfield idx, 3)) (hfin : (T k).2.2.2 = false ∨ (meth.name = "<init>" ∧ (T k).1 = own))
    {a : Nat} (hka : hK h a = ci + 1) (h13 : ci < 13) (h10 : ci ≠ 10) {v : Value} (hfit : am_fit (ty0 k) (eg E v)) {h1 : AH}
    (e1 : hK h1 = hK h) (e2 : hNX h1 = hNX h) (e3 : hLN h1 = hLN h) (ef : ∀ b, b ≠ a → (∀ ci k, am_fv h1 ci k b = am_fv h ci k b) ∧ ∀ kd j, am_el h1 kd b j = am_el h kd b j) (ew : ∀ b, b ≠ a → hFJ h1 1000 b = hFJ h 1000 b ∧ hFI h1 1001 b = hFI h 1001 b)
    (ev : ∀ j, am_fv h1 ci j a = if j = k then v else am_fv h ci j a) (kk : am_W p l e R s m args below meth c Q E n0 (pc + 3) lv r h1) : am_W p l e R s m args below meth c Q E n0 pc lv (v :: .ref a :: r) h := by
  intro H locs ls hR hl hn hL hN
  obtain ⟨n1, n2, n3⟩ := am_nst hka h13 h10
  have he := (hR.live (a := a) n1).2
  obtain ⟨d1, d2⟩ := hR.dyn n1 n2
  have hap := va_apart (own := own) hts hin ty0 hty hnm hKK hc
  obtain ⟨q, hq, cell, q1, q2, q3, q4⟩ := hR.2.2.1 a ci hka h13 h10
  cases hc.symm.trans hq
  obtain ⟨hS, hfc, kC, hkC, hkind⟩ := hKK.1 ci _ hc
  obtain ⟨cf, kf, fi, f, hi, hsl⟩ := hS k hk
  have hlay := hts _ (hin _ (u_in_lay hk))
  have hst := (u_facts hfc hkC (u_lays hts hin hk) hi).1
  have fin : ∀ H1 : Heap, H1[ea E a]? = some (cell.setSlot f.slot (eg E v)) → H1.size = H.size → (∀ x, x ≠ ea E a → H1[x]? = H[x]?) → W p l e R s m args below meth c H1 (locs ++ [⟨ea E a, f.slot⟩]) (hNX h - n0) (2048 * (hNX h - n0)) Q (F0 m (pc + 3) ls (r.map (eg E))) := by
    intro H1 g1 g2 g3
    rw [hsl] at g1
    have hR1 : am_Rel E h1 H1 := hR.fld hka h13 h10 hc e1 e2 e3 ef ew ev g2 g3 ⟨_, g1, q2, q3, t_set q4 hap hk (eg E v)⟩
    have w := kk H1 (locs ++ [⟨ea E a, f.slot⟩]) ls hR1 hl hn (fun x hx => by
      rcases List.mem_append.mp hx with hx | hx
      · exact hL x hx
      · rw [List.mem_singleton] at hx
        rw [hx]
        show E.1 ≤ ea E a
        rw [d2]; exact Nat.le_add_right _ _) (by rw [e2]; exact hN)
    rw [e2] at w
    exact w
  show W p l e R s m args below meth c H locs _ _ Q (F0 m pc ls (eg E v :: eg E (.ref a) :: r.map (eg E)))
  rw [he]
  have hlt : f.slot < cell.slots.size := by rw [hsl]; exact k2_hasslot (q4 k hk)
  by_cases hff : (T k).2.2.2 = false
  · unfold u_lay at hlay
    rw [if_neg (by rw [hff]; decide)] at hlay
    have h6 := u_store hfc hkC hkind hlay hi (hty k hk) hfit.1 hfit.2
    exact W.putK hx hb (f := f) ⟨hown, hts _ hlink, ⟨_, _, _, hi⟩, hst⟩ (by rw [q2]; exact h6) q1 q3 hlt rfl rfl hd fin
  · rcases hfin with hfin | ⟨hin2, hdecl⟩
    · exact absurd hfin hff
    · unfold u_lay at hlay
      rw [if_pos (by simpa using hff)] at hlay
      have hcf : m.cls = cf := by
        obtain ⟨_, _, c', _, _, _, -, -, hf', -, -, -, hown2, -⟩ := Cond.laysFinal_spec hlay
        have e1 : c' = cf := by have := hi.symm.trans hf'; simp at this; exact this.1.symm
        rw [hdecl] at hown2
        rw [← e1]; exact Option.some.inj (hown.symm.trans hown2)
      have h6 := u_fits hfc hkC hkind (Or.inr hlay) hi (hty k hk) hfit.1 hfit.2
      exact W.putFinK hx hb hown (hts _ hlink) hi hst hcf hin2 (by rw [q2]; exact h6) q1 q3 hlt rfl rfl hd fin
end HEAP
