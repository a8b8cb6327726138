/-! Copies of stretches of rows of ints. -/
section COPY
variable {p : Program} {l : Launch} {e : Env} {R : Room} {s : State} {m : MethodId} {args : Array Value} {below : List Frame} {meth : Method} {c : Code} {Q : State → Prop} {E : AE} {n0 : Nat} {cc : ByteArray} {lv : LV} {st r : List Value} {h : AH} {pc : Nat}
theorem aw_nn {z : Int32} (hz : ¬ z < 0) : z.toInt = (z.toNatClampNeg : Int) := by
  have hz0 : (0 : Int) ≤ z.toInt := by
    have := Int32.not_lt.mp hz
    simpa using Int32.le_iff_toInt_le.mp this
  show z.toInt = ((z.toInt.toNat : Nat) : Int)
  omega
theorem am_cpy_eq (f g : Nat → Int32) (sp dp n : Nat) : am_cpy f g sp dp n = va_cpy f g sp dp n := rfl
theorem aw_copy (hx : p.tables.exec = Jvm.exec) (hb : c.code = cc) {own : String} {TB : List Cond} (hts : ∀ w ∈ TB, w.before args s = true) (hown : s.vm.findClass own = some m.cls) (hKK : va_K E.2.2.1 am_cls (am_tys E) s) {idx : Nat}
    (hlink : Cond.methodLink own idx arraycopyName ∈ TB) (hnat : Cond.native arraycopyName ∈ TB) (hstat : Cond.static arraycopyName ∈ TB) (hini : Cond.initialized "java/lang/System" ∈ TB) (hd : decode cc pc = .ok (.invokestatic idx, 3))
    {src dst : Nat} {sp dp n : Int32} (hks : hK h src = 50) (hkd : hK h dst = 50) (h1 : ¬ sp < 0) (h2 : ¬ dp < 0) (h3 : ¬ n < 0) (h4 : sp.toNatClampNeg + n.toNatClampNeg ≤ hLN h src) (h5 : dp.toNatClampNeg + n.toNatClampNeg ≤ hLN h dst)
    (hfr : 1 ≤ R.frames) (hlo : (r.map fun v => v.category).sum + (nativeFrameWords "java/lang/System" "arraycopy" 5 + 11) ≤ R.locals)
    (kk : am_W p l e R s m args below meth c Q E n0 (pc + 3) lv r (sCP h src sp.toNatClampNeg dst dp.toNatClampNeg n.toNatClampNeg)) : am_W p l e R s m args below meth c Q E n0 pc lv (.int n :: .int dp :: .ref dst :: .int sp :: .ref src :: r) h := by
  intro H locs ls hR hl hn hL hN
  have hes := (hR.live (a := src) (by omega)).2
  have hed := (hR.live (a := dst) (by omega)).2
  obtain ⟨d1, d2⟩ := hR.dyn (a := dst) (by omega) (by unfold am_stt; omega)
  have hcs := hR.at0 (a := src) (by omega) (by unfold am_stt; omega)
  have hcd := hR.at0 (a := dst) (by omega) (by unfold am_stt; omega)
  show W p l e R s m args below meth c H locs _ _ Q (F0 m pc ls (.int n :: .int dp :: eg E (.ref dst) :: .int sp :: eg E (.ref src) :: r.map (eg E)))
  rw [hes, hed]
  rw [hks] at hcs
  rw [hkd] at hcd
  have hcs : H[ea E src]? = some (vp_cell (E.2.2.2.1 50) (hLN h src, .inl (hAI h src))) := hcs
  have hcd : H[ea E dst]? = some (vp_cell (E.2.2.2.1 50) (hLN h dst, .inl (hAI h dst))) := hcd
  have harr := (hKK.2 0 (E.2.2.2.1 50, .int) rfl).1
  have hcat : ((r.map (eg E)).map fun v => v.category).sum = (r.map fun v => v.category).sum := by
    rw [List.map_map]
    congr 1
    exact List.map_congr_left (fun v _ => eg_cat E v)
  intro T hT X
  obtain ⟨-, k0, hk0, cm0, hkk0⟩ := harr (hLN h src) (fun j => .int (hAI h src j))
  obtain ⟨-, k1, hk1, cm1, hkk1⟩ := harr (hLN h dst) (fun j => .int (hAI h dst j))
  obtain ⟨vm', X', step⟩ := X.arraycopy hx hown (hts _ hlink) (hts _ hnat) (hts _ hstat) (hts _ hini) (src := ea E src) (dst := ea E dst) (cs := vp_cell (E.2.2.2.1 50) (hLN h src, .inl (hAI h src))) (cd := vp_cell (E.2.2.2.1 50) (hLN h dst, .inl (hAI h dst))) (srcPos := sp) (destPos := dp) (n := n) (by rw [hT]; exact hcs) (by rw [hT]; exact hcd)
    (fun _ h => by cases h) (fun _ h => by cases h) (fun h => by cases h) (fun h => by cases h) hk0 hk1 hkk0 hkk1 (by simp [refKind]) h1 h2 h3
    (by rw [aw_nn h1, aw_nn h3]; show ¬ _ > ((arrV (E.2.2.2.1 50) (hLN h src) (fun j => .int (hAI h src j))).slots.size : Int); rw [arrV_size]; omega)
    (by rw [aw_nn h2, aw_nn h3]; show ¬ _ > ((arrV (E.2.2.2.1 50) (hLN h dst) (fun j => .int (hAI h dst j))).slots.size : Int); rw [arrV_size]; omega)
    (fun vm₁ _ i hi => by
      have e : (vp_cell (E.2.2.2.1 50) (hLN h src, .inl (hAI h src))).slots.getD (sp.toNatClampNeg + i) .null = .int (hAI h src (sp.toNatClampNeg + i)) := by
        show (arrV (E.2.2.2.1 50) (hLN h src) (fun j => .int (hAI h src j))).slots.getD _ _ = _
        rw [Array.getD_eq_getD_getElem?, arrV_read _ _ (by omega)]
        rfl
      refine ⟨?_, ?_⟩
      · rw [e]; rfl
      · rw [e]; exact trivial)
    (g := F0 m pc ls (.int n :: .int dp :: .ref (ea E dst) :: .int sp :: .ref (ea E src) :: r.map (eg E))) rfl (by rw [hl.1]) (rest := r.map (eg E)) rfl (by rw [hb]; exact hd) hfr (by show 2 * 0 + _ + _ ≤ _; rw [hcat]; omega)
  have e1 : copied (vp_cell (E.2.2.2.1 50) (hLN h src, .inl (hAI h src))) (vp_cell (E.2.2.2.1 50) (hLN h dst, .inl (hAI h dst))) sp dp n = vp_cell (E.2.2.2.1 50) (hLN h dst, .inl (va_cpy (hAI h src) (hAI h dst) sp.toNatClampNeg dp.toNatClampNeg n.toNatClampNeg)) := va_copied (fun z => .int z) _ _ _ _ h4
  rw [e1] at X' step
  generalize hcell : vp_cell (E.2.2.2.1 50) (hLN h dst, .inl (va_cpy (hAI h src) (hAI h dst) sp.toNatClampNeg dp.toNatClampNeg n.toNatClampNeg)) = cl1 at X' step
  have hlt : ea E dst < H.size := (Array.getElem?_eq_some_iff.mp hcd).1
  have hheap : ((T.setVm vm').setCell (ea E dst) cl1).heap = H.setIfInBounds (ea E dst) cl1 := by rw [← hT]; rfl
  have oq : ∀ q : Nat, q ≠ ea E dst → (H.setIfInBounds (ea E dst) cl1)[q]? = H[q]? := fun q hq => by simp [Array.getElem?_setIfInBounds, Ne.symm hq]
  have hR1 : am_Rel E (sCP h src sp.toNatClampNeg dst dp.toNatClampNeg n.toNatClampNeg) (H.setIfInBounds (ea E dst) cl1) := by
    refine hR.row (h1 := sCP h src sp.toNatClampNeg dst dp.toNatClampNeg n.toNatClampNeg) (a := dst) (by omega) (by unfold am_stt; omega) rfl rfl rfl (fun ci k b => rfl) (fun b hb kd j => ?_) (fun b => ⟨rfl, rfl⟩) (by simp) oq ?_
    · unfold am_el
      split <;> first | rfl | (show Value.int (am_up (hAI h) dst _ b j) = _; rw [am_up_ne hb])
    · rw [hkd]
      simp only [Array.getElem?_setIfInBounds, if_true, hlt]
      rw [← hcell]
      congr 1
      rw [vp_cell_i]
      congr 1
      funext j
      show Value.int (va_cpy (hAI h src) (hAI h dst) sp.toNatClampNeg dp.toNatClampNeg n.toNatClampNeg j) = .int (am_up (hAI h) dst _ dst j)
      rw [am_up_eq]; rfl
  obtain ⟨t, a1, b1⟩ := kk _ _ ls hR1 hl hn (fun q hq => by
      rcases List.mem_append.mp hq with hq | hq
      · exact hL q hq
      · obtain ⟨z, -, hz⟩ := List.mem_map.mp hq
        rw [← hz]
        show E.1 ≤ ea E dst
        rw [d2]; exact Nat.le_add_right _ _) hN _ hheap X'
  exact ⟨t, step t a1, b1⟩
end COPY
