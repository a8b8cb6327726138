/-! Contracts and calls. -/
def w_nm (i : Nat) : String := (["PLACE", "WELL", "WAY", "CLOCK", "AT", "HOLDS", "HAS", "SIPS", "PERSON", "WORK", "BY", "HOUR", "PAYS", "HEAT", "TO", "THIRST", "POUR", "DRAW", "GO", "STEAL", "PLAIN", "OLD", "MILK", "DEW", "NOT", "AND", "OR", "BASE", "HOT", "KIND", "SHOWN"] : List String).getD i ""
def am_nsw : Cond → Bool
  | .fieldLinkNest .. => true
  | .methodLinkNest .. => true
  | _ => false
def am_NB : List Cond := lw_tbl.filter am_nsw
theorem am_nsw_warm {u U : State} (hW : u.WarmedH U.vm) {w : Cond} (hw : w ∈ am_NB) (h : va_Nw w u) : va_Nw w U := by
  have h1 := (List.mem_filter.mp hw).2
  cases w
  case fieldLinkNest => exact va_Nw.warmF hW h
  case methodLinkNest => exact va_Nw.warmM hW h
  all_goals (cases h1)
theorem am_nsw_same {u U : State} (hv : u.vm = U.vm) {w : Cond} (hw : w ∈ am_NB) (h : va_Nw w u) : va_Nw w U := by
  have h1 := (List.mem_filter.mp hw).2
  cases w
  case fieldLinkNest => exact va_Nw.same rfl hv h
  case methodLinkNest => exact va_Nw.same rfl hv h
  all_goals (cases h1)
theorem am_nsw_use {U : State} {A : Array Value} {w : Cond} (hw : w ∈ am_NB) (h : va_Nw w U) : w.before A U = true := by
  have h1 := (List.mem_filter.mp hw).2
  cases w
  case fieldLinkNest => exact va_Nw.use rfl h
  case methodLinkNest => exact va_Nw.use rfl h
  all_goals (cases h1)
def am_KS (E : AE) (U : State) : Prop := va_K E.2.2.1 am_cls (am_tys E) U ∧
  (∀ i, i < 31 → va_OF RX10 "spelt" "J" (.long (w_sp i)) (E.2.1 i) (fun q => E.1 ≤ q) U E.2.2.2.2 ∧ va_OF RX10 "kept" "Z" (.int (w_kp i)) (E.2.1 i) (fun q => E.1 ≤ q) U E.2.2.2.2 ∧ va_Z RX10 (w_nm i) "LThirstHours$Word;" (.ref (E.2.1 i)) (fun q => E.1 ≤ q) U E.2.2.2.2) ∧
  va_Z RX10 "ALL" "[LThirstHours$Word;" (.ref (E.2.1 100)) (fun q => E.1 ≤ q) U E.2.2.2.2 ∧ (∀ i j, i < 31 → j < 31 → E.2.1 i = E.2.1 j → i = j) ∧ (∀ w ∈ am_NB, va_Nw w U) ∧ va_AO "ThirstHours$State" U ∧ va_AO "ThirstHours$Store" U ∧ am_KA E U
theorem am_KS.alike {E : AE} {u U : State} (hvm : u.vm.Alike U.vm) (hw : ∀ w ∈ am_NB, va_Nw w U) (h : am_KS E u) : am_KS E U :=
  ⟨va_K.moved hvm h.1, fun i hi => ⟨va_OF.moved hvm (h.2.1 i hi).1, va_OF.moved hvm (h.2.1 i hi).2.1, va_Z.moved hvm (h.2.1 i hi).2.2⟩, va_Z.moved hvm h.2.2.1, h.2.2.2.1, hw, va_AO.moved hvm h.2.2.2.2.2.1, va_AO.moved hvm h.2.2.2.2.2.2.1, arrOfT_moved hvm h.2.2.2.2.2.2.2.1, arrOfT_moved hvm h.2.2.2.2.2.2.2.2⟩
theorem am_KS.moved {E : AE} {u U : State} (hW : u.WarmedH U.vm) (h : am_KS E u) : am_KS E U := am_KS.alike hW.alike (fun w hw => am_nsw_warm hW hw (h.2.2.2.2.1 w hw)) h
theorem am_KS.same {E : AE} {u U : State} (hv : u.vm = U.vm) (h : am_KS E u) : am_KS E U := am_KS.alike (by rw [hv]; exact Vm.Alike.refl U.vm) (fun w hw => am_nsw_same hv hw (h.2.2.2.2.1 w hw)) h
def am_Pc (E : AE) (as : List Value) (h : AH) : Array Value → State → Prop := fun a U => a = (as.map (eg E)).toArray ∧ U.heap.size = E.1 + hNX h ∧ am_Rel E h U.heap ∧ am_KS E U
def am_Qc (E : AE) (r : Option Value) (h1 : AH) : Array Value → State → Outcome → State → Prop := fun _ _ o t => o = .returned (r.map (eg E)) ∧ am_Rel E h1 t.heap
def am_rm (d k : Nat) : Room := { frames := d + 1, cells := k, slots := 2048 * k, locals := 64 * (d + 1) }
def am_Met (E : AE) (l : Launch) (d : Nat) (y : MethodName) (ws : List Cond) (as : List Value) (h : AH) (r : Option Value) (h1 : AH) : Prop :=
  Met l y ws (am_rm d (hNX h1 - hNX h)) (am_Pc E as h) (am_Qc E r h1) (hNX h1 - hNX h) (2048 * (hNX h1 - hNX h)) (fun q => E.1 ≤ q)
theorem am_blind {E : AE} {as : List Value} {h : AH} : FrameBlind (am_Pc E as h) := fun a U g mk q => ⟨q.1, q.2.1, q.2.2.1, am_KS.same (u := U) (U := U.calling g mk a) rfl q.2.2.2⟩
theorem takeA_spec : ∀ (n : Nat) (st acc as r : List Value), takeA n st acc = some (as, r) → ∃ xs : List Value, as = xs ++ acc ∧ st = xs.reverse ++ r ∧ xs.length = n
  | 0, st, acc, as, r, h => by
    cases h
    exact ⟨[], rfl, rfl, rfl⟩
  | n + 1, [], acc, as, r, h => by cases h
  | n + 1, v :: st, acc, as, r, h => by
    obtain ⟨xs, h1, h2, h3⟩ := takeA_spec n st (v :: acc) as r h
    exact ⟨xs ++ [v], by rw [h1]; simp, by rw [h2]; simp, by simp [h3]⟩
theorem am_cat_eq (E : AE) : ∀ r : List Value, ((r.map (eg E)).map fun v => v.category).sum = am_cat r
  | [] => rfl
  | v :: t => by
    have ih := am_cat_eq E t
    rw [List.map_cons, List.map_cons, List.sum_cons, ih, eg_cat]
    cases v <;> (first | rfl | (show _ + am_cat t = am_cat t + _; exact Nat.add_comm _ _))
theorem am_r8_inv {v : List Value} {x : Option Res} {r : Res} (h : am_r8 v x = some r) : am_cat v ≤ 8 ∧ x = some r := by
  unfold am_r8 am_id at h
  split at h
  · rename_i h1; exact ⟨Nat.le_of_ble_eq_true h1, h⟩
  · cases h
section CALL
variable {p : Program} {l : Launch} {e : Env} {R : Room} {s : State} {m : MethodId} {args : Array Value} {below : List Frame} {meth : Method} {c : Code} {Q : State → Prop} {E : AE} {n0 : Nat} {cc : ByteArray} {lv : LV} {st r : List Value} {h : AH} {pc : Nat}
/-- behind a call -/
theorem aw_after {H : Heap} {locs : List Loc} {ls : Array Slot} {a : Array Value} {st0 : List Value} {rv : Option Value} {h1 : AH} (hN : n0 ≤ hNX h) (hN1 : hNX h ≤ hNX h1) (hl : lv_has ls c.maxLocals (am_lvl E 0 lv)) (hn : lv.length = c.maxLocals) (hL : ∀ q ∈ locs, E.1 ≤ q.base)
    (hr : va_Run p l e R s m args below meth c H locs (hNX h - n0) (2048 * (hNX h - n0)) (hNX h1 - hNX h) (2048 * (hNX h1 - hNX h)) (F0 m pc ls st0) (r.map (eg E)) (am_Qc E rv h1 a) (fun q => E.1 ≤ q))
    (kk : am_W p l e R s m args below meth c Q E n0 (pc + 3) lv (rv.toList ++ r) h1) : W p l e R s m args below meth c H locs (hNX h - n0) (2048 * (hNX h - n0)) Q (F0 m pc ls st0) := by
  intro T hT X
  obtain ⟨v, st₀, t, T', L, h0, X', hL1, e1, e2, ⟨hv, hb⟩, stp⟩ := hr T hT X
  cases hv
  rw [← e1] at hb
  have w := kk T'.heap (locs ++ L) ls hb hl hn (fun q hq => by
    rcases List.mem_append.mp hq with hq | hq
    · exact hL q hq
    · exact hL1 q hq) (Nat.le_trans hN hN1)
  rw [show hNX h1 - n0 = hNX h - n0 + (hNX h1 - hNX h) by omega, Nat.mul_add] at w
  obtain ⟨t2, a1, b1⟩ := w T' rfl X'
  refine ⟨t2, stp t2 ?_, b1⟩
  have : (Option.map (eg E) rv).toList ++ r.map (eg E) = (rv.toList ++ r).map (eg E) := by cases rv <;> rfl
  rw [this]
  exact a1
theorem am_cB {TB : List Cond} (hts : ∀ w ∈ TB, w.before args s = true) (hgd : ∀ w ∈ TB, goodWord w = true) {own : String} {idx maxL d k nn : Nat} {y : MethodName} {bytes : ByteArray} {ret : Option FieldType} (hcode : Cond.code y bytes maxL ret ∈ TB) (hini : Cond.initialized y.cls ∈ TB) (hlink : Cond.methodLink own idx y ∈ TB)
    (hy : y.cls ≠ "java/lang/invoke/MethodHandle" ∧ y.cls ≠ "java/lang/invoke/VarHandle" ∧ (parseMethodDescriptor y.desc).map (fun d => d.parameters.length) = some nn) (hmL : maxL ≤ 45) (hfr : d + 2 ≤ R.frames) (hlo : 64 * (d + 2) ≤ R.locals) : CallB R s args own idx y bytes maxL ret (Cond.code y bytes maxL ret :: TB) (am_rm d k) k (2048 * k) nn :=
  callB_of (ws' := TB) nn hts (fun w hw => by
    rcases List.mem_cons.mp hw with rfl | hw
    · exact ⟨hcode, good_of_word (hgd _ hcode)⟩
    · exact ⟨hw, good_of_word (hgd _ hw)⟩) rfl rfl rfl (hts _ hini) (hts _ hlink) hy ⟨hfr, by show 8 + (maxL + 11) + 64 * (d + 1) ≤ R.locals; omega⟩
theorem aw_callV (hx : p.tables.exec = Jvm.exec) (hb : c.code = cc) {own : String} {TB : List Cond} (hts : ∀ w ∈ TB, w.before args s = true) (hgd : ∀ w ∈ TB, goodWord w = true) (hown : s.vm.findClass own = some m.cls) (hKS : am_KS E s)
    {idx maxL d ci : Nat} {y : MethodName} {bytes : ByteArray} {ret : Option FieldType} {q : vw_C} (hc : am_cls[ci]? = some q) (hyc : y.cls = q.1) (h13 : ci < 13) (h10 : ci ≠ 10) (hcode : Cond.code y bytes maxL ret ∈ TB) (hini : Cond.initialized y.cls ∈ TB) (hlink : Cond.methodLink own idx y ∈ TB) (him : Cond.instanceMethod y ∈ TB) (hsel : Cond.selects y.cls y y ∈ TB)
    {a : Nat} {As : List Value} (hy : y.cls ≠ "java/lang/invoke/MethodHandle" ∧ y.cls ≠ "java/lang/invoke/VarHandle" ∧ (parseMethodDescriptor y.desc).map (fun d => d.parameters.length) = some As.length) (hmL : maxL ≤ 45) (hfr : d + 2 ≤ R.frames) (hlo : 64 * (d + 2) ≤ R.locals) (hd : decode cc pc = .ok (.invokevirtual idx, 3))
    (hka : hK h a = ci + 1) (h8 : am_cat r ≤ 8) {rv : Option Value} {h1 : AH} (hM : am_Met E l d y (Cond.code y bytes maxL ret :: TB) (.ref a :: As) h rv h1) (hN1 : hNX h ≤ hNX h1) (hrm : hNX h1 - n0 ≤ R.cells ∧ 2048 * (hNX h1 - n0) ≤ R.slots)
    (kk : am_W p l e R s m args below meth c Q E n0 (pc + 3) lv (rv.toList ++ r) h1) : am_W p l e R s m args below meth c Q E n0 pc lv (As.reverse ++ .ref a :: r) h := by
  intro H locs ls hR hl hn hL hN
  have he := (hR.live (a := a) (by omega)).2
  obtain ⟨q', hq', cell, g1, g2, g3, -⟩ := hR.2.2.1 a ci hka h13 h10
  refine aw_after hN hN1 hl hn hL (va_runV (C := y.cls) (b := ea E a) (As := As.map (eg E)) ⟨hx, hb, rfl, hown, hts⟩ hM ⟨am_cB hts hgd hcode hini hlink (nn := As.length) hy hmL hfr hlo, hts _ him, hts _ hsel⟩
    ⟨am_blind, ⟨cell, g1, by rw [g3]; rfl, by rw [g2, hyc]; exact (hKS.1.1 ci q hc).2.1⟩, fun U hU hW => ⟨by rw [List.map_cons, he], by rw [hU]; exact hR.1, by rw [hU]; exact hR, hKS.moved hW⟩⟩ rfl (List.length_map ..) hl.1 ?_ (lv_room (by rw [am_cat_eq]; exact h8)) hd ⟨by omega, by omega⟩) kk
  show List.map (eg E) (As.reverse ++ .ref a :: r) = _
  rw [List.map_append, List.map_reverse, List.map_cons, he]
theorem aw_callS (hx : p.tables.exec = Jvm.exec) (hb : c.code = cc) {own : String} {TB : List Cond} (hts : ∀ w ∈ TB, w.before args s = true) (hgd : ∀ w ∈ TB, goodWord w = true) (hown : s.vm.findClass own = some m.cls) (hKS : am_KS E s)
    {idx maxL d : Nat} {y : MethodName} {bytes : ByteArray} {ret : Option FieldType} (hcode : Cond.code y bytes maxL ret ∈ TB) (hini : Cond.initialized y.cls ∈ TB) (hlink : Cond.methodLink own idx y ∈ TB) (hst : Cond.static y ∈ TB)
    {As : List Value} (hy : y.cls ≠ "java/lang/invoke/MethodHandle" ∧ y.cls ≠ "java/lang/invoke/VarHandle" ∧ (parseMethodDescriptor y.desc).map (fun d => d.parameters.length) = some As.length) (hmL : maxL ≤ 45) (hfr : d + 2 ≤ R.frames) (hlo : 64 * (d + 2) ≤ R.locals) (hd : decode cc pc = .ok (.invokestatic idx, 3))
    (h8 : am_cat r ≤ 8) {rv : Option Value} {h1 : AH} (hM : am_Met E l d y (Cond.code y bytes maxL ret :: TB) As h rv h1) (hN1 : hNX h ≤ hNX h1) (hrm : hNX h1 - n0 ≤ R.cells ∧ 2048 * (hNX h1 - n0) ≤ R.slots)
    (kk : am_W p l e R s m args below meth c Q E n0 (pc + 3) lv (rv.toList ++ r) h1) : am_W p l e R s m args below meth c Q E n0 pc lv (As.reverse ++ r) h := by
  intro H locs ls hR hl hn hL hN
  refine aw_after hN hN1 hl hn hL (va_runS (As := As.map (eg E)) ⟨hx, hb, rfl, hown, hts⟩ hM ⟨am_cB hts hgd hcode hini hlink (nn := As.length) hy hmL hfr hlo, hts _ hst⟩
    ⟨am_blind, fun U hU hW => ⟨rfl, by rw [hU]; exact hR.1, by rw [hU]; exact hR, hKS.moved hW⟩⟩ rfl (List.length_map ..) hl.1 ?_ (lv_room (by rw [am_cat_eq]; exact h8)) hd ⟨by omega, by omega⟩) kk
  show List.map (eg E) (As.reverse ++ r) = _
  rw [List.map_append, List.map_reverse]
theorem aw_callI (hx : p.tables.exec = Jvm.exec) (hb : c.code = cc) {own : String} {TB : List Cond} (hts : ∀ w ∈ TB, w.before args s = true) (hgd : ∀ w ∈ TB, goodWord w = true) (hown : s.vm.findClass own = some m.cls) (hKS : am_KS E s)
    {idx maxL d : Nat} {y : MethodName} {bytes : ByteArray} (hcode : Cond.code y bytes maxL none ∈ TB) (hini : Cond.initialized y.cls ∈ TB) (hlink : Cond.methodLink own idx y ∈ TB ∨ ∃ host, Cond.methodLinkNest own idx y host ∈ am_NB) (him : Cond.instanceMethod y ∈ TB) (hyn : y.name = "<init>")
    {a : Nat} {As : List Value} (hy : y.cls ≠ "java/lang/invoke/MethodHandle" ∧ y.cls ≠ "java/lang/invoke/VarHandle" ∧ (parseMethodDescriptor y.desc).map (fun d => d.parameters.length) = some As.length) (hmL : maxL ≤ 45) (hfr : d + 2 ≤ R.frames) (hlo : 64 * (d + 2) ≤ R.locals) (hd : decode cc pc = .ok (.invokespecial idx, 3))
    (hka : hK h a ≠ 0) (h8 : am_cat r ≤ 8) {rv : Option Value} {h1 : AH} (hM : am_Met E l d y (Cond.code y bytes maxL none :: TB) (.ref a :: As) h rv h1) (hN1 : hNX h ≤ hNX h1) (hrm : hNX h1 - n0 ≤ R.cells ∧ 2048 * (hNX h1 - n0) ≤ R.slots)
    (kk : am_W p l e R s m args below meth c Q E n0 (pc + 3) lv (rv.toList ++ r) h1) : am_W p l e R s m args below meth c Q E n0 pc lv (As.reverse ++ .ref a :: r) h := by
  intro H locs ls hR hl hn hL hN
  have he := (hR.live (a := a) hka).2
  have hstk : List.map (eg E) (As.reverse ++ .ref a :: r) = (As.map (eg E)).reverse ++ Value.ref (ea E a) :: r.map (eg E) := by
    rw [List.map_append, List.map_reverse, List.map_cons, he]
  have hpre : PreS s H (am_Pc E (.ref a :: As) h) (Value.ref (ea E a) :: As.map (eg E)) := ⟨am_blind, fun U hU hW => ⟨by rw [List.map_cons, he], by rw [hU]; exact hR.1, by rw [hU]; exact hR, hKS.moved hW⟩⟩
  have hgood : GoodIn TB (Cond.code y bytes maxL none :: TB) := fun w hw => by
    rcases List.mem_cons.mp hw with rfl | hw
    · exact ⟨hcode, good_of_word (hgd _ hcode)⟩
    · exact ⟨hw, good_of_word (hgd _ hw)⟩
  rcases hlink with hlink | ⟨host, hlink⟩
  · exact aw_after hN hN1 hl hn hL (va_runI (b := ea E a) (As := As.map (eg E)) ⟨hx, hb, rfl, hown, hts⟩ hM ⟨am_cB hts hgd hcode hini hlink (nn := As.length) hy hmL hfr hlo, hyn, hts _ him⟩ hpre rfl (List.length_map ..) hl.1 hstk (lv_room (by rw [am_cat_eq]; exact h8)) hd ⟨by omega, by omega⟩) kk
  · exact aw_after hN hN1 hl hn hL (va_runIN (b := ea E a) (As := As.map (eg E)) ⟨hx, hb, rfl, hown, hts⟩ hM ⟨va_cnB As.length hts hgood rfl rfl rfl (hKS.2.2.2.2.1 _ hlink) (hts _ hini) hy ⟨hfr, by show 8 + (maxL + 11) + 64 * (d + 1) ≤ R.locals; omega⟩, hyn, hts _ him⟩ hpre rfl (List.length_map ..) hl.1 hstk (lv_room (by rw [am_cat_eq]; exact h8)) hd ⟨by omega, by omega⟩) kk
end CALL
