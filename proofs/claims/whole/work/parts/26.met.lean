/-! Runs of the small machine are the machine's: contracts of all methods. -/
theorem am_lvl_none (E : AE) (n : Nat) : ∀ (xs : LV) (k : Nat), am_lvl E k (xs ++ List.replicate n none) = am_lvl E k xs
  | [], k => by
    induction n generalizing k with
    | zero => rfl
    | succ n ih => exact ih (k + 1)
  | none :: t, k => am_lvl_none E n t (k + 1)
  | some v :: t, k => by
    show (k, eg E v) :: am_lvl E (k + 1) (t ++ List.replicate n none) = _
    rw [am_lvl_none E n t (k + 1)]; rfl
theorem am_lvl_ent (E : AE) : ∀ (as : List Value) (k : Nat), am_lvl E k (am_ent1 as) = lv_args k (as.map (eg E))
  | [], k => rfl
  | v :: t, k => by
    have h2 := am_lvl_ent E t (k + 2)
    have h1 := am_lvl_ent E t (k + 1)
    show _ = (k, eg E v) :: lv_args (if (eg E v).category = 2 then k + 2 else k + 1) (t.map (eg E))
    rw [eg_cat]
    cases v with
    | long x => rw [if_pos (show (Value.long x).category = 2 from rfl), ← h2]; rfl
    | double x => rw [if_pos (show (Value.double x).category = 2 from rfl), ← h2]; rfl
    | int x => rw [if_neg (by intro z; cases z), ← h1]; rfl
    | float x => rw [if_neg (by intro z; cases z), ← h1]; rfl
    | null => rw [if_neg (by intro z; cases z), ← h1]; rfl
    | ref x => rw [if_neg (by intro z; cases z), ← h1]; rfl
    | retAddr x => rw [if_neg (by intro z; cases z), ← h1]; rfl
theorem am_len_ent (E : AE) : ∀ as : List Value, (lg_sl (as.map (eg E))).length = (am_ent1 as).length
  | [] => rfl
  | v :: t => by
    have h := am_len_ent E t
    unfold lg_sl at h ⊢
    rw [List.map_cons, List.flatMap_cons, List.length_append, h, eg_cat]
    cases v with
    | long x => rw [if_pos (show (Value.long x).category = 2 from rfl)]; show 2 + _ = _ + 1 + 1; omega
    | double x => rw [if_pos (show (Value.double x).category = 2 from rfl)]; show 2 + _ = _ + 1 + 1; omega
    | int x => rw [if_neg (by intro z; cases z)]; show 1 + _ = _ + 1; omega
    | float x => rw [if_neg (by intro z; cases z)]; show 1 + _ = _ + 1; omega
    | null => rw [if_neg (by intro z; cases z)]; show 1 + _ = _ + 1; omega
    | ref x => rw [if_neg (by intro z; cases z)]; show 1 + _ = _ + 1; omega
    | retAddr x => rw [if_neg (by intro z; cases z)]; show 1 + _ = _ + 1; omega
theorem am_mask_get (live : List Nat) : ∀ (lv : LV) (k j : Nat) (v : Value), (am_mask live k lv)[j]? = some (some v) → lv[j]? = some (some v)
  | [], _, _, _, h => by cases h
  | x :: t, k, 0, v, h => by
    unfold am_mask at h
    split at h
    · exact h
    · cases h
  | x :: t, k, j + 1, v, h => am_mask_get live t (k + 1) j v h
theorem am_mask_len (live : List Nat) : ∀ (lv : LV) (k : Nat), (am_mask live k lv).length = lv.length
  | [], _ => rfl
  | x :: t, k => by
    show (am_mask live (k + 1) t).length + 1 = t.length + 1
    rw [am_mask_len live t (k + 1)]
theorem am_fetch_mem : ∀ (C : List CE) (pc : Nat) (e : CE), am_fetch C pc = some e → e ∈ C ∧ e.1 = pc
  | [], _, _, h => by cases h
  | x :: t, pc, e, h => by
    unfold am_fetch at h
    split at h
    · rename_i h1
      cases h
      exact ⟨List.mem_cons_self, Nat.eq_of_beq_eq_true h1⟩
    · obtain ⟨h1, h2⟩ := am_fetch_mem t pc e h
      exact ⟨List.mem_cons_of_mem _ h1, h2⟩
def am_rok (ret : Option FieldType) (len x : Nat) (i : Instr) : Prop := match i with
  | .ireturn => len = 1 ∧ ((x = 0 ∧ ret = some .int) ∨ (x = 4 ∧ ret = some .boolean))
  | .lreturn => len = 1 ∧ ret = some .long
  | .areturn => len = 1 ∧ ∃ n, ret = some (.object n)
  | .return_ => len = 1 ∧ ret = none
  | .new _ => x ≠ 0
  | _ => True
def am_mok (TB : List Cond) (MT : Nat → MTE) (P : Nat → MC) (mid : Nat) : Prop := (P mid).2.2 = (MT mid).2.2.1 ∧ plainFor (MT mid).1 = true ∧
  ∀ x ∈ (P mid).1, decode (MT mid).2.1 x.1 = .ok (x.2.2.2, x.2.1) ∧ am_ok (MT mid).1.cls ((MT mid).1.name == "<init>") TB MT x.1 x.2.1 x.2.2.1 x.2.2.2 ∧ am_rok (MT mid).2.2.2 x.2.1 x.2.2.1 x.2.2.2
/-- what is known where a method runs -/
def am_cx (E : AE) (TB : List Cond) (q : MTE) (p : Program) (s : State) (m : MethodId) (args : Array Value) (meth : Method) (c : Code) : Prop :=
  p.tables.exec = Jvm.exec ∧ c.code = q.2.1 ∧ s.vm.findClass q.1.cls = some m.cls ∧ (∀ w ∈ TB, w.before args s = true) ∧ am_KS E s ∧ meth.name = q.1.name ∧ meth.sig.returnType = q.2.2.2 ∧ meth.locks = false
def am_RW (E : AE) (l : Launch) (TB : List Cond) (MT : Nat → MTE) (P : Nat → MC) (n : Nat) : Prop := ∀ (d mid pc : Nat) (lv : LV) (st : List Value) (h : AH) (r : Res), (MT mid).2.2.1 ≤ 45 → am_run P n d mid pc lv st h = some r → hNX r.2 ≤ 1000000 →
  ∀ (p : Program) (e : Env) (s : State) (m : MethodId) (args : Array Value) (below : List Frame) (meth : Method) (c : Code) (n0 : Nat), am_cx E TB (MT mid) p s m args meth c →
    am_W p l e (am_rm d (hNX r.2 - n0)) s m args below meth c (MQ below (am_Qc E r.1 r.2) args s (hNX r.2 - n0) (2048 * (hNX r.2 - n0)) (fun q => E.1 ≤ q)) E n0 pc lv st h
theorem am_ofW {l : Launch} {y : MethodName} {ws ws' : List Cond} {rm : Room} {Pc : Array Value → State → Prop} {Qc : Array Value → State → Outcome → State → Prop} {mc ms : Nat} {free : Addr → Prop} {cc : ByteArray} {maxL : Nat} {ret : Option FieldType}
    (hy : plainFor y = true) (hw : ws = Cond.code y cc maxL ret :: ws')
    (body : ∀ p e s m args below meth c s₁, BodyLoose p l y (headSpec ws rm) cc maxL ret e s m args below meth c s₁ → c.maxLocals = maxL → Pc args s →
      W p l e (headSpec ws rm).room s m args below meth c s.heap [] 0 0 (MQ below Qc args s mc ms free) (entryFrame m args maxL)) : Met l y ws rm Pc Qc mc ms free := by
  refine MetFree.of_bodySF (code := cc) (maxLocals := maxL) (ret := ret) hy ?_ ?_
  · intro args s m h hn
    obtain ⟨meth, c, h1, h2, h3, h4, h5, h6, -, -⟩ := Cond.code_spec hn (atoms_spec (ws := ws) h _ (by rw [hw]; exact List.mem_cons_self))
    exact ⟨meth, c, h1, h2, h3, h4, h5, h6⟩
  · intro p e s m args below meth c s₁ B hml hP _
    have hh0 : s₁.heap = s.heap := by rw [B.state]; rfl
    obtain ⟨t, a1, o, b1, b2, b3⟩ := body p e s m args below meth c s₁ B hml hP s₁ hh0 (Stand.of_body B)
    exact ⟨t, o, a1, b1, b2, ⟨b3.1, b3.2⟩⟩
theorem am_Met_of {E : AE} {l : Launch} {TB : List Cond} {MT : Nat → MTE} {P : Nat → MC} {n : Nat} (hRW : am_RW E l TB MT P n) (hall : ∀ mid, (MT mid).2.2.1 ≤ 45 → am_mok TB MT P mid) {d mid : Nat} {as : List Value} {h : AH} {r : Res} (h45 : (MT mid).2.2.1 ≤ 45)
    (hr : am_fitA as (P mid).2.2 (am_run P n d mid 0 (am_ent as (P mid).2.2) [] h) = some r) (hN : hNX r.2 ≤ 1000000) : am_Met E l d (MT mid).1 (am_cd (MT mid) :: TB) as h r.1 r.2 := by
  obtain ⟨m1, m2, -⟩ := hall mid h45
  unfold am_fitA at hr
  split at hr
  · rename_i hf
    have hf := Nat.le_of_ble_eq_true hf
    rw [m1] at hf hr
    refine am_ofW (cc := (MT mid).2.1) (maxL := (MT mid).2.2.1) (ret := (MT mid).2.2.2) m2 rfl ?_
    intro p e s m args below meth c s₁ B hml hv
    obtain ⟨rfl, hsz, hR, hKS⟩ := hv
    have hts := atoms_spec (ws := am_cd (MT mid) :: TB) B.pre
    have hl := lv_entry (as.map (eg E)) (n := (MT mid).2.2.1) (by rw [am_len_ent]; exact hf)
    rw [lg_entry_eq]
    generalize (lg_sl (as.map (eg E)) ++ List.replicate ((MT mid).2.2.1 - (lg_sl (as.map (eg E))).length) Slot.unset).toArray = ls at hl ⊢
    have w := hRW d mid 0 _ [] h r h45 hr hN p e s m ((as.map (eg E)).toArray) below meth c (hNX h) ⟨B.exec, B.bytes, findClass_of_methodNamed B.named, fun w hw => hts w (List.mem_cons_of_mem _ hw), hKS, (name_of_methodNamed B.named B.method).1, B.returns, B.notSynchronized⟩ s.heap [] ls hR
      (by rw [hml]; unfold am_ent; rw [am_lvl_none, am_lvl_ent]; exact hl) (by rw [hml]; unfold am_ent; simp; omega) (fun q hq => by cases hq) (Nat.le_refl _)
    rw [Nat.sub_self, Nat.mul_zero] at w
    exact w
  · cases hr
theorem am_W.mask {p : Program} {l : Launch} {e : Env} {R : Room} {s : State} {m : MethodId} {args : Array Value} {below : List Frame} {meth : Method} {c : Code} {Q : State → Prop} {E : AE} {n0 pc : Nat} {lv : LV} {st : List Value} {h : AH} (hs : List (Nat × List Nat)) (w : am_W p l e R s m args below meth c Q E n0 pc (am_msk hs pc lv) st h) : am_W p l e R s m args below meth c Q E n0 pc lv st h := by
  unfold am_msk at w
  split at w
  · rename_i live _
    intro H locs ls hR hl hn hL hN
    refine w H locs ls hR ⟨hl.1, hl.2.1, fun q hq => hl.2.2 q ?_⟩ (by rw [am_mask_len]; exact hn) hL hN
    obtain ⟨j, v, h1, h2⟩ := am_lvl_mem.mp hq
    exact am_lvl_mem.mpr ⟨j, v, am_mask_get live lv 0 j v h1, h2⟩
  · exact w
theorem am_ends {p : Program} {l : Launch} {e : Env} {R : Room} {s : State} {m : MethodId} {args : Array Value} {below : List Frame} {meth : Method} {c : Code} {E : AE} {n0 pc len x : Nat} {lv : LV} {st : List Value} {h : AH} {cc : ByteArray} {call : Nat → List Value → AH → Option Res} {K : Nat → LV → List Value → AH → Option Res} {r : Res} {i : Instr}
    (hx : p.tables.exec = Jvm.exec) (hb : c.code = cc) (hlk : meth.locks = false) {ret : Option FieldType} (hr : meth.sig.returnType = ret) (hd : decode cc pc = .ok (i, len)) (hok : am_rok ret len x i) (hs : stp call K (pc, len, x, i) lv st h = some r) (hT : am_isT x i = true) :
    am_W p l e R s m args below meth c (MQ below (am_Qc E r.1 r.2) args s (hNX r.2 - n0) (2048 * (hNX r.2 - n0)) (fun q => E.1 ≤ q)) E n0 pc lv st h := by
  intro H locs ls hR hl hn hL hN
  cases i
  case ireturn =>
    obtain ⟨hl1, hok⟩ := hok
    cases hl1
    dsimp only [stp] at hs
    split at hs
    · rename_i v
      obtain ⟨h1, h2, -⟩ := am_nar_inv hs
      cases h1
      rcases hok with ⟨rfl, rfl⟩ | ⟨rfl, rfl⟩
      · exact W.iret hx hb hr (fun t ht _ => ⟨rfl, by rw [ht]; exact hR⟩) hL hd hlk
      · exact W.zret hx hb hr (narrow_bool_in (h2 rfl)).1 (fun t ht _ => ⟨rfl, by rw [ht]; exact hR⟩) hL hd hlk
    · cases hs
  case lreturn =>
    obtain ⟨hl1, hok⟩ := hok
    cases hl1
    dsimp only [stp] at hs
    split at hs
    · cases hs
      exact W.lret hx hb (hr.trans hok) (fun t ht _ => ⟨rfl, by rw [ht]; exact hR⟩) hL hd hlk
    · cases hs
  case areturn =>
    obtain ⟨hl1, n, hok⟩ := hok
    cases hl1
    dsimp only [stp] at hs
    split at hs
    · rename_i a
      cases hs
      refine W.aret hx hb (hr.trans hok) (Or.inl ⟨n, rfl⟩) ?_ (fun t ht _ => ⟨rfl, by rw [ht]; exact hR⟩) hL hd hlk
      show (if a = nul then Value.null else Value.ref (ea E a)) = .null ∨ ∃ b, (if a = nul then Value.null else Value.ref (ea E a)) = .ref b
      by_cases hz : a = nul
      · exact Or.inl (if_pos hz)
      · exact Or.inr ⟨_, if_neg hz⟩
    · cases hs
  case return_ =>
    obtain ⟨hl1, hok⟩ := hok
    cases hl1
    dsimp only [stp] at hs
    split at hs
    · cases hs
      exact W.vret hx hb (hr.trans hok) (fun t ht _ => ⟨rfl, by rw [ht]; exact hR⟩) hL hd hlk
    · cases hs
  case new =>
    exact absurd (by simpa [am_isT] using hT) hok
  all_goals (cases hT)
theorem am_run_W {E : AE} {l : Launch} {TB : List Cond} {MT : Nat → MTE} {P : Nat → MC} (hall : ∀ mid, (MT mid).2.2.1 ≤ 45 → am_mok TB MT P mid) (hgd : ∀ w ∈ TB, goodWord w = true) (hCL : am_cok TB) : ∀ n, am_RW E l TB MT P n
  | 0 => fun d mid pc lv st h r h45 hr => by cases hr
  | n + 1 => by
    intro d mid pc lv st h r h45 hr hN p e s m args below meth c n0 hcx
    have ih := am_run_W (E := E) (l := l) hall hgd hCL n
    obtain ⟨c1, c2, c3, c4, c5, c6, c7, c8⟩ := id hcx
    obtain ⟨-, -, m3⟩ := hall mid h45
    unfold am_run at hr
    split at hr
    · cases hr
    · rename_i x hf
      obtain ⟨f1, f2⟩ := am_fetch_mem _ _ _ hf
      obtain ⟨k1, k2, k3⟩ := m3 x f1
      obtain ⟨pc1, len, aux, i⟩ := x
      cases f2
      refine stp_sound (d := d) c1 c2 c4 hgd c3 c5 hCL (fun hz => by rw [c6]; exact eq_of_beq hz) k1 k2 (by show 1 ≤ d + 1; omega) (by show 64 ≤ 64 * (d + 1); omega) (fun _ => ⟨Nat.le_refl _, Nat.le_refl _⟩) ?_ ?_ ?_ ?_ ⟨Nat.le_refl _, Nat.le_refl _, hN⟩ hr (fun hT => am_ends c1 c2 c8 c7 k1 k3 hr hT)
      · intro mid1 as h1 rv h2 q1 q2 q3
        cases d with
        | zero => cases q3
        | succ d =>
          refine ⟨Nat.succ_ne_zero d, ?_⟩
          rw [Nat.add_sub_cancel]
          exact am_Met_of (r := (rv, h2)) ih hall q1 q3 q2
      · intro mid1 as h1
        cases d with
        | zero => exact am_nx.no _
        | succ d => exact am_fitA_nx (am_run_nx P n _ _ _ _ _ _)
      · intro pc2 lv2 st2 h2 q
        exact am_W.mask _ (ih d mid _ _ _ _ r h45 q hN p e s m args below meth c n0 hcx)
      · intro pc2 lv2 st2 h2
        exact am_run_nx P n _ _ _ _ _ _
/-- every call of the small machine is one of the machine -/
theorem am_Met_all {E : AE} {l : Launch} {TB : List Cond} {MT : Nat → MTE} {P : Nat → MC} (hall : ∀ mid, (MT mid).2.2.1 ≤ 45 → am_mok TB MT P mid) (hgd : ∀ w ∈ TB, goodWord w = true) (hCL : am_cok TB) {d mid : Nat} {as : List Value} {h : AH} {rv : Option Value} {h1 : AH} (h45 : (MT mid).2.2.1 ≤ 45) (hr : am_C P d mid as h = some (rv, h1)) (hN : hNX h1 ≤ 1000000) : am_Met E l d (MT mid).1 (am_cd (MT mid) :: TB) as h rv h1 := by
  unfold am_C at hr
  have : ∃ n, am_fitA as (P mid).2.2 (am_run P n d mid 0 (am_ent as (P mid).2.2) [] h) = some (rv, h1) := by
    unfold am_fitA at hr ⊢
    split at hr
    · exact (am_R_iff _ _ _ _ _ _ _ _).mp hr
    · cases hr
  obtain ⟨n, hn⟩ := this
  exact am_Met_of (r := (rv, h1)) (am_run_W hall hgd hCL n) hall h45 hn hN
