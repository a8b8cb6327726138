/-! References in rows, lengths, new things, statics, words, copies. -/
section NEWS
variable {p : Program} {l : Launch} {e : Env} {R : Room} {s : State} {m : MethodId} {args : Array Value} {below : List Frame} {meth : Method} {c : Code} {Q : State → Prop} {E : AE} {n0 : Nat} {cc : ByteArray} {lv : LV} {st r : List Value} {h : AH} {pc : Nat}
theorem aw_aast (hx : p.tables.exec = Jvm.exec) (hb : c.code = cc) (hKK : va_K E.2.2.1 am_cls (am_tys E) s) (hd : decode cc pc = .ok (.aastore, 1)) {t0 ci kd : Nat} {q : vw_C} (ht : (am_tys E)[t0]? = some (E.2.2.2.1 kd, .object q.1)) (hc : am_cls[ci]? = some q) (hkd : kd = 54 ∨ kd = 55) (h13 : ci < 13) (h10 : ci ≠ 10)
    {a v : Nat} {i : Int32} (hka : hK h a = kd) (hkv : hK h v = ci + 1) (hin : vp_in i (hLN h a)) (kk : am_W p l e R s m args below meth c Q E n0 (pc + 1) lv r (sER h a i.toNatClampNeg (some v))) : am_W p l e R s m args below meth c Q E n0 pc lv (.ref v :: .int i :: .ref a :: r) h := by
  intro H locs ls hR hl hn hL hN
  have he := (hR.live (a := a) (by omega)).2
  have hev := (hR.live (a := v) (by omega)).2
  obtain ⟨d1, d2⟩ := hR.dyn (a := a) (by omega) (by unfold am_stt; omega)
  have hcell := hR.at0 (a := a) (by omega) (by unfold am_stt; omega)
  obtain ⟨q', hq', cellV, g1, g2, g3, -⟩ := hR.2.2.1 v ci hkv h13 h10
  have hcls := (hKK.1 ci q hc).2
  obtain ⟨kA, comp, k1, k2, k3, -⟩ := (hKK.2 t0 _ ht).2
  have hcomp : comp = E.2.2.1.1 ci := Option.some.inj (k3.symm.trans hcls.1)
  subst hcomp
  obtain ⟨kC, hkC, -⟩ := hcls.2
  have hlt : i.toNatClampNeg < hLN h a := Nat.not_le.mp fun q => hin (Or.inr q)
  have h0 : ¬ i < 0 := fun q => hin (Or.inl q)
  show W p l e R s m args below meth c H locs _ _ Q (F0 m pc ls (eg E (.ref v) :: .int i :: eg E (.ref a) :: r.map (eg E)))
  rw [he, hev]
  rw [hka] at hcell
  refine W.aast hx hb hcell (fun q h => by cases h) (fun h => by cases h) k1 k2 rfl hkC ⟨h0, by rw [arrV_size]; exact hlt⟩ g1 (fun q h => by rw [g3] at h; cases h) (by rw [g2]; exact hkC) (by rw [g2]; exact va_assign hcls) rfl rfl hd fun H1 f1 f2 f3 => ?_
  refine kk H1 _ ls ?_ hl hn (am_locs hL d2) hN
  refine hR.row (h1 := sER h a i.toNatClampNeg (some v)) (by omega) (by unfold am_stt; omega) rfl rfl rfl (fun ci k b => rfl) (fun b hb kd j => ?_) (fun b => ⟨rfl, rfl⟩) f2 f3 ?_
  · unfold am_el
    split <;> first | rfl | (show Value.ref ((am_up (hAR h) a _ b j).getD nul) = _; rw [am_up_ne hb])
  · rw [f1, arrV_store, hka]
    congr 2
    funext j
    have hq : am_el (sER h a i.toNatClampNeg (some v)) kd a j = .ref ((am_up (hAR h a) i.toNatClampNeg (some v) j).getD nul) := by
      have h1 : hAR (sER h a i.toNatClampNeg (some v)) a j = am_up (hAR h a) i.toNatClampNeg (some v) j := by
        show am_up (hAR h) a _ a j = _
        rw [am_up_eq]
      rcases hkd with hkd | hkd <;> rw [hkd] <;> exact congrArg (fun z : Option Nat => Value.ref (z.getD nul)) h1
    have hq0 : ∀ j, am_el h kd a j = .ref ((hAR h a j).getD nul) := fun j => by
      rcases hkd with hkd | hkd <;> rw [hkd] <;> rfl
    rw [hq]
    unfold updV am_up
    by_cases e1 : j = i.toNatClampNeg
    · rw [if_pos e1, if_pos e1]; exact hev.symm
    · rw [if_neg e1, if_neg e1]
      exact congrArg (eg E) (hq0 j)
theorem aw_alen (hx : p.tables.exec = Jvm.exec) (hb : c.code = cc) (hd : decode cc pc = .ok (.arraylength, 1)) {ty : FieldType} {a : Nat} (h50 : 50 ≤ hK h a) (ha : ArrOfT s (E.2.2.2.1 (hK h a)) ty)
    (kk : am_W p l e R s m args below meth c Q E n0 (pc + 1) lv (.int (Int32.ofNat (hLN h a)) :: r) h) : am_W p l e R s m args below meth c Q E n0 pc lv (.ref a :: r) h := by
  intro H locs ls hR hl hn hL hN
  have w := kk H locs ls hR hl hn hL hN
  have he := (hR.live (a := a) (by omega)).2
  obtain ⟨v, hv, hcell⟩ := hR.2.2.2.1 a h50
  show W p l e R s m args below meth c H locs _ _ Q (F0 m pc ls (eg E (.ref a) :: r.map (eg E)))
  rw [he]
  exact W.alen (n := Int32.ofNat (hLN h a)) hx hb hcell (am_arv hv ha _ _) (by rw [am_szV]) rfl rfl hd w
theorem am_nxe {n : Nat} (hb : n + 1 ≤ 1000000) : eg E (.ref n) = .ref (E.1 + n) := by
  show (if n = nul then Value.null else Value.ref (ea E n)) = _
  rw [if_neg (by unfold nul; omega)]
  unfold ea
  rw [if_pos (by omega)]
theorem aw_newa (hx : p.tables.exec = Jvm.exec) (hb : c.code = cc) {TB : List Cond} (hts : ∀ w ∈ TB, w.before args s = true) (hKK : va_K E.2.2.1 am_cls (am_tys E) s) {atype : ArrayType} (harr : Cond.arrayClass (newarray.typeOf atype) ∈ TB) (hd : decode cc pc = .ok (.newarray atype, 2))
    {t0 kd : Nat} (ht : (am_tys E)[t0]? = some (E.2.2.2.1 kd, newarray.typeOf atype)) (hkd : 50 ≤ kd ∧ kd ≤ 53) (hdf : ∀ j, eg E (am_el (nArr h kd (0 : Nat)) kd (hNX h) j) = defaultValue (newarray.typeOf atype)) (hra : va_RA s (E.2.2.2.1 kd) (newarray.typeOf atype) → s.vm.findClass ("[" ++ (newarray.typeOf atype).toString) = some (E.2.2.2.1 kd))
    {n : Int32} (hn1 : ¬ n < 0) (hn2 : n.toNatClampNeg ≤ 2048) (hcb : componentBytes (newarray.typeOf atype) ≤ 8) (hrm : hNX h + 1 - n0 ≤ R.cells ∧ 2048 * (hNX h + 1 - n0) ≤ R.slots) (hbd : hNX h + 1 ≤ 1000000)
    (kk : am_W p l e R s m args below meth c Q E n0 (pc + 2) lv (.ref (hNX h) :: r) (nArr h kd n.toNatClampNeg)) : am_W p l e R s m args below meth c Q E n0 pc lv (.int n :: r) h := by
  intro H locs ls hR hl hn hL hN
  show W p l e R s m args below meth c H locs _ _ Q (F0 m pc ls (.int n :: r.map (eg E)))
  refine va_newaK hx hb (hts _ harr) rfl hd rfl hn1 rfl (Nat.le_trans (Nat.mul_le_mul hn2 hcb) (Nat.le_of_ble_eq_true rfl)) (by omega) (by omega) rfl fun H1 cA g1 g2 g3 g4 g5 => ?_
  have hcA : cA = E.2.2.2.1 kd := Option.some.inj (g5.symm.trans (hra (hKK.2 t0 _ ht).2))
  subst hcA
  have hsz := hR.1
  have hst : ¬ am_stt kd := by unfold am_stt; omega
  have hR1 : am_Rel E (nArr h kd n.toNatClampNeg) H1 := hR.nar hkd.1 hst hbd (by omega) g2 g3 (by
    rw [← hsz, g1]
    congr 2
    funext j
    exact (hdf j).symm)
  have w := kk H1 locs ls hR1 hl hn hL (Nat.le_succ_of_le hN)
  have e1 : hNX (nArr h kd n.toNatClampNeg) - n0 = hNX h - n0 + 1 := by show hNX h + 1 - n0 = _; omega
  rw [e1] at w
  refine W.widen (Nat.le_refl _) (by omega) (W.eq ?_ w)
  show F0 m (pc + 2) ls (.ref H.size :: _) = F0 m (pc + 2) ls (eg E (.ref (hNX h)) :: _)
  rw [am_nxe hbd, hsz]
theorem aw_anew (hx : p.tables.exec = Jvm.exec) (hb : c.code = cc) {own : String} {TB : List Cond} (hts : ∀ w ∈ TB, w.before args s = true) (hown : s.vm.findClass own = some m.cls) (hKK : va_K E.2.2.1 am_cls (am_tys E) s) {idx : Nat} {C : String} (hclink : Cond.classLink own idx C ∈ TB) (hover : (Cond.arrayOver (.object C)).before args s = true) (hd : decode cc pc = .ok (.anewarray idx, 3))
    {t0 kd : Nat} (ht : (am_tys E)[t0]? = some (E.2.2.2.1 kd, .object C)) (hkd : kd = 54 ∨ kd = 55)
    {n : Int32} (hn1 : ¬ n < 0) (hn2 : n.toNatClampNeg ≤ 2048) (hrm : hNX h + 1 - n0 ≤ R.cells ∧ 2048 * (hNX h + 1 - n0) ≤ R.slots) (hbd : hNX h + 1 ≤ 1000000)
    (kk : am_W p l e R s m args below meth c Q E n0 (pc + 3) lv (.ref (hNX h) :: r) (nArr h kd n.toNatClampNeg)) : am_W p l e R s m args below meth c Q E n0 pc lv (.int n :: r) h := by
  intro H locs ls hR hl hn hL hN
  show W p l e R s m args below meth c H locs _ _ Q (F0 m pc ls (.int n :: r.map (eg E)))
  refine W.anew hx hb hown (hts _ hclink) hover rfl hd rfl hn1 (by omega) (by omega) (by omega) fun cA kA comp f1 f2 f3 f4 => ?_
  obtain ⟨_, _, _, _, _, k4⟩ := (hKK.2 t0 _ ht).2
  have hcA : cA = E.2.2.2.1 kd := Option.some.inj (f1.symm.trans k4)
  subst hcA
  have hsz := hR.1
  have hst : ¬ am_stt kd := by unfold am_stt; omega
  have hR1 : am_Rel E (nArr h kd n.toNatClampNeg) (H.push { cls := E.2.2.2.1 kd, slots := Array.replicate n.toNatClampNeg .null, vm := .none }) := hR.nar (by omega) hst hbd (by omega) (by simp) (fun x hx => by
      rw [Array.getElem?_push, if_neg (Nat.ne_of_lt hx)]) (by
    rw [← hsz, arrV_new]
    simp only [Array.getElem?_push, if_true]
    congr 2
    funext j
    have h1 : hAR (nArr h kd n.toNatClampNeg) (hNX h) j = none := by
      show am_up (hAR h) (hNX h) _ (hNX h) j = _
      rw [am_up_eq]
    have h2 : am_el (nArr h kd n.toNatClampNeg) kd (hNX h) j = .ref nul := by
      rcases hkd with hkd | hkd <;> subst hkd <;> exact congrArg (fun z : Option Nat => Value.ref (z.getD nul)) h1
    rw [h2]
    rfl)
  have w := kk _ locs ls hR1 hl hn hL (Nat.le_succ_of_le hN)
  have e1 : hNX (nArr h kd n.toNatClampNeg) - n0 = hNX h - n0 + 1 := by show hNX h + 1 - n0 = _; omega
  rw [e1] at w
  refine W.widen (Nat.le_refl _) (by omega) (W.eq ?_ w)
  show F0 m (pc + 3) ls (.ref H.size :: _) = F0 m (pc + 3) ls (eg E (.ref (hNX h)) :: _)
  rw [am_nxe hbd, hsz]
theorem aw_new (hx : p.tables.exec = Jvm.exec) (hb : c.code = cc) {own : String} {TB : List Cond} (hts : ∀ w ∈ TB, w.before args s = true) (hown : s.vm.findClass own = some m.cls) (hKK : va_K E.2.2.1 am_cls (am_tys E) s) {idx ci : Nat} {C : String} {T : u_T} {N n : Nat} (hc : am_cls[ci]? = some (C, T, N)) (hin : ∀ w ∈ u_ws C T N, w ∈ TB) (ty0 : Nat → FieldType) (hty : ∀ k, k < N → parseFieldDescriptor (T k).2.2.1 = some (ty0 k))
    (hclink : Cond.classLink own idx C ∈ TB) (hinst : Cond.instantiable C n ∈ TB) (hini : Cond.initialized C ∈ TB) (hd : decode cc pc = .ok (.new idx, 3)) (h13 : ci < 13) (h10 : ci ≠ 10) (hn : n ≤ 2048)
    (hdf : ∀ k, k < N → defaultValue (ty0 k) = match am_tyc ci k with
      | 1 => .long 0
      | 2 => .null
      | 3 => .null
      | _ => .int 0)
    (hrm : hNX h + 1 - n0 ≤ R.cells ∧ 2048 * (hNX h + 1 - n0) ≤ R.slots) (hbd : hNX h + 1 ≤ 1000000)
    (kk : am_W p l e R s m args below meth c Q E n0 (pc + 3) lv (.ref (hNX h) :: st) (nObj h (ci + 1))) : am_W p l e R s m args below meth c Q E n0 pc lv st h := by
  intro H locs ls hR hl hnl hL hN
  have hKn := hKK.1 ci _ hc
  refine W.newcK hx hb hown (hts _ hclink) (hts _ hinst) (hts _ hini) rfl hd (by omega) (by omega) hKn.2.1 rfl fun H1 kC hkC g1 g2 g3 => ?_
  have hsz := hR.1
  have hR1 : am_Rel E (nObj h (ci + 1)) H1 := hR.nob h13 h10 hc hbd g2 g3 (by
    rw [← hsz]
    refine (u_born ty0 hts hin hKn hkC g1 hty).to (fun k hk => ?_)
    rw [hdf k hk]
    have z1 : hFI (nObj h (ci + 1)) (100 * ci + k) (hNX h) = 0 := by show (if hNX h = hNX h then _ else _) = _; rw [if_pos rfl]
    have z2 : hFJ (nObj h (ci + 1)) (100 * ci + k) (hNX h) = 0 := by show (if hNX h = hNX h then _ else _) = _; rw [if_pos rfl]
    have z3 : hFR (nObj h (ci + 1)) (100 * ci + k) (hNX h) = none := by show (if hNX h = hNX h then _ else _) = _; rw [if_pos rfl]
    unfold am_fv
    rw [z1, z2, z3]
    generalize am_tyc ci k = t
    match t with
    | 0 => rfl
    | 1 => rfl
    | 2 => rfl
    | 3 => rfl
    | _ + 4 => rfl)
  have w := kk H1 locs ls hR1 hl hnl hL (Nat.le_succ_of_le hN)
  have e1 : hNX (nObj h (ci + 1)) - n0 = hNX h - n0 + 1 := by show hNX h + 1 - n0 = _; omega
  rw [e1] at w
  refine W.widen (Nat.le_refl _) (by omega) (W.eq ?_ w)
  show F0 m (pc + 3) ls (.ref H.size :: _) = F0 m (pc + 3) ls (eg E (.ref (hNX h)) :: _)
  rw [am_nxe hbd, hsz]
/-- a static field of the words' class holds v -/
theorem aw_gets (hx : p.tables.exec = Jvm.exec) (hb : c.code = cc) {own n d : String} {TB : List Cond} (hts : ∀ w ∈ TB, w.before args s = true) (hown : s.vm.findClass own = some m.cls) {idx a : Nat} (hlink : Cond.fieldLink own idx RX10 n d ∈ TB) (hZ : va_Z RX10 n d (eg E (.ref a)) (fun q => E.1 ≤ q) s E.2.2.2.2) (hd : decode cc pc = .ok (.getstatic idx, 3))
    (kk : am_W p l e R s m args below meth c Q E n0 (pc + 3) lv (.ref a :: st) h) : am_W p l e R s m args below meth c Q E n0 pc lv st h := by
  intro H locs ls hR hl hn hL hN
  have w := kk H locs ls hR hl hn hL hN
  obtain ⟨cf, kf, fi, f, q, cell, h1, h2, h3, h4, h5, h6, h7, h8⟩ := hZ
  exact W.gets hx hb hown (hts _ hlink) h1 h2 h3 h4 (by rw [hR.2.1 q (Nat.not_le.mp h8)]; exact h5) (fun e => by rw [e] at h6; cases h6) h7 rfl hd w
theorem aw_wordf (hx : p.tables.exec = Jvm.exec) (hb : c.code = cc) {own n d : String} {TB : List Cond} (hts : ∀ w ∈ TB, w.before args s = true) (hown : s.vm.findClass own = some m.cls) {idx a : Nat} {v : Value} (hlink : Cond.fieldLink own idx RX10 n d ∈ TB ∨ ∃ host, (Cond.fieldLinkNest own idx RX10 n d host).before args s = true) (hka : hK h a = 11)
    (hO : ∀ H, am_Rel E h H → va_OF RX10 n d v (E.2.1 (a - 1000000)) (fun q => E.1 ≤ q) s E.2.2.2.2) (hv : eg E v = v) (hd : decode cc pc = .ok (.getfield idx, 3))
    (kk : am_W p l e R s m args below meth c Q E n0 (pc + 3) lv (v :: r) h) : am_W p l e R s m args below meth c Q E n0 pc lv (.ref a :: r) h := by
  intro H locs ls hR hl hn hL hN
  have w := kk H locs ls hR hl hn hL hN
  have he := (hR.live (a := a) (by omega)).2
  obtain ⟨w1, w2, -, -⟩ := hR.2.2.2.2.2.2.2 a hka
  show W p l e R s m args below meth c H locs _ _ Q (F0 m pc ls (eg E (.ref a) :: r.map (eg E)))
  rw [he, show ea E a = E.2.1 (a - 1000000) by unfold ea; rw [if_neg (by omega)]]
  obtain ⟨cf, k, i, f, cell, h1, h2, h3, h4, h5, h6⟩ := hO H hR
  have hcell : H[E.2.1 (a - 1000000)]? = some cell := by rw [hR.2.1 _ (Nat.not_le.mp h6)]; exact h3
  have w' : W p l e R s m args below meth c H locs (hNX h - n0) (2048 * (hNX h - n0)) Q (F0 m (pc + 3) ls (v :: r.map (eg E))) := by
    have := w
    rw [List.map_cons, hv] at this
    exact this
  rcases hlink with hlink | ⟨host, hlink⟩
  · exact W.getf hx hb hown (hts _ hlink) h1 h2 hcell h4 h5 rfl rfl hd w'
  · exact va_Wgetf hx hb hown hlink h1 h2 hcell h4 (v := v) h5 rfl rfl hd w'
end NEWS
