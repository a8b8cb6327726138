/-! Rows: loads, stores, lengths, new things. -/
section ROWS
variable {p : Program} {l : Launch} {e : Env} {R : Room} {s : State} {m : MethodId} {args : Array Value} {below : List Frame} {meth : Method} {c : Code} {Q : State → Prop} {E : AE} {n0 : Nat} {cc : ByteArray} {lv : LV} {st r : List Value} {h : AH} {pc : Nat}
theorem am_arr (hKK : va_K E.2.2.1 am_cls (am_tys E) s) {t0 : Nat} {kd : Nat} {ty : FieldType} (ht : (am_tys E)[t0]? = some (E.2.2.2.1 kd, ty)) (n : Nat) (z : Nat → Value) : s.isArrayOf (arrV (E.2.2.2.1 kd) n z) ty := (hKK.2 t0 _ ht).1 n z
theorem am_inA {cA : ClassId} {n : Nat} {z : Nat → Value} {i : Int32} (hin : vp_in i n) : ¬ (i < 0 ∨ (arrV cA n z).slots.size ≤ i.toNatClampNeg) := by rw [arrV_size]; exact hin
theorem am_rdA {cA : ClassId} {n : Nat} {z : Nat → Value} {i : Int32} (hin : vp_in i n) : (arrV cA n z).slots[i.toNatClampNeg]? = some (z i.toNatClampNeg) := arrV_read _ _ (Nat.not_le.mp fun q => hin (Or.inr q))
theorem am_arv {v : Cell} {kd : Nat} (hv : am_vok E kd v) {ty : FieldType} (ha : ArrOfT s (E.2.2.2.1 kd) ty) (n : Nat) (z : Nat → Value) : s.isArrayOf (am_av v n z) ty := by
  have h2 := (ha n z).2
  rcases hv with rfl | ⟨-, h3, -, h4⟩
  · exact ⟨fun k hk => (by cases hk), h2⟩
  · refine ⟨h4, ?_⟩
    obtain ⟨k, g1, g2⟩ := h2
    exact ⟨k, by show s.vm.classes[v.cls]? = _; rw [h3]; exact g1, g2⟩
theorem am_vun {v : Cell} {kd n : Nat} {z : Nat → Value} (hv : am_vok E kd v) : (am_av v n z).vm ≠ .unknown := by
  rcases hv with rfl | ⟨-, -, h3, -⟩
  · intro q; cases q
  · exact h3
theorem am_szV {v : Cell} {n : Nat} {z : Nat → Value} : (am_av v n z).slots.size = n := arrV_size 0 n z
theorem am_inV {v : Cell} {n : Nat} {z : Nat → Value} {i : Int32} (hin : vp_in i n) : ¬ (i < 0 ∨ (am_av v n z).slots.size ≤ i.toNatClampNeg) := by rw [am_szV]; exact hin
theorem am_rdV {v : Cell} {n : Nat} {z : Nat → Value} {i : Int32} (hin : vp_in i n) : (am_av v n z).slots[i.toNatClampNeg]? = some (z i.toNatClampNeg) := arrV_read 0 z (Nat.not_le.mp fun q => hin (Or.inr q))
theorem aw_iald (hx : p.tables.exec = Jvm.exec) (hb : c.code = cc) (hKK : va_K E.2.2.1 am_cls (am_tys E) s) (hKA : am_KA E s) (hd : decode cc pc = .ok (.iaload, 1)) {a : Nat} {i : Int32} (hka : hK h a = 50 ∨ hK h a = 57) (hin : vp_in i (hLN h a))
    (kk : am_W p l e R s m args below meth c Q E n0 (pc + 1) lv (.int (hAI h a i.toNatClampNeg) :: r) h) : am_W p l e R s m args below meth c Q E n0 pc lv (.int i :: .ref a :: r) h := by
  intro H locs ls hR hl hn hL hN
  have w := kk H locs ls hR hl hn hL hN
  have he := (hR.live (a := a) (by omega)).2
  obtain ⟨v, hv, hcell⟩ := hR.2.2.2.1 a (by omega)
  show W p l e R s m args below meth c H locs _ _ Q (F0 m pc ls (.int i :: eg E (.ref a) :: r.map (eg E)))
  rw [he]
  rcases hka with hka | hka
  · rw [hka] at hcell hv
    exact W.iald (v := .int (hAI h a i.toNatClampNeg)) hx hb hcell (am_arv hv (hKK.2 0 _ rfl).1 _ _) (am_vun hv) (am_inV hin) (am_rdV hin) rfl rfl hd w
  · rw [hka] at hcell hv
    exact W.iald (v := .int (hAI h a i.toNatClampNeg)) hx hb hcell (am_arv hv hKA.2 _ _) (am_vun hv) (am_inV hin) (am_rdV hin) rfl rfl hd w
theorem aw_cald (hx : p.tables.exec = Jvm.exec) (hb : c.code = cc) (hKK : va_K E.2.2.1 am_cls (am_tys E) s) (hd : decode cc pc = .ok (.caload, 1)) {a : Nat} {i : Int32} (hka : hK h a = 51) (hin : vp_in i (hLN h a))
    (kk : am_W p l e R s m args below meth c Q E n0 (pc + 1) lv (.int (hAI h a i.toNatClampNeg) :: r) h) : am_W p l e R s m args below meth c Q E n0 pc lv (.int i :: .ref a :: r) h := by
  intro H locs ls hR hl hn hL hN
  have w := kk H locs ls hR hl hn hL hN
  have he := (hR.live (a := a) (by omega)).2
  have hcell := hR.at0 (a := a) (by omega) (by unfold am_stt; omega)
  show W p l e R s m args below meth c H locs _ _ Q (F0 m pc ls (.int i :: eg E (.ref a) :: r.map (eg E)))
  rw [he]
  rw [hka] at hcell
  exact W.cald (v := .int (hAI h a i.toNatClampNeg)) hx hb hcell (am_arr hKK (t0 := 1) rfl _ _) (fun q => by cases q) (am_inA hin) (am_rdA hin) rfl rfl hd w
theorem aw_zald (hx : p.tables.exec = Jvm.exec) (hb : c.code = cc) (hKK : va_K E.2.2.1 am_cls (am_tys E) s) (hd : decode cc pc = .ok (.baload, 1)) {a : Nat} {i : Int32} (hka : hK h a = 52) (hin : vp_in i (hLN h a))
    (kk : am_W p l e R s m args below meth c Q E n0 (pc + 1) lv (.int (hAI h a i.toNatClampNeg) :: r) h) : am_W p l e R s m args below meth c Q E n0 pc lv (.int i :: .ref a :: r) h := by
  intro H locs ls hR hl hn hL hN
  have w := kk H locs ls hR hl hn hL hN
  have he := (hR.live (a := a) (by omega)).2
  have hcell := hR.at0 (a := a) (by omega) (by unfold am_stt; omega)
  show W p l e R s m args below meth c H locs _ _ Q (F0 m pc ls (.int i :: eg E (.ref a) :: r.map (eg E)))
  rw [he]
  rw [hka] at hcell
  exact W.zald (v := .int (hAI h a i.toNatClampNeg)) hx hb hcell (am_arr hKK (t0 := 2) rfl _ _) (fun q => by cases q) (am_inA hin) (am_rdA hin) rfl rfl hd w
theorem aw_lald (hx : p.tables.exec = Jvm.exec) (hb : c.code = cc) (hKK : va_K E.2.2.1 am_cls (am_tys E) s) (hd : decode cc pc = .ok (.laload, 1)) {a : Nat} {i : Int32} (hka : hK h a = 53) (hin : vp_in i (hLN h a))
    (kk : am_W p l e R s m args below meth c Q E n0 (pc + 1) lv (.long (hAJ h a i.toNatClampNeg) :: r) h) : am_W p l e R s m args below meth c Q E n0 pc lv (.int i :: .ref a :: r) h := by
  intro H locs ls hR hl hn hL hN
  have w := kk H locs ls hR hl hn hL hN
  have he := (hR.live (a := a) (by omega)).2
  have hcell := hR.at0 (a := a) (by omega) (by unfold am_stt; omega)
  show W p l e R s m args below meth c H locs _ _ Q (F0 m pc ls (.int i :: eg E (.ref a) :: r.map (eg E)))
  rw [he]
  rw [hka] at hcell
  exact W.lald (v := .long (hAJ h a i.toNatClampNeg)) hx hb hcell (am_arr hKK (t0 := 3) rfl _ _) (fun q => by cases q) (am_inA hin) (am_rdA hin) rfl rfl hd w
theorem aw_aald (hx : p.tables.exec = Jvm.exec) (hb : c.code = cc) (hKK : va_K E.2.2.1 am_cls (am_tys E) s) (hKA : am_KA E s) (hd : decode cc pc = .ok (.aaload, 1)) {a b : Nat} {i : Int32} (hka : hK h a = 54 ∨ hK h a = 55 ∨ hK h a = 56) (hin : vp_in i (hLN h a)) (hb1 : hAR h a i.toNatClampNeg = some b)
    (kk : am_W p l e R s m args below meth c Q E n0 (pc + 1) lv (.ref b :: r) h) : am_W p l e R s m args below meth c Q E n0 pc lv (.int i :: .ref a :: r) h := by
  intro H locs ls hR hl hn hL hN
  have w := kk H locs ls hR hl hn hL hN
  have he := (hR.live (a := a) (by omega)).2
  obtain ⟨v, hv, hcell⟩ := hR.2.2.2.1 a (by omega)
  show W p l e R s m args below meth c H locs _ _ Q (F0 m pc ls (.int i :: eg E (.ref a) :: r.map (eg E)))
  rw [he]
  rcases hka with hka | hka | hka
  · rw [hka] at hcell hv
    exact W.aald (v := eg E (.ref b)) hx hb hcell (am_arv hv (hKK.2 4 _ rfl).1 _ _) rfl (am_vun hv) (am_inV hin) (by rw [am_rdV hin]; show some (eg E (.ref ((hAR h a i.toNatClampNeg).getD nul))) = _; rw [hb1]; rfl) rfl rfl hd w
  · rw [hka] at hcell hv
    exact W.aald (v := eg E (.ref b)) hx hb hcell (am_arv hv (hKK.2 5 _ rfl).1 _ _) rfl (am_vun hv) (am_inV hin) (by rw [am_rdV hin]; show some (eg E (.ref ((hAR h a i.toNatClampNeg).getD nul))) = _; rw [hb1]; rfl) rfl rfl hd w
  · rw [hka] at hcell hv
    exact W.aald (v := eg E (.ref b)) hx hb hcell (am_arv hv hKA.1 _ _) rfl (am_vun hv) (am_inV hin) (by rw [am_rdV hin]; show some (eg E (.ref ((hAR h a i.toNatClampNeg).getD nul))) = _; rw [hb1]; rfl) rfl rfl hd w
/-- a row gets one element: the picture behind it -/
theorem am_Rel.elI {H H1 : Heap} {a i : Nat} {v : Int32} (hR : am_Rel E h H) (hka : hK h a = 50 ∨ hK h a = 51 ∨ hK h a = 52) (hz : H1.size = H.size) (ho : ∀ x, x ≠ ea E a → H1[x]? = H[x]?)
    (hc : H1[ea E a]? = some (arrV (E.2.2.2.1 (hK h a)) (hLN h a) (updV (fun j => .int (hAI h a j)) i (.int v)))) : am_Rel E (sEI h a i v) H1 := by
  refine hR.row (h1 := sEI h a i v) (by omega) (by unfold am_stt; omega) rfl rfl rfl (fun ci k b => rfl) (fun b hb kd j => ?_) (fun b => ⟨rfl, rfl⟩) hz ho ?_
  · unfold am_el
    split <;> first | rfl | (show Value.int (am_up (hAI h) a _ b j) = _; rw [am_up_ne hb])
  · rw [hc]
    congr 2
    funext j
    have hq : am_el (sEI h a i v) (hK h a) a j = .int (upd (hAI h a) i v j) := by
      have h1 : hAI (sEI h a i v) a j = upd (hAI h a) i v j := by
        show am_up (hAI h) a _ a j = _
        rw [am_up_eq]
      rcases hka with hka | hka | hka <;> rw [hka] <;> exact congrArg Value.int h1
    rw [hq]
    show updV (fun j => Value.int (hAI h a j)) i (.int v) j = .int (upd (hAI h a) i v j)
    unfold updV upd
    by_cases e1 : j = i
    · rw [if_pos e1, if_pos e1]
    · rw [if_neg e1, if_neg e1]
theorem am_locs {locs : List Loc} {a j : Nat} (hL : ∀ q ∈ locs, E.1 ≤ q.base) (hd : ea E a = E.1 + a) : ∀ q ∈ locs ++ [(⟨ea E a, j⟩ : Loc)], E.1 ≤ q.base := by
  intro x hx
  rcases List.mem_append.mp hx with hx | hx
  · exact hL x hx
  · rw [List.mem_singleton] at hx
    rw [hx]
    show E.1 ≤ ea E a
    rw [hd]; exact Nat.le_add_right _ _
theorem aw_iast (hx : p.tables.exec = Jvm.exec) (hb : c.code = cc) (hKK : va_K E.2.2.1 am_cls (am_tys E) s) (hd : decode cc pc = .ok (.iastore, 1)) {a : Nat} {i v : Int32} (hka : hK h a = 50) (hin : vp_in i (hLN h a))
    (kk : am_W p l e R s m args below meth c Q E n0 (pc + 1) lv r (sEI h a i.toNatClampNeg v)) : am_W p l e R s m args below meth c Q E n0 pc lv (.int v :: .int i :: .ref a :: r) h := by
  intro H locs ls hR hl hn hL hN
  have he := (hR.live (a := a) (by omega)).2
  obtain ⟨d1, d2⟩ := hR.dyn (a := a) (by omega) (by unfold am_stt; omega)
  have hcell := hR.at0 (a := a) (by omega) (by unfold am_stt; omega)
  show W p l e R s m args below meth c H locs _ _ Q (F0 m pc ls (.int v :: .int i :: eg E (.ref a) :: r.map (eg E)))
  rw [he]
  have hk2 := hka
  rw [hka] at hcell
  refine W.iast hx hb hcell (am_arr hKK (t0 := 0) rfl _ _) (fun q => by cases q) (am_inA hin) rfl rfl hd fun H1 g1 g2 g3 => ?_
  exact kk H1 _ ls (hR.elI (Or.inl hk2) g2 g3 (by rw [g1, arrV_store, hk2]; rfl)) hl hn (am_locs hL d2) hN
theorem narrow_char_in {x : Int32} (h : ¬ (x < 0 ∨ 65535 < x)) : narrow .char (.int x) = .int x ∧ fits .char (.int x) = true := by
  have h1 : 0 ≤ x.toInt := by
    have := Int32.not_lt.mp (fun q => h (Or.inl q))
    simpa using Int32.le_iff_toInt_le.mp this
  have h2 : x.toInt ≤ 65535 := by
    have := Int32.not_lt.mp (fun q => h (Or.inr q))
    simpa using Int32.le_iff_toInt_le.mp this
  have h3 : x = nI x.toInt.toNat := by
    apply Int32.toInt_inj.mp
    rw [nI_toInt (by omega)]
    omega
  rw [h3]
  exact pk_charN (by omega)
theorem narrow_bool_in {x : Int32} (h : x = 0 ∨ x = 1) : narrow .boolean (.int x) = .int x ∧ fits .boolean (.int x) = true := by
  rcases h with rfl | rfl <;> decide
theorem aw_cast (hx : p.tables.exec = Jvm.exec) (hb : c.code = cc) (hKK : va_K E.2.2.1 am_cls (am_tys E) s) (hd : decode cc pc = .ok (.castore, 1)) {a : Nat} {i v : Int32} (hka : hK h a = 51) (hin : vp_in i (hLN h a)) (hv : ¬ (v < 0 ∨ 65535 < v))
    (kk : am_W p l e R s m args below meth c Q E n0 (pc + 1) lv r (sEI h a i.toNatClampNeg v)) : am_W p l e R s m args below meth c Q E n0 pc lv (.int v :: .int i :: .ref a :: r) h := by
  intro H locs ls hR hl hn hL hN
  have he := (hR.live (a := a) (by omega)).2
  obtain ⟨d1, d2⟩ := hR.dyn (a := a) (by omega) (by unfold am_stt; omega)
  have hcell := hR.at0 (a := a) (by omega) (by unfold am_stt; omega)
  show W p l e R s m args below meth c H locs _ _ Q (F0 m pc ls (.int v :: .int i :: eg E (.ref a) :: r.map (eg E)))
  rw [he]
  have hk2 := hka
  rw [hka] at hcell
  refine W.cast hx hb hcell (am_arr hKK (t0 := 1) rfl _ _) (fun q => by cases q) (am_inA hin) rfl rfl hd fun H1 g1 g2 g3 => ?_
  exact kk H1 _ ls (hR.elI (Or.inr (Or.inl hk2)) g2 g3 (by rw [g1, (narrow_char_in hv).1, arrV_store, hk2]; rfl)) hl hn (am_locs hL d2) hN
theorem aw_zast (hx : p.tables.exec = Jvm.exec) (hb : c.code = cc) (hKK : va_K E.2.2.1 am_cls (am_tys E) s) (hd : decode cc pc = .ok (.bastore, 1)) {a : Nat} {i v : Int32} (hka : hK h a = 52) (hin : vp_in i (hLN h a)) (hv : v = 0 ∨ v = 1)
    (kk : am_W p l e R s m args below meth c Q E n0 (pc + 1) lv r (sEI h a i.toNatClampNeg v)) : am_W p l e R s m args below meth c Q E n0 pc lv (.int v :: .int i :: .ref a :: r) h := by
  intro H locs ls hR hl hn hL hN
  have he := (hR.live (a := a) (by omega)).2
  obtain ⟨d1, d2⟩ := hR.dyn (a := a) (by omega) (by unfold am_stt; omega)
  have hcell := hR.at0 (a := a) (by omega) (by unfold am_stt; omega)
  show W p l e R s m args below meth c H locs _ _ Q (F0 m pc ls (.int v :: .int i :: eg E (.ref a) :: r.map (eg E)))
  rw [he]
  have hk2 := hka
  rw [hka] at hcell
  refine W.zast hx hb hcell (am_arr hKK (t0 := 2) rfl _ _) (fun q => by cases q) (am_inA hin) rfl rfl hd fun H1 g1 g2 g3 => ?_
  exact kk H1 _ ls (hR.elI (Or.inr (Or.inr hk2)) g2 g3 (by rw [g1, (narrow_bool_in hv).1, arrV_store, hk2]; rfl)) hl hn (am_locs hL d2) hN
theorem aw_last (hx : p.tables.exec = Jvm.exec) (hb : c.code = cc) (hKK : va_K E.2.2.1 am_cls (am_tys E) s) (hd : decode cc pc = .ok (.lastore, 1)) {a : Nat} {i : Int32} {v : Int64} (hka : hK h a = 53) (hin : vp_in i (hLN h a))
    (kk : am_W p l e R s m args below meth c Q E n0 (pc + 1) lv r (sEJ h a i.toNatClampNeg v)) : am_W p l e R s m args below meth c Q E n0 pc lv (.long v :: .int i :: .ref a :: r) h := by
  intro H locs ls hR hl hn hL hN
  have he := (hR.live (a := a) (by omega)).2
  obtain ⟨d1, d2⟩ := hR.dyn (a := a) (by omega) (by unfold am_stt; omega)
  have hcell := hR.at0 (a := a) (by omega) (by unfold am_stt; omega)
  show W p l e R s m args below meth c H locs _ _ Q (F0 m pc ls (.long v :: .int i :: eg E (.ref a) :: r.map (eg E)))
  rw [he]
  have hk2 := hka
  rw [hka] at hcell
  refine W.last hx hb hcell (am_arr hKK (t0 := 3) rfl _ _) (fun q => by cases q) (am_inA hin) rfl rfl hd fun H1 g1 g2 g3 => ?_
  refine kk H1 _ ls ?_ hl hn (am_locs hL d2) hN
  refine hR.row (h1 := sEJ h a i.toNatClampNeg v) (by omega) (by unfold am_stt; omega) rfl rfl rfl (fun ci k b => rfl) (fun b hb kd j => ?_) (fun b => ⟨rfl, rfl⟩) g2 g3 ?_
  · unfold am_el
    split <;> first | rfl | (show Value.long (am_up (hAJ h) a _ b j) = _; rw [am_up_ne hb])
  · rw [g1, arrV_store, hk2]
    congr 2
    funext j
    show updV (fun j => Value.long (hAJ h a j)) i.toNatClampNeg (.long v) j = .long (am_up (hAJ h) a (vp_updL (hAJ h a) i.toNatClampNeg v) a j)
    rw [am_up_eq]
    unfold updV vp_updL
    by_cases e1 : j = i.toNatClampNeg
    · rw [if_pos e1, if_pos e1]
    · rw [if_neg e1, if_neg e1]
end ROWS
