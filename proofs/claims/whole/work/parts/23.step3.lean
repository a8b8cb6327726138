/-! Steps: rows, new things, calls; then any step. -/
section STEP3
variable {p : Program} {l : Launch} {e : Env} {R : Room} {s : State} {m : MethodId} {args : Array Value} {below : List Frame} {meth : Method} {c : Code} {Q : State → Prop} {E : AE} {n0 : Nat} {cc : ByteArray} {lv : LV} {st : List Value} {h : AH} {pc len x : Nat}
  {call : Nat → List Value → AH → Option Res} {K : Nat → LV → List Value → AH → Option Res} {r : Res} {own : String} {TB : List Cond} {MT : Nat → MTE} {d : Nat}
theorem sp_iaload (hx : p.tables.exec = Jvm.exec) (hb : c.code = cc) (hkk : ∀ pc1 lv1 st1 h1, K pc1 lv1 st1 h1 = some r → am_W p l e R s m args below meth c Q E n0 pc1 lv1 st1 h1) (hKS : am_KS E s) (hd : decode cc pc = .ok (.iaload, 1)) (hok : x = 50 ∨ x = 57) (hs : stp call K (pc, 1, x, .iaload) lv st h = some r) : am_W p l e R s m args below meth c Q E n0 pc lv st h := by
  dsimp only [stp] at hs
  obtain ⟨j, t, rfl, h1⟩ := pI_inv hs
  obtain ⟨a, u, rfl, h2⟩ := pR_inv h1
  obtain ⟨h3, h4⟩ := am_kd_inv h2
  obtain ⟨h5, h6⟩ := am_in_inv h4
  exact aw_iald hx hb hKS.1 hKS.2.2.2.2.2.2.2 hd (by omega) h5 (hkk _ _ _ _ h6)
theorem sp_caload (hx : p.tables.exec = Jvm.exec) (hb : c.code = cc) (hkk : ∀ pc1 lv1 st1 h1, K pc1 lv1 st1 h1 = some r → am_W p l e R s m args below meth c Q E n0 pc1 lv1 st1 h1) (hKS : am_KS E s) (hd : decode cc pc = .ok (.caload, 1)) (hs : stp call K (pc, 1, x, .caload) lv st h = some r) : am_W p l e R s m args below meth c Q E n0 pc lv st h := by
  dsimp only [stp] at hs
  obtain ⟨j, t, rfl, h1⟩ := pI_inv hs
  obtain ⟨a, u, rfl, h2⟩ := pR_inv h1
  obtain ⟨h3, h4⟩ := am_kd_inv h2
  obtain ⟨h5, h6⟩ := am_in_inv h4
  exact aw_cald hx hb hKS.1 hd h3 h5 (hkk _ _ _ _ h6)
theorem sp_baload (hx : p.tables.exec = Jvm.exec) (hb : c.code = cc) (hkk : ∀ pc1 lv1 st1 h1, K pc1 lv1 st1 h1 = some r → am_W p l e R s m args below meth c Q E n0 pc1 lv1 st1 h1) (hKS : am_KS E s) (hd : decode cc pc = .ok (.baload, 1)) (hs : stp call K (pc, 1, x, .baload) lv st h = some r) : am_W p l e R s m args below meth c Q E n0 pc lv st h := by
  dsimp only [stp] at hs
  obtain ⟨j, t, rfl, h1⟩ := pI_inv hs
  obtain ⟨a, u, rfl, h2⟩ := pR_inv h1
  obtain ⟨h3, h4⟩ := am_kd_inv h2
  obtain ⟨h5, h6⟩ := am_in_inv h4
  exact aw_zald hx hb hKS.1 hd h3 h5 (hkk _ _ _ _ h6)
theorem sp_laload (hx : p.tables.exec = Jvm.exec) (hb : c.code = cc) (hkk : ∀ pc1 lv1 st1 h1, K pc1 lv1 st1 h1 = some r → am_W p l e R s m args below meth c Q E n0 pc1 lv1 st1 h1) (hKS : am_KS E s) (hd : decode cc pc = .ok (.laload, 1)) (hs : stp call K (pc, 1, x, .laload) lv st h = some r) : am_W p l e R s m args below meth c Q E n0 pc lv st h := by
  dsimp only [stp] at hs
  obtain ⟨j, t, rfl, h1⟩ := pI_inv hs
  obtain ⟨a, u, rfl, h2⟩ := pR_inv h1
  obtain ⟨h3, h4⟩ := am_kd_inv h2
  obtain ⟨h5, h6⟩ := am_in_inv h4
  exact aw_lald hx hb hKS.1 hd h3 h5 (hkk _ _ _ _ h6)
theorem sp_aaload (hx : p.tables.exec = Jvm.exec) (hb : c.code = cc) (hkk : ∀ pc1 lv1 st1 h1, K pc1 lv1 st1 h1 = some r → am_W p l e R s m args below meth c Q E n0 pc1 lv1 st1 h1) (hKS : am_KS E s) (hd : decode cc pc = .ok (.aaload, 1)) (hok : x = 54 ∨ x = 55 ∨ x = 56) (hs : stp call K (pc, 1, x, .aaload) lv st h = some r) : am_W p l e R s m args below meth c Q E n0 pc lv st h := by
  dsimp only [stp] at hs
  obtain ⟨j, t, rfl, h1⟩ := pI_inv hs
  obtain ⟨a, u, rfl, h2⟩ := pR_inv h1
  obtain ⟨h3, h4⟩ := am_kd_inv h2
  obtain ⟨h5, h6⟩ := am_in_inv h4
  obtain ⟨b, h7, h8⟩ := bR_inv h6
  exact aw_aald hx hb hKS.1 hKS.2.2.2.2.2.2.2 hd (by omega) h5 h7 (hkk _ _ _ _ h8)
theorem sp_iastore (hx : p.tables.exec = Jvm.exec) (hb : c.code = cc) (hkk : ∀ pc1 lv1 st1 h1, K pc1 lv1 st1 h1 = some r → am_W p l e R s m args below meth c Q E n0 pc1 lv1 st1 h1) (hKS : am_KS E s) (hd : decode cc pc = .ok (.iastore, 1)) (hs : stp call K (pc, 1, x, .iastore) lv st h = some r) : am_W p l e R s m args below meth c Q E n0 pc lv st h := by
  dsimp only [stp] at hs
  obtain ⟨v, t0, rfl, h0⟩ := pI_inv hs
  obtain ⟨j, t, rfl, h1⟩ := pI_inv h0
  obtain ⟨a, u, rfl, h2⟩ := pR_inv h1
  obtain ⟨h3, h4⟩ := am_kd_inv h2
  obtain ⟨h5, h6⟩ := am_in_inv h4
  exact aw_iast hx hb hKS.1 hd h3 h5 (hkk _ _ _ _ h6)
theorem sp_castore (hx : p.tables.exec = Jvm.exec) (hb : c.code = cc) (hkk : ∀ pc1 lv1 st1 h1, K pc1 lv1 st1 h1 = some r → am_W p l e R s m args below meth c Q E n0 pc1 lv1 st1 h1) (hKS : am_KS E s) (hd : decode cc pc = .ok (.castore, 1)) (hs : stp call K (pc, 1, x, .castore) lv st h = some r) : am_W p l e R s m args below meth c Q E n0 pc lv st h := by
  dsimp only [stp] at hs
  obtain ⟨v, t0, rfl, h0⟩ := pI_inv hs
  obtain ⟨j, t, rfl, h1⟩ := pI_inv h0
  obtain ⟨a, u, rfl, h2⟩ := pR_inv h1
  obtain ⟨h3, h4⟩ := am_kd_inv h2
  obtain ⟨h5, h6⟩ := am_in_inv h4
  obtain ⟨h7, -, h8⟩ := am_nar_inv h6
  exact aw_cast hx hb hKS.1 hd h3 h5 (h8 rfl) (hkk _ _ _ _ h7)
theorem sp_bastore (hx : p.tables.exec = Jvm.exec) (hb : c.code = cc) (hkk : ∀ pc1 lv1 st1 h1, K pc1 lv1 st1 h1 = some r → am_W p l e R s m args below meth c Q E n0 pc1 lv1 st1 h1) (hKS : am_KS E s) (hd : decode cc pc = .ok (.bastore, 1)) (hs : stp call K (pc, 1, x, .bastore) lv st h = some r) : am_W p l e R s m args below meth c Q E n0 pc lv st h := by
  dsimp only [stp] at hs
  obtain ⟨v, t0, rfl, h0⟩ := pI_inv hs
  obtain ⟨j, t, rfl, h1⟩ := pI_inv h0
  obtain ⟨a, u, rfl, h2⟩ := pR_inv h1
  obtain ⟨h3, h4⟩ := am_kd_inv h2
  obtain ⟨h5, h6⟩ := am_in_inv h4
  obtain ⟨h7, h8, -⟩ := am_nar_inv h6
  exact aw_zast hx hb hKS.1 hd h3 h5 (h8 rfl) (hkk _ _ _ _ h7)
theorem sp_lastore (hx : p.tables.exec = Jvm.exec) (hb : c.code = cc) (hkk : ∀ pc1 lv1 st1 h1, K pc1 lv1 st1 h1 = some r → am_W p l e R s m args below meth c Q E n0 pc1 lv1 st1 h1) (hKS : am_KS E s) (hd : decode cc pc = .ok (.lastore, 1)) (hs : stp call K (pc, 1, x, .lastore) lv st h = some r) : am_W p l e R s m args below meth c Q E n0 pc lv st h := by
  dsimp only [stp] at hs
  obtain ⟨v, t0, rfl, h0⟩ := pJ_inv hs
  obtain ⟨j, t, rfl, h1⟩ := pI_inv h0
  obtain ⟨a, u, rfl, h2⟩ := pR_inv h1
  obtain ⟨h3, h4⟩ := am_kd_inv h2
  obtain ⟨h5, h6⟩ := am_in_inv h4
  exact aw_last hx hb hKS.1 hd h3 h5 (hkk _ _ _ _ h6)
theorem sp_aastore (hx : p.tables.exec = Jvm.exec) (hb : c.code = cc) (hkk : ∀ pc1 lv1 st1 h1, K pc1 lv1 st1 h1 = some r → am_W p l e R s m args below meth c Q E n0 pc1 lv1 st1 h1) (hKS : am_KS E s) (hd : decode cc pc = .ok (.aastore, 1)) (hok : x = 54 * 64 + 8 ∨ x = 55 * 64 + 9) (hs : stp call K (pc, 1, x, .aastore) lv st h = some r) : am_W p l e R s m args below meth c Q E n0 pc lv st h := by
  dsimp only [stp] at hs
  obtain ⟨v, t0, rfl, h0⟩ := pR_inv hs
  obtain ⟨j, t, rfl, h1⟩ := pI_inv h0
  obtain ⟨a, u, rfl, h2⟩ := pR_inv h1
  obtain ⟨h3, h4⟩ := am_kd_inv h2
  obtain ⟨h5, h6⟩ := am_kd_inv h4
  obtain ⟨h7, h8⟩ := am_in_inv h6
  rcases hok with rfl | rfl
  · exact aw_aast (t0 := 4) (ci := 7) (kd := 54) (q := (RX7, TX7, 9)) hx hb hKS.1 hd rfl rfl (Or.inl rfl) (by decide) (by decide) h3 h5 h7 (hkk _ _ _ _ h8)
  · exact aw_aast (t0 := 5) (ci := 8) (kd := 55) (q := (RX8, TX8, 3)) hx hb hKS.1 hd rfl rfl (Or.inr rfl) (by decide) (by decide) h3 h5 h7 (hkk _ _ _ _ h8)
theorem sp_arraylength (hx : p.tables.exec = Jvm.exec) (hb : c.code = cc) (hkk : ∀ pc1 lv1 st1 h1, K pc1 lv1 st1 h1 = some r → am_W p l e R s m args below meth c Q E n0 pc1 lv1 st1 h1) (hKS : am_KS E s) (hd : decode cc pc = .ok (.arraylength, 1)) (hok : x = 50 ∨ x = 56 ∨ x = 57) (hs : stp call K (pc, 1, x, .arraylength) lv st h = some r) : am_W p l e R s m args below meth c Q E n0 pc lv st h := by
  dsimp only [stp] at hs
  obtain ⟨a, u, rfl, h2⟩ := pR_inv hs
  obtain ⟨h3, h4⟩ := am_kd_inv h2
  rcases hok with rfl | rfl | rfl
  · exact aw_alen hx hb hd (by omega) (by rw [h3]; exact (hKS.1.2 0 _ rfl).1) (hkk _ _ _ _ h4)
  · exact aw_alen hx hb hd (by omega) (by rw [h3]; exact hKS.2.2.2.2.2.2.2.1) (hkk _ _ _ _ h4)
  · exact aw_alen hx hb hd (by omega) (by rw [h3]; exact hKS.2.2.2.2.2.2.2.2) (hkk _ _ _ _ h4)
theorem am_elI0 {kd n j : Nat} (hk : kd = 50 ∨ kd = 51 ∨ kd = 52) : eg E (am_el (nArr h kd n) kd (hNX h) j) = .int 0 := by
  have h1 : hAI (nArr h kd n) (hNX h) j = 0 := by
    show am_up (hAI h) (hNX h) _ (hNX h) j = _
    rw [am_up_eq]
  rcases hk with rfl | rfl | rfl <;> exact congrArg Value.int h1
theorem sp_newarray (hx : p.tables.exec = Jvm.exec) (hb : c.code = cc) (hkk : ∀ pc1 lv1 st1 h1, K pc1 lv1 st1 h1 = some r → am_W p l e R s m args below meth c Q E n0 pc1 lv1 st1 h1) (hts : ∀ w ∈ TB, w.before args s = true) (hKS : am_KS E s) {t : ArrayType} (hd : decode cc pc = .ok (.newarray t, 2))
    (hok : Cond.arrayClass (newarray.typeOf t) ∈ TB ∧ ((t = .int ∧ x = 50) ∨ (t = .char ∧ x = 51) ∨ (t = .boolean ∧ x = 52) ∨ (t = .long ∧ x = 53))) (hkn : ∀ pc1 lv1 st1 h1, am_nx (hNX h1) (K pc1 lv1 st1 h1)) (hrm : hNX r.2 - n0 ≤ R.cells ∧ 2048 * (hNX r.2 - n0) ≤ R.slots ∧ hNX r.2 ≤ 1000000)
    (hs : stp call K (pc, 2, x, .newarray t) lv st h = some r) : am_W p l e R s m args below meth c Q E n0 pc lv st h := by
  dsimp only [stp] at hs
  obtain ⟨n, u, rfl, h1⟩ := pI_inv hs
  obtain ⟨h2, h3, h4⟩ := am_nw_inv h1
  have hn := hkn _ _ _ _ r h4
  have hn : hNX h + 1 ≤ hNX r.2 := hn
  obtain ⟨ha, hcase⟩ := hok
  rcases hcase with ⟨rfl, rfl⟩ | ⟨rfl, rfl⟩ | ⟨rfl, rfl⟩ | ⟨rfl, rfl⟩
  · exact aw_newa (t0 := 0) hx hb hts hKS.1 ha hd rfl (by omega) (fun j => am_elI0 (Or.inl rfl)) (fun z => z) h2 h3 (by decide) ⟨by omega, by omega⟩ (by omega) (hkk _ _ _ _ h4)
  · exact aw_newa (t0 := 1) hx hb hts hKS.1 ha hd rfl (by omega) (fun j => am_elI0 (Or.inr (Or.inl rfl))) (fun z => z) h2 h3 (by decide) ⟨by omega, by omega⟩ (by omega) (hkk _ _ _ _ h4)
  · exact aw_newa (t0 := 2) hx hb hts hKS.1 ha hd rfl (by omega) (fun j => am_elI0 (Or.inr (Or.inr rfl))) (fun z => z) h2 h3 (by decide) ⟨by omega, by omega⟩ (by omega) (hkk _ _ _ _ h4)
  · exact aw_newa (t0 := 3) hx hb hts hKS.1 ha hd rfl (by omega) (fun j => by
      have h1 : hAJ (nArr h 53 0) (hNX h) j = 0 := by
        show am_up (hAJ h) (hNX h) _ (hNX h) j = _
        rw [am_up_eq]
      exact congrArg Value.long h1) (fun z => z) h2 h3 (by decide) ⟨by omega, by omega⟩ (by omega) (hkk _ _ _ _ h4)
theorem sp_anewarray (hx : p.tables.exec = Jvm.exec) (hb : c.code = cc) (hkk : ∀ pc1 lv1 st1 h1, K pc1 lv1 st1 h1 = some r → am_W p l e R s m args below meth c Q E n0 pc1 lv1 st1 h1) (hts : ∀ w ∈ TB, w.before args s = true) (hown : s.vm.findClass own = some m.cls) (hKS : am_KS E s) {idx : Nat} (hd : decode cc pc = .ok (.anewarray idx, 3))
    (hok : (x = 54 ∧ Cond.classLink own idx "ThirstHours$State" ∈ TB) ∨ (x = 55 ∧ Cond.classLink own idx "ThirstHours$Store" ∈ TB)) (hkn : ∀ pc1 lv1 st1 h1, am_nx (hNX h1) (K pc1 lv1 st1 h1)) (hrm : hNX r.2 - n0 ≤ R.cells ∧ 2048 * (hNX r.2 - n0) ≤ R.slots ∧ hNX r.2 ≤ 1000000)
    (hs : stp call K (pc, 3, x, .anewarray idx) lv st h = some r) : am_W p l e R s m args below meth c Q E n0 pc lv st h := by
  dsimp only [stp] at hs
  obtain ⟨n, u, rfl, h1⟩ := pI_inv hs
  obtain ⟨h2, h3, h4⟩ := am_nw_inv h1
  have hn := hkn _ _ _ _ r h4
  have hn : hNX h + 1 ≤ hNX r.2 := hn
  rcases hok with ⟨rfl, g1⟩ | ⟨rfl, g1⟩
  · exact aw_anew (t0 := 4) hx hb hts hown hKS.1 g1 (va_AO.use hKS.2.2.2.2.2.1) hd rfl (Or.inl rfl) h2 h3 ⟨by omega, by omega⟩ (by omega) (hkk _ _ _ _ h4)
  · exact aw_anew (t0 := 5) hx hb hts hown hKS.1 g1 (va_AO.use hKS.2.2.2.2.2.2.1) hd rfl (Or.inr rfl) h2 h3 ⟨by omega, by omega⟩ (by omega) (hkk _ _ _ _ h4)
theorem sp_new (hx : p.tables.exec = Jvm.exec) (hb : c.code = cc) (hkk : ∀ pc1 lv1 st1 h1, K pc1 lv1 st1 h1 = some r → am_W p l e R s m args below meth c Q E n0 pc1 lv1 st1 h1) (hts : ∀ w ∈ TB, w.before args s = true) (hown : s.vm.findClass own = some m.cls) (hKS : am_KS E s) (hCL : am_cok TB) {idx ci : Nat} {C : String} {T : u_T} {N n : Nat} (hd : decode cc pc = .ok (.new idx, 3))
    (hc : am_cls[ci]? = some (C, T, N)) (h13 : ci < 13) (h10 : ci ≠ 10) (hn : n ≤ 2048) (g1 : Cond.classLink own idx C ∈ TB) (g2 : Cond.instantiable C n ∈ TB) (g3 : Cond.initialized C ∈ TB) (hkn : ∀ pc1 lv1 st1 h1, am_nx (hNX h1) (K pc1 lv1 st1 h1)) (hrm : hNX r.2 - n0 ≤ R.cells ∧ 2048 * (hNX r.2 - n0) ≤ R.slots ∧ hNX r.2 ≤ 1000000)
    (hs : stp call K (pc, 3, ci + 1, .new idx) lv st h = some r) : am_W p l e R s m args below meth c Q E n0 pc lv st h := by
  dsimp only [stp] at hs
  have h4 : K (pc + 3) lv (.ref (hNX h) :: st) (nObj h (ci + 1)) = some r := hs
  have hn2 := hkn _ _ _ _ r h4
  have hn2 : hNX h + 1 ≤ hNX r.2 := hn2
  obtain ⟨c1, c2, c3, c4⟩ := hCL ci C T N hc
  exact aw_new hx hb hts hown hKS.1 hc c3 (am_ft ci) c1 g1 g2 g3 hd h13 h10 hn c4 ⟨by omega, by omega⟩ (by omega) (hkk _ _ _ _ h4)
theorem sp_getstatic (hx : p.tables.exec = Jvm.exec) (hb : c.code = cc) (hkk : ∀ pc1 lv1 st1 h1, K pc1 lv1 st1 h1 = some r → am_W p l e R s m args below meth c Q E n0 pc1 lv1 st1 h1) (hts : ∀ w ∈ TB, w.before args s = true) (hown : s.vm.findClass own = some m.cls) (hKS : am_KS E s) {idx : Nat} (hd : decode cc pc = .ok (.getstatic idx, 3))
    (hok : (∃ k, k < 31 ∧ x = 1000000 + k ∧ Cond.fieldLink own idx RX10 (w_nm k) "LThirstHours$Word;" ∈ TB) ∨ (x = 1000100 ∧ Cond.fieldLink own idx RX10 "ALL" "[LThirstHours$Word;" ∈ TB)) (hs : stp call K (pc, 3, x, .getstatic idx) lv st h = some r) : am_W p l e R s m args below meth c Q E n0 pc lv st h := by
  dsimp only [stp] at hs
  have he : ∀ k : Nat, k < 900000 → eg E (.ref (1000000 + k)) = .ref (E.2.1 k) := by
    intro k hk
    show (if 1000000 + k = nul then Value.null else Value.ref (ea E (1000000 + k))) = _
    rw [if_neg (by unfold nul; omega)]
    unfold ea
    rw [if_neg (by omega), show 1000000 + k - 1000000 = k by omega]
  rcases hok with ⟨k, hk, rfl, hl⟩ | ⟨rfl, hl⟩
  · exact aw_gets hx hb hts hown hl (by rw [he k (by omega)]; exact (hKS.2.1 k hk).2.2) hd (hkk _ _ _ _ hs)
  · exact aw_gets hx hb hts hown hl (by rw [he 100 (by omega)]; exact hKS.2.2.1) hd (hkk _ _ _ _ hs)
end STEP3
