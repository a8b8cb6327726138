/-! Any step. -/
section STEP5
variable {p : Program} {l : Launch} {e : Env} {R : Room} {s : State} {m : MethodId} {args : Array Value} {below : List Frame} {meth : Method} {c : Code} {Q : State → Prop} {E : AE} {n0 : Nat} {cc : ByteArray} {lv : LV} {st : List Value} {h : AH} {pc len x : Nat}
  {call : Nat → List Value → AH → Option Res} {K : Nat → LV → List Value → AH → Option Res} {r : Res} {own : String} {TB : List Cond} {MT : Nat → MTE} {d : Nat}
set_option maxHeartbeats 4000000 in
theorem stp_sound (hx : p.tables.exec = Jvm.exec) (hb : c.code = cc) (hts : ∀ w ∈ TB, w.before args s = true) (hgd : ∀ w ∈ TB, goodWord w = true) (hown : s.vm.findClass own = some m.cls) (hKS : am_KS E s) (hCL : am_cok TB) {ini : Bool} (hini : ini = true → meth.name = "<init>") {i : Instr} (hd : decode cc pc = .ok (i, len)) (hok : am_ok own ini TB MT pc len x i)
    (hfr : 1 ≤ R.frames) (hlo : 64 ≤ R.locals) (hfd : d ≠ 0 → d + 1 ≤ R.frames ∧ 64 * (d + 1) ≤ R.locals) (hcall : ∀ mid as h1 rv h2, (MT mid).2.2.1 ≤ 45 → hNX h2 ≤ 1000000 → call mid as h1 = some (rv, h2) → d ≠ 0 ∧ am_Met E l (d - 1) (MT mid).1 (am_cd (MT mid) :: TB) as h1 rv h2) (hcn : ∀ mid as h1, am_nx (hNX h1) (call mid as h1))
    (hkk : ∀ pc1 lv1 st1 h1, K pc1 lv1 st1 h1 = some r → am_W p l e R s m args below meth c Q E n0 pc1 lv1 st1 h1) (hkn : ∀ pc1 lv1 st1 h1, am_nx (hNX h1) (K pc1 lv1 st1 h1)) (hrm : hNX r.2 - n0 ≤ R.cells ∧ 2048 * (hNX r.2 - n0) ≤ R.slots ∧ hNX r.2 ≤ 1000000)
    (hs : stp call K (pc, len, x, i) lv st h = some r) (htrm : am_isT x i = true → am_W p l e R s m args below meth c Q E n0 pc lv st h) : am_W p l e R s m args below meth c Q E n0 pc lv st h := by
  cases i
  case aload_n =>
    cases (show len = 1 from hok)
    exact sp_aload_n hx hb hkk hd hs
  case iload_n =>
    cases (show len = 1 from hok)
    exact sp_iload_n hx hb hkk hd hs
  case lload_n =>
    cases (show len = 1 from hok)
    exact sp_lload_n hx hb hkk hd hs
  case astore_n =>
    cases (show len = 1 from hok)
    exact sp_astore_n hx hb hkk hd hs
  case istore_n =>
    cases (show len = 1 from hok)
    exact sp_istore_n hx hb hkk hd hs
  case lstore_n =>
    cases (show len = 1 from hok)
    exact sp_lstore_n hx hb hkk hd hs
  case lconst =>
    cases (show len = 1 from hok)
    exact sp_lconst hx hb hkk hd hs
  case aconst_null =>
    cases (show len = 1 from hok)
    exact sp_aconst_null hx hb hkk hd hs
  case dup =>
    cases (show len = 1 from hok)
    exact sp_dup hx hb hkk hd hs
  case dup2 =>
    cases (show len = 1 from hok)
    exact sp_dup2 hx hb hkk hd hs
  case iadd =>
    cases (show len = 1 from hok)
    exact sp_iadd hx hb hkk hd hs
  case isub =>
    cases (show len = 1 from hok)
    exact sp_isub hx hb hkk hd hs
  case imul =>
    cases (show len = 1 from hok)
    exact sp_imul hx hb hkk hd hs
  case idiv =>
    cases (show len = 1 from hok)
    exact sp_idiv hx hb hkk hd hs
  case irem =>
    cases (show len = 1 from hok)
    exact sp_irem hx hb hkk hd hs
  case ineg =>
    cases (show len = 1 from hok)
    exact sp_ineg hx hb hkk hd hs
  case iand =>
    cases (show len = 1 from hok)
    exact sp_iand hx hb hkk hd hs
  case ior =>
    cases (show len = 1 from hok)
    exact sp_ior hx hb hkk hd hs
  case ixor =>
    cases (show len = 1 from hok)
    exact sp_ixor hx hb hkk hd hs
  case ishl =>
    cases (show len = 1 from hok)
    exact sp_ishl hx hb hkk hd hs
  case ishr =>
    cases (show len = 1 from hok)
    exact sp_ishr hx hb hkk hd hs
  case ladd =>
    cases (show len = 1 from hok)
    exact sp_ladd hx hb hkk hd hs
  case lsub =>
    cases (show len = 1 from hok)
    exact sp_lsub hx hb hkk hd hs
  case lmul =>
    cases (show len = 1 from hok)
    exact sp_lmul hx hb hkk hd hs
  case ldiv =>
    cases (show len = 1 from hok)
    exact sp_ldiv hx hb hkk hd hs
  case lrem =>
    cases (show len = 1 from hok)
    exact sp_lrem hx hb hkk hd hs
  case land =>
    cases (show len = 1 from hok)
    exact sp_land hx hb hkk hd hs
  case lor =>
    cases (show len = 1 from hok)
    exact sp_lor hx hb hkk hd hs
  case lshl =>
    cases (show len = 1 from hok)
    exact sp_lshl hx hb hkk hd hs
  case lushr =>
    cases (show len = 1 from hok)
    exact sp_lushr hx hb hkk hd hs
  case lcmp =>
    cases (show len = 1 from hok)
    exact sp_lcmp hx hb hkk hd hs
  case i2l =>
    cases (show len = 1 from hok)
    exact sp_i2l hx hb hkk hd hs
  case l2i =>
    cases (show len = 1 from hok)
    exact sp_l2i hx hb hkk hd hs
  case i2c =>
    cases (show len = 1 from hok)
    exact sp_i2c hx hb hkk hd hs
  case aload =>
    cases (show len = 2 from hok)
    exact sp_aload hx hb hkk hd hs
  case iload =>
    cases (show len = 2 from hok)
    exact sp_iload hx hb hkk hd hs
  case lload =>
    cases (show len = 2 from hok)
    exact sp_lload hx hb hkk hd hs
  case astore =>
    cases (show len = 2 from hok)
    exact sp_astore hx hb hkk hd hs
  case istore =>
    cases (show len = 2 from hok)
    exact sp_istore hx hb hkk hd hs
  case lstore =>
    cases (show len = 2 from hok)
    exact sp_lstore hx hb hkk hd hs
  case caload =>
    cases (show len = 1 from hok)
    exact sp_caload hx hb hkk hKS hd hs
  case baload =>
    cases (show len = 1 from hok)
    exact sp_baload hx hb hkk hKS hd hs
  case laload =>
    cases (show len = 1 from hok)
    exact sp_laload hx hb hkk hKS hd hs
  case iastore =>
    cases (show len = 1 from hok)
    exact sp_iastore hx hb hkk hKS hd hs
  case castore =>
    cases (show len = 1 from hok)
    exact sp_castore hx hb hkk hKS hd hs
  case bastore =>
    cases (show len = 1 from hok)
    exact sp_bastore hx hb hkk hKS hd hs
  case lastore =>
    cases (show len = 1 from hok)
    exact sp_lastore hx hb hkk hKS hd hs
  case iaload =>
    obtain ⟨hl, hok⟩ := hok
    cases hl
    exact sp_iaload hx hb hkk hKS hd hok hs
  case aaload =>
    obtain ⟨hl, hok⟩ := hok
    cases hl
    exact sp_aaload hx hb hkk hKS hd hok hs
  case arraylength =>
    obtain ⟨hl, hok⟩ := hok
    cases hl
    exact sp_arraylength hx hb hkk hKS hd hok hs
  case aastore =>
    obtain ⟨hl, hok⟩ := hok
    cases hl
    exact sp_aastore hx hb hkk hKS hd hok hs
  case iinc =>
    obtain ⟨hl, hok⟩ := hok
    cases hl
    exact sp_iinc hx hb hkk hok hd hs
  case iconst =>
    obtain ⟨hl, hok⟩ := hok
    cases hl
    exact sp_iconst hx hb hkk hok hd hs
  case bipush =>
    obtain ⟨hl, hok⟩ := hok
    cases hl
    exact sp_bipush hx hb hkk hok hd hs
  case sipush =>
    obtain ⟨hl, hok⟩ := hok
    cases hl
    exact sp_sipush hx hb hkk hok hd hs
  case ldc =>
    obtain ⟨hl, hok⟩ := hok
    cases hl
    exact sp_ldc hx hb hkk hts hown hok hd hs
  case ldc_w =>
    obtain ⟨hl, hok⟩ := hok
    cases hl
    exact sp_ldc_w hx hb hkk hts hown hok hd hs
  case ldc2_w =>
    obtain ⟨hl, hok⟩ := hok
    cases hl
    exact sp_ldc2_w hx hb hkk hts hown hok hd hs
  case ifCond =>
    obtain ⟨hl, hok⟩ := hok
    cases hl
    exact sp_ifCond hx hb hkk hok hd hs
  case if_icmp =>
    obtain ⟨hl, hok⟩ := hok
    cases hl
    exact sp_if_icmp hx hb hkk hok hd hs
  case goto =>
    obtain ⟨hl, hok⟩ := hok
    cases hl
    exact sp_goto hx hb hkk hok hd hs
  case ifnull =>
    obtain ⟨hl, hok⟩ := hok
    cases hl
    exact sp_ifnull hx hb hkk hok hd hs
  case if_acmp =>
    obtain ⟨hl, hok⟩ := hok
    cases hl
    exact sp_if_acmp hx hb hkk hKS.2.2.2.1 hok hd hs
  case tableswitch =>
    exact sp_tableswitch hx hb hkk hd hok hs
  case getfield =>
    obtain ⟨hl, hok⟩ := hok
    cases hl
    exact sp_getfield hx hb hkk hts hown hKS hCL hd hok hs
  case putfield =>
    obtain ⟨hl, hok⟩ := hok
    cases hl
    exact sp_putfield hx hb hkk hts hown hKS hCL hini hd hok hs
  case getstatic =>
    obtain ⟨hl, hok⟩ := hok
    cases hl
    exact sp_getstatic hx hb hkk hts hown hKS hd hok hs
  case newarray =>
    obtain ⟨hl, hok⟩ := hok
    cases hl
    exact sp_newarray hx hb hkk hts hKS hd hok hkn hrm hs
  case anewarray =>
    obtain ⟨hl, hok⟩ := hok
    cases hl
    exact sp_anewarray hx hb hkk hts hown hKS hd hok hkn hrm hs
  case new =>
    rcases hok with rfl | ⟨hl, ci, C, T, N, n, rfl, k1, k2, k3, k4, k5, k6, k7⟩
    · exact htrm rfl
    · cases hl
      exact sp_new hx hb hkk hts hown hKS hCL hd k1 k2 k3 k4 k5 k6 k7 hkn hrm hs
  case invokevirtual =>
    obtain ⟨hl, hok⟩ := hok
    cases hl
    exact sp_invokevirtual hx hb hkk hts hgd hown hKS hd hok hfd hcall hcn hkn hrm hs
  case invokestatic =>
    obtain ⟨hl, hok⟩ := hok
    cases hl
    exact sp_invokestatic hx hb hkk hts hgd hown hKS hd hok hfr hlo hfd hcall hcn hkn hrm hs
  case invokespecial =>
    obtain ⟨hl, hok⟩ := hok
    cases hl
    exact sp_invokespecial hx hb hkk hts hgd hown hKS hd hok hfr hlo hfd hcall hcn hkn hrm hs
  case ireturn =>
    exact htrm rfl
  case lreturn =>
    exact htrm rfl
  case areturn =>
    exact htrm rfl
  case return_ =>
    exact htrm rfl
  all_goals (exact absurd hs (by simp [stp]))
end STEP5
