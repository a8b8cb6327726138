/-! One step of the small machine is a stretch of the machine. -/
def am_ft (ci : Nat) : Nat → FieldType := match ci with
  | 0 => tyX0
  | 1 => tyX1
  | 2 => tyX2
  | 3 => tyX3
  | 4 => tyX4
  | 5 => tyX5
  | 6 => tyX6
  | 7 => tyX7
  | 8 => tyX8
  | 9 => tyX9
  | 10 => tyX10
  | 11 => tyX11
  | _ => tyX12
abbrev MTE : Type := MethodName × ByteArray × Nat × Option FieldType
def am_cd (q : MTE) : Cond := .code q.1 q.2.1 q.2.2.1 q.2.2.2
/-- what is asked of a class -/
def am_cok (TB : List Cond) : Prop := ∀ (ci : Nat) (C : String) (T : u_T) (N : Nat), am_cls[ci]? = some (C, T, N) → (∀ k, k < N → parseFieldDescriptor (T k).2.2.1 = some (am_ft ci k)) ∧ (∀ a, a < N → ∀ b, b < N → a ≠ b → (T a).2.1 ≠ (T b).2.1) ∧ (∀ w ∈ u_ws C T N, w ∈ TB) ∧
  ∀ k, k < N → defaultValue (am_ft ci k) = match am_tyc ci k with
      | 1 => .long 0
      | 2 => .null
      | 3 => .null
      | _ => .int 0
/-- a field's type, by its letter -/
def am_tok (t : Nat) (ty : FieldType) : Prop := match t with
  | 0 => ty = .int
  | 1 => ty = .long
  | 2 => (∃ n, ty = .object n) ∨ ∃ n, ty = .array n
  | 3 => (∃ n, ty = .object n) ∨ ∃ n, ty = .array n
  | 4 => ty = .boolean
  | 5 => ty = .char
  | _ => False
def am_fldok (own : String) (TB : List Cond) (idx x ci k : Nat) : Prop := ∃ (C : String) (T : u_T) (N : Nat), am_cls[ci]? = some (C, T, N) ∧ ci < 13 ∧ ci ≠ 10 ∧ k < N ∧ Cond.fieldLink own idx (T k).1 (T k).2.1 (T k).2.2.1 ∈ TB ∧ x / 8 = 100 * ci + k ∧ x / 800 = ci ∧ am_tyc ci k = x % 8
def am_calok (own : String) (TB : List Cond) (idx x : Nat) (q : MTE) : Prop := am_cd q ∈ TB ∧ Cond.initialized q.1.cls ∈ TB ∧ q.1.cls ≠ "java/lang/invoke/MethodHandle" ∧ q.1.cls ≠ "java/lang/invoke/VarHandle" ∧ q.2.2.1 ≤ 45
def am_ok (own : String) (ini : Bool) (TB : List Cond) (MT : Nat → MTE) (pc len x : Nat) (i : Instr) : Prop := match i with
  | .aload_n _ | .iload_n _ | .lload_n _ | .astore_n _ | .istore_n _ | .lstore_n _ | .lconst _ | .aconst_null | .dup | .dup2 | .iadd | .isub | .imul | .idiv | .irem | .ineg | .iand | .ior | .ixor | .ishl | .ishr | .ladd | .lsub | .lmul | .ldiv | .lrem | .land | .lor | .lshl | .lushr | .lcmp | .i2l | .l2i | .i2c | .caload | .baload | .laload | .iastore | .castore | .bastore | .lastore => len = 1
  | .iaload => len = 1 ∧ (x = 50 ∨ x = 57)
  | .aaload => len = 1 ∧ (x = 54 ∨ x = 55 ∨ x = 56)
  | .arraylength => len = 1 ∧ (x = 50 ∨ x = 56 ∨ x = 57)
  | .aastore => len = 1 ∧ (x = 54 * 64 + 8 ∨ x = 55 * 64 + 9)
  | .aload _ | .iload _ | .lload _ | .astore _ | .istore _ | .lstore _ => len = 2
  | .iinc _ n => len = 3 ∧ Int32.ofInt n = am_cst x
  | .iconst n => len = 1 ∧ Int32.ofInt n = am_cst x
  | .bipush n => len = 2 ∧ (Int8.ofInt n).toInt32 = am_cst x
  | .sipush n => len = 3 ∧ (Int16.ofInt n).toInt32 = am_cst x
  | .ldc idx => len = 2 ∧ Cond.constant own idx (am_cst x) ∈ TB
  | .ldc_w idx => len = 3 ∧ Cond.constant own idx (am_cst x) ∈ TB
  | .ldc2_w idx => len = 3 ∧ Cond.constantLong own idx (Int64.ofNat x) ∈ TB
  | .ifCond _ off | .if_icmp _ off | .if_acmp _ off | .goto off | .ifnull off => len = 3 ∧ (pc : Int) + off = (x : Int)
  | .tableswitch d lo hi offs => (pc : Int) + d = (x : Int) ∧ hi = lo + (offs.toList.length : Int) - 1 ∧ ∀ o ∈ offs.toList, 0 ≤ (pc : Int) + o
  | .getfield idx => len = 3 ∧ ((∃ ci k, am_fldok own TB idx x ci k) ∨ (x = 8001 ∧ Cond.fieldLink own idx RX10 "spelt" "J" ∈ TB) ∨ (x = 8012 ∧ ∃ host, Cond.fieldLinkNest own idx RX10 "kept" "Z" host ∈ am_NB))
  | .putfield idx => len = 3 ∧ ∃ ci k, am_fldok own TB idx x ci k ∧ am_tok (x % 8) (am_ft ci k) ∧ ∀ C T N, am_cls[ci]? = some (C, T, N) → (T k).2.2.2 = false ∨ (ini = true ∧ (T k).1 = own)
  | .getstatic idx => len = 3 ∧ ((∃ k, k < 31 ∧ x = 1000000 + k ∧ Cond.fieldLink own idx RX10 (w_nm k) "LThirstHours$Word;" ∈ TB) ∨ (x = 1000100 ∧ Cond.fieldLink own idx RX10 "ALL" "[LThirstHours$Word;" ∈ TB))
  | .newarray t => len = 2 ∧ Cond.arrayClass (newarray.typeOf t) ∈ TB ∧ ((t = .int ∧ x = 50) ∨ (t = .char ∧ x = 51) ∨ (t = .boolean ∧ x = 52) ∨ (t = .long ∧ x = 53))
  | .anewarray idx => len = 3 ∧ ((x = 54 ∧ Cond.classLink own idx "ThirstHours$State" ∈ TB) ∨ (x = 55 ∧ Cond.classLink own idx "ThirstHours$Store" ∈ TB))
  | .new idx => x = 0 ∨ (len = 3 ∧ ∃ ci C T N n, x = ci + 1 ∧ am_cls[ci]? = some (C, T, N) ∧ ci < 13 ∧ ci ≠ 10 ∧ n ≤ 2048 ∧ Cond.classLink own idx C ∈ TB ∧ Cond.instantiable C n ∈ TB ∧ Cond.initialized C ∈ TB)
  | .invokevirtual idx => len = 3 ∧ x % 8 ≠ 4 ∧ am_calok own TB idx x (MT (x / 16384)) ∧ Cond.methodLink own idx (MT (x / 16384)).1 ∈ TB ∧ Cond.instanceMethod (MT (x / 16384)).1 ∈ TB ∧ Cond.selects (MT (x / 16384)).1.cls (MT (x / 16384)).1 (MT (x / 16384)).1 ∈ TB ∧
      (parseMethodDescriptor (MT (x / 16384)).1.desc).map (fun d => d.parameters.length + 1) = some (x / 8 % 32) ∧ ∃ ci q, x / 256 % 64 = ci + 1 ∧ am_cls[ci]? = some q ∧ (MT (x / 16384)).1.cls = q.1 ∧ ci < 13 ∧ ci ≠ 10
  | .invokespecial idx => len = 3 ∧ ((x % 8 = 5 ∧ Cond.methodLink own idx objectInit ∈ TB ∧ Cond.instanceMethod objectInit ∈ TB ∧ Cond.code objectInit ⟨#[0xb1]⟩ 1 none ∈ TB ∧ x / 256 % 64 ≠ 0) ∨
      (x % 8 ≠ 5 ∧ am_calok own TB idx x (MT (x / 16384)) ∧ (MT (x / 16384)).2.2.2 = none ∧ (MT (x / 16384)).1.name = "<init>" ∧ (Cond.methodLink own idx (MT (x / 16384)).1 ∈ TB ∨ ∃ host, Cond.methodLinkNest own idx (MT (x / 16384)).1 host ∈ am_NB) ∧ Cond.instanceMethod (MT (x / 16384)).1 ∈ TB ∧
        (parseMethodDescriptor (MT (x / 16384)).1.desc).map (fun d => d.parameters.length + 1) = some (x / 8 % 32) ∧ x / 256 % 64 ≠ 0))
  | .invokestatic idx => len = 3 ∧ ((x = 0 ∧ Cond.methodLink own idx arraycopyName ∈ TB ∧ Cond.native arraycopyName ∈ TB ∧ Cond.static arraycopyName ∈ TB ∧ Cond.initialized "java/lang/System" ∈ TB) ∨
      (x ≠ 0 ∧ am_calok own TB idx x (MT (x / 16384)) ∧ Cond.methodLink own idx (MT (x / 16384)).1 ∈ TB ∧ Cond.static (MT (x / 16384)).1 ∈ TB ∧ (parseMethodDescriptor (MT (x / 16384)).1.desc).map (fun d => d.parameters.length) = some (x / 8 % 32)))
  | _ => True
def am_isT (x : Nat) (i : Instr) : Bool := match i with
  | .ireturn => true
  | .lreturn => true
  | .areturn => true
  | .return_ => true
  | .new _ => x == 0
  | _ => false
section STEP
variable {p : Program} {l : Launch} {e : Env} {R : Room} {s : State} {m : MethodId} {args : Array Value} {below : List Frame} {meth : Method} {c : Code} {Q : State → Prop} {E : AE} {n0 : Nat} {cc : ByteArray} {lv : LV} {st : List Value} {h : AH} {pc len x : Nat}
  {call : Nat → List Value → AH → Option Res} {K : Nat → LV → List Value → AH → Option Res} {r : Res}
theorem sp_iadd (hx : p.tables.exec = Jvm.exec) (hb : c.code = cc) (hK : ∀ pc1 lv1 st1 h1, K pc1 lv1 st1 h1 = some r → am_W p l e R s m args below meth c Q E n0 pc1 lv1 st1 h1) (hd : decode cc pc = .ok (.iadd, 1)) (hs : stp call K (pc, 1, x, .iadd) lv st h = some r) : am_W p l e R s m args below meth c Q E n0 pc lv st h := by
  dsimp only [stp] at hs
  obtain ⟨b, t, rfl, h1⟩ := pI_inv hs
  obtain ⟨a, u, rfl, h2⟩ := pI_inv h1
  exact am_W.go (fun H locs ls _ _ _ _ w => lv_iadd hx hb hd w) (hK _ _ _ _ h2)
theorem sp_isub (hx : p.tables.exec = Jvm.exec) (hb : c.code = cc) (hK : ∀ pc1 lv1 st1 h1, K pc1 lv1 st1 h1 = some r → am_W p l e R s m args below meth c Q E n0 pc1 lv1 st1 h1) (hd : decode cc pc = .ok (.isub, 1)) (hs : stp call K (pc, 1, x, .isub) lv st h = some r) : am_W p l e R s m args below meth c Q E n0 pc lv st h := by
  dsimp only [stp] at hs
  obtain ⟨b, t, rfl, h1⟩ := pI_inv hs
  obtain ⟨a, u, rfl, h2⟩ := pI_inv h1
  exact am_W.go (fun H locs ls _ _ _ _ w => lv_isub hx hb hd w) (hK _ _ _ _ h2)
theorem sp_imul (hx : p.tables.exec = Jvm.exec) (hb : c.code = cc) (hK : ∀ pc1 lv1 st1 h1, K pc1 lv1 st1 h1 = some r → am_W p l e R s m args below meth c Q E n0 pc1 lv1 st1 h1) (hd : decode cc pc = .ok (.imul, 1)) (hs : stp call K (pc, 1, x, .imul) lv st h = some r) : am_W p l e R s m args below meth c Q E n0 pc lv st h := by
  dsimp only [stp] at hs
  obtain ⟨b, t, rfl, h1⟩ := pI_inv hs
  obtain ⟨a, u, rfl, h2⟩ := pI_inv h1
  exact am_W.go (fun H locs ls _ _ _ _ w => lv_imul hx hb hd w) (hK _ _ _ _ h2)
theorem sp_iand (hx : p.tables.exec = Jvm.exec) (hb : c.code = cc) (hK : ∀ pc1 lv1 st1 h1, K pc1 lv1 st1 h1 = some r → am_W p l e R s m args below meth c Q E n0 pc1 lv1 st1 h1) (hd : decode cc pc = .ok (.iand, 1)) (hs : stp call K (pc, 1, x, .iand) lv st h = some r) : am_W p l e R s m args below meth c Q E n0 pc lv st h := by
  dsimp only [stp] at hs
  obtain ⟨b, t, rfl, h1⟩ := pI_inv hs
  obtain ⟨a, u, rfl, h2⟩ := pI_inv h1
  exact am_W.go (fun H locs ls _ _ _ _ w => lv_iand hx hb hd w) (hK _ _ _ _ h2)
theorem sp_ior (hx : p.tables.exec = Jvm.exec) (hb : c.code = cc) (hK : ∀ pc1 lv1 st1 h1, K pc1 lv1 st1 h1 = some r → am_W p l e R s m args below meth c Q E n0 pc1 lv1 st1 h1) (hd : decode cc pc = .ok (.ior, 1)) (hs : stp call K (pc, 1, x, .ior) lv st h = some r) : am_W p l e R s m args below meth c Q E n0 pc lv st h := by
  dsimp only [stp] at hs
  obtain ⟨b, t, rfl, h1⟩ := pI_inv hs
  obtain ⟨a, u, rfl, h2⟩ := pI_inv h1
  exact am_W.go (fun H locs ls _ _ _ _ w => lv_ior hx hb hd w) (hK _ _ _ _ h2)
theorem sp_ixor (hx : p.tables.exec = Jvm.exec) (hb : c.code = cc) (hK : ∀ pc1 lv1 st1 h1, K pc1 lv1 st1 h1 = some r → am_W p l e R s m args below meth c Q E n0 pc1 lv1 st1 h1) (hd : decode cc pc = .ok (.ixor, 1)) (hs : stp call K (pc, 1, x, .ixor) lv st h = some r) : am_W p l e R s m args below meth c Q E n0 pc lv st h := by
  dsimp only [stp] at hs
  obtain ⟨b, t, rfl, h1⟩ := pI_inv hs
  obtain ⟨a, u, rfl, h2⟩ := pI_inv h1
  exact am_W.go (fun H locs ls _ _ _ _ w => lv_ixor hx hb hd w) (hK _ _ _ _ h2)
theorem sp_ishl (hx : p.tables.exec = Jvm.exec) (hb : c.code = cc) (hK : ∀ pc1 lv1 st1 h1, K pc1 lv1 st1 h1 = some r → am_W p l e R s m args below meth c Q E n0 pc1 lv1 st1 h1) (hd : decode cc pc = .ok (.ishl, 1)) (hs : stp call K (pc, 1, x, .ishl) lv st h = some r) : am_W p l e R s m args below meth c Q E n0 pc lv st h := by
  dsimp only [stp] at hs
  obtain ⟨b, t, rfl, h1⟩ := pI_inv hs
  obtain ⟨a, u, rfl, h2⟩ := pI_inv h1
  exact am_W.go (fun H locs ls _ _ _ _ w => lv_ishl hx hb hd w) (hK _ _ _ _ h2)
theorem sp_ishr (hx : p.tables.exec = Jvm.exec) (hb : c.code = cc) (hK : ∀ pc1 lv1 st1 h1, K pc1 lv1 st1 h1 = some r → am_W p l e R s m args below meth c Q E n0 pc1 lv1 st1 h1) (hd : decode cc pc = .ok (.ishr, 1)) (hs : stp call K (pc, 1, x, .ishr) lv st h = some r) : am_W p l e R s m args below meth c Q E n0 pc lv st h := by
  dsimp only [stp] at hs
  obtain ⟨b, t, rfl, h1⟩ := pI_inv hs
  obtain ⟨a, u, rfl, h2⟩ := pI_inv h1
  exact am_W.go (fun H locs ls _ _ _ _ w => lv_ishr hx hb hd w) (hK _ _ _ _ h2)
theorem sp_ladd (hx : p.tables.exec = Jvm.exec) (hb : c.code = cc) (hK : ∀ pc1 lv1 st1 h1, K pc1 lv1 st1 h1 = some r → am_W p l e R s m args below meth c Q E n0 pc1 lv1 st1 h1) (hd : decode cc pc = .ok (.ladd, 1)) (hs : stp call K (pc, 1, x, .ladd) lv st h = some r) : am_W p l e R s m args below meth c Q E n0 pc lv st h := by
  dsimp only [stp] at hs
  obtain ⟨b, t, rfl, h1⟩ := pJ_inv hs
  obtain ⟨a, u, rfl, h2⟩ := pJ_inv h1
  exact am_W.go (fun H locs ls _ _ _ _ w => lv_ladd hx hb hd w) (hK _ _ _ _ h2)
theorem sp_lsub (hx : p.tables.exec = Jvm.exec) (hb : c.code = cc) (hK : ∀ pc1 lv1 st1 h1, K pc1 lv1 st1 h1 = some r → am_W p l e R s m args below meth c Q E n0 pc1 lv1 st1 h1) (hd : decode cc pc = .ok (.lsub, 1)) (hs : stp call K (pc, 1, x, .lsub) lv st h = some r) : am_W p l e R s m args below meth c Q E n0 pc lv st h := by
  dsimp only [stp] at hs
  obtain ⟨b, t, rfl, h1⟩ := pJ_inv hs
  obtain ⟨a, u, rfl, h2⟩ := pJ_inv h1
  exact am_W.go (fun H locs ls _ _ _ _ w => lv_lsub hx hb hd w) (hK _ _ _ _ h2)
theorem sp_lmul (hx : p.tables.exec = Jvm.exec) (hb : c.code = cc) (hK : ∀ pc1 lv1 st1 h1, K pc1 lv1 st1 h1 = some r → am_W p l e R s m args below meth c Q E n0 pc1 lv1 st1 h1) (hd : decode cc pc = .ok (.lmul, 1)) (hs : stp call K (pc, 1, x, .lmul) lv st h = some r) : am_W p l e R s m args below meth c Q E n0 pc lv st h := by
  dsimp only [stp] at hs
  obtain ⟨b, t, rfl, h1⟩ := pJ_inv hs
  obtain ⟨a, u, rfl, h2⟩ := pJ_inv h1
  exact am_W.go (fun H locs ls _ _ _ _ w => lv_lmul hx hb hd w) (hK _ _ _ _ h2)
theorem sp_land (hx : p.tables.exec = Jvm.exec) (hb : c.code = cc) (hK : ∀ pc1 lv1 st1 h1, K pc1 lv1 st1 h1 = some r → am_W p l e R s m args below meth c Q E n0 pc1 lv1 st1 h1) (hd : decode cc pc = .ok (.land, 1)) (hs : stp call K (pc, 1, x, .land) lv st h = some r) : am_W p l e R s m args below meth c Q E n0 pc lv st h := by
  dsimp only [stp] at hs
  obtain ⟨b, t, rfl, h1⟩ := pJ_inv hs
  obtain ⟨a, u, rfl, h2⟩ := pJ_inv h1
  exact am_W.go (fun H locs ls _ _ _ _ w => lv_land hx hb hd w) (hK _ _ _ _ h2)
theorem sp_lor (hx : p.tables.exec = Jvm.exec) (hb : c.code = cc) (hK : ∀ pc1 lv1 st1 h1, K pc1 lv1 st1 h1 = some r → am_W p l e R s m args below meth c Q E n0 pc1 lv1 st1 h1) (hd : decode cc pc = .ok (.lor, 1)) (hs : stp call K (pc, 1, x, .lor) lv st h = some r) : am_W p l e R s m args below meth c Q E n0 pc lv st h := by
  dsimp only [stp] at hs
  obtain ⟨b, t, rfl, h1⟩ := pJ_inv hs
  obtain ⟨a, u, rfl, h2⟩ := pJ_inv h1
  exact am_W.go (fun H locs ls _ _ _ _ w => lv_lor hx hb hd w) (hK _ _ _ _ h2)
theorem sp_idiv (hx : p.tables.exec = Jvm.exec) (hb : c.code = cc) (hK : ∀ pc1 lv1 st1 h1, K pc1 lv1 st1 h1 = some r → am_W p l e R s m args below meth c Q E n0 pc1 lv1 st1 h1) (hd : decode cc pc = .ok (.idiv, 1)) (hs : stp call K (pc, 1, x, .idiv) lv st h = some r) : am_W p l e R s m args below meth c Q E n0 pc lv st h := by
  dsimp only [stp] at hs
  obtain ⟨b, t, rfl, h1⟩ := pI_inv hs
  obtain ⟨a, u, rfl, h2⟩ := pI_inv h1
  obtain ⟨h3, h4⟩ := am_dz_inv h2
  exact am_W.go (fun H locs ls _ _ _ _ w => lv_idiv hx hb hd h3 w) (hK _ _ _ _ h4)
theorem sp_irem (hx : p.tables.exec = Jvm.exec) (hb : c.code = cc) (hK : ∀ pc1 lv1 st1 h1, K pc1 lv1 st1 h1 = some r → am_W p l e R s m args below meth c Q E n0 pc1 lv1 st1 h1) (hd : decode cc pc = .ok (.irem, 1)) (hs : stp call K (pc, 1, x, .irem) lv st h = some r) : am_W p l e R s m args below meth c Q E n0 pc lv st h := by
  dsimp only [stp] at hs
  obtain ⟨b, t, rfl, h1⟩ := pI_inv hs
  obtain ⟨a, u, rfl, h2⟩ := pI_inv h1
  obtain ⟨h3, h4⟩ := am_dz_inv h2
  exact am_W.go (fun H locs ls _ _ _ _ w => lv_irem hx hb hd h3 w) (hK _ _ _ _ h4)
theorem sp_ldiv (hx : p.tables.exec = Jvm.exec) (hb : c.code = cc) (hK : ∀ pc1 lv1 st1 h1, K pc1 lv1 st1 h1 = some r → am_W p l e R s m args below meth c Q E n0 pc1 lv1 st1 h1) (hd : decode cc pc = .ok (.ldiv, 1)) (hs : stp call K (pc, 1, x, .ldiv) lv st h = some r) : am_W p l e R s m args below meth c Q E n0 pc lv st h := by
  dsimp only [stp] at hs
  obtain ⟨b, t, rfl, h1⟩ := pJ_inv hs
  obtain ⟨a, u, rfl, h2⟩ := pJ_inv h1
  obtain ⟨h3, h4⟩ := am_dzJ_inv h2
  exact am_W.go (fun H locs ls _ _ _ _ w => lv_ldiv hx hb hd h3 w) (hK _ _ _ _ h4)
theorem sp_lrem (hx : p.tables.exec = Jvm.exec) (hb : c.code = cc) (hK : ∀ pc1 lv1 st1 h1, K pc1 lv1 st1 h1 = some r → am_W p l e R s m args below meth c Q E n0 pc1 lv1 st1 h1) (hd : decode cc pc = .ok (.lrem, 1)) (hs : stp call K (pc, 1, x, .lrem) lv st h = some r) : am_W p l e R s m args below meth c Q E n0 pc lv st h := by
  dsimp only [stp] at hs
  obtain ⟨b, t, rfl, h1⟩ := pJ_inv hs
  obtain ⟨a, u, rfl, h2⟩ := pJ_inv h1
  obtain ⟨h3, h4⟩ := am_dzJ_inv h2
  exact am_W.go (fun H locs ls _ _ _ _ w => lv_lrem hx hb hd h3 w) (hK _ _ _ _ h4)
theorem sp_ineg (hx : p.tables.exec = Jvm.exec) (hb : c.code = cc) (hK : ∀ pc1 lv1 st1 h1, K pc1 lv1 st1 h1 = some r → am_W p l e R s m args below meth c Q E n0 pc1 lv1 st1 h1) (hd : decode cc pc = .ok (.ineg, 1)) (hs : stp call K (pc, 1, x, .ineg) lv st h = some r) : am_W p l e R s m args below meth c Q E n0 pc lv st h := by
  dsimp only [stp] at hs
  obtain ⟨a, t, rfl, h1⟩ := pI_inv hs
  exact am_W.go (fun H locs ls _ _ _ _ w => lv_ineg hx hb hd w) (hK _ _ _ _ h1)
theorem sp_lshl (hx : p.tables.exec = Jvm.exec) (hb : c.code = cc) (hK : ∀ pc1 lv1 st1 h1, K pc1 lv1 st1 h1 = some r → am_W p l e R s m args below meth c Q E n0 pc1 lv1 st1 h1) (hd : decode cc pc = .ok (.lshl, 1)) (hs : stp call K (pc, 1, x, .lshl) lv st h = some r) : am_W p l e R s m args below meth c Q E n0 pc lv st h := by
  dsimp only [stp] at hs
  obtain ⟨b, t, rfl, h1⟩ := pI_inv hs
  obtain ⟨a, u, rfl, h2⟩ := pJ_inv h1
  exact am_W.go (fun H locs ls _ _ _ _ w => lv_lshl hx hb hd rfl w) (hK _ _ _ _ h2)
theorem sp_lushr (hx : p.tables.exec = Jvm.exec) (hb : c.code = cc) (hK : ∀ pc1 lv1 st1 h1, K pc1 lv1 st1 h1 = some r → am_W p l e R s m args below meth c Q E n0 pc1 lv1 st1 h1) (hd : decode cc pc = .ok (.lushr, 1)) (hs : stp call K (pc, 1, x, .lushr) lv st h = some r) : am_W p l e R s m args below meth c Q E n0 pc lv st h := by
  dsimp only [stp] at hs
  obtain ⟨b, t, rfl, h1⟩ := pI_inv hs
  obtain ⟨a, u, rfl, h2⟩ := pJ_inv h1
  exact am_W.go (fun H locs ls _ _ _ _ w => lv_lushr hx hb hd rfl w) (hK _ _ _ _ h2)
theorem sp_lcmp (hx : p.tables.exec = Jvm.exec) (hb : c.code = cc) (hK : ∀ pc1 lv1 st1 h1, K pc1 lv1 st1 h1 = some r → am_W p l e R s m args below meth c Q E n0 pc1 lv1 st1 h1) (hd : decode cc pc = .ok (.lcmp, 1)) (hs : stp call K (pc, 1, x, .lcmp) lv st h = some r) : am_W p l e R s m args below meth c Q E n0 pc lv st h := by
  dsimp only [stp] at hs
  obtain ⟨b, t, rfl, h1⟩ := pJ_inv hs
  obtain ⟨a, u, rfl, h2⟩ := pJ_inv h1
  exact am_W.go (fun H locs ls _ _ _ _ w => W.lcmp hx hb hd w) (hK _ _ _ _ h2)
theorem sp_i2l (hx : p.tables.exec = Jvm.exec) (hb : c.code = cc) (hK : ∀ pc1 lv1 st1 h1, K pc1 lv1 st1 h1 = some r → am_W p l e R s m args below meth c Q E n0 pc1 lv1 st1 h1) (hd : decode cc pc = .ok (.i2l, 1)) (hs : stp call K (pc, 1, x, .i2l) lv st h = some r) : am_W p l e R s m args below meth c Q E n0 pc lv st h := by
  dsimp only [stp] at hs
  obtain ⟨a, t, rfl, h1⟩ := pI_inv hs
  exact am_W.go (fun H locs ls _ _ _ _ w => lv_i2l hx hb hd rfl w) (hK _ _ _ _ h1)
theorem sp_l2i (hx : p.tables.exec = Jvm.exec) (hb : c.code = cc) (hK : ∀ pc1 lv1 st1 h1, K pc1 lv1 st1 h1 = some r → am_W p l e R s m args below meth c Q E n0 pc1 lv1 st1 h1) (hd : decode cc pc = .ok (.l2i, 1)) (hs : stp call K (pc, 1, x, .l2i) lv st h = some r) : am_W p l e R s m args below meth c Q E n0 pc lv st h := by
  dsimp only [stp] at hs
  obtain ⟨a, t, rfl, h1⟩ := pJ_inv hs
  exact am_W.go (fun H locs ls _ _ _ _ w => lv_l2i hx hb hd rfl w) (hK _ _ _ _ h1)
theorem sp_i2c (hx : p.tables.exec = Jvm.exec) (hb : c.code = cc) (hK : ∀ pc1 lv1 st1 h1, K pc1 lv1 st1 h1 = some r → am_W p l e R s m args below meth c Q E n0 pc1 lv1 st1 h1) (hd : decode cc pc = .ok (.i2c, 1)) (hs : stp call K (pc, 1, x, .i2c) lv st h = some r) : am_W p l e R s m args below meth c Q E n0 pc lv st h := by
  dsimp only [stp] at hs
  obtain ⟨a, t, rfl, h1⟩ := pI_inv hs
  exact am_W.go (fun H locs ls _ _ _ _ w => lv_i2c hx hb hd rfl w) (hK _ _ _ _ h1)
theorem sp_iload_n (hx : p.tables.exec = Jvm.exec) (hb : c.code = cc) (hK : ∀ pc1 lv1 st1 h1, K pc1 lv1 st1 h1 = some r → am_W p l e R s m args below meth c Q E n0 pc1 lv1 st1 h1) {i : Fin 4} (hd : decode cc pc = .ok ((.iload_n i), 1)) (hs : stp call K (pc, 1, x, (.iload_n i)) lv st h = some r) : am_W p l e R s m args below meth c Q E n0 pc lv st h := by
  dsimp only [stp] at hs
  obtain ⟨a, h1, h2⟩ := ldI_inv hs
  exact am_W.go (fun H locs ls _ _ hl _ w => lv_iload_n hx hb hd rfl (am_lv_at hl h1) w) (hK _ _ _ _ h2)
theorem sp_iload (hx : p.tables.exec = Jvm.exec) (hb : c.code = cc) (hK : ∀ pc1 lv1 st1 h1, K pc1 lv1 st1 h1 = some r → am_W p l e R s m args below meth c Q E n0 pc1 lv1 st1 h1) {i : Nat} (hd : decode cc pc = .ok ((.iload i), 2)) (hs : stp call K (pc, 2, x, (.iload i)) lv st h = some r) : am_W p l e R s m args below meth c Q E n0 pc lv st h := by
  dsimp only [stp] at hs
  obtain ⟨a, h1, h2⟩ := ldI_inv hs
  exact am_W.go (fun H locs ls _ _ hl _ w => lv_iload hx hb hd (am_lv_at hl h1) w) (hK _ _ _ _ h2)
theorem sp_lload_n (hx : p.tables.exec = Jvm.exec) (hb : c.code = cc) (hK : ∀ pc1 lv1 st1 h1, K pc1 lv1 st1 h1 = some r → am_W p l e R s m args below meth c Q E n0 pc1 lv1 st1 h1) {i : Fin 4} (hd : decode cc pc = .ok ((.lload_n i), 1)) (hs : stp call K (pc, 1, x, (.lload_n i)) lv st h = some r) : am_W p l e R s m args below meth c Q E n0 pc lv st h := by
  dsimp only [stp] at hs
  obtain ⟨a, h1, h2⟩ := ldJ_inv hs
  exact am_W.go (fun H locs ls _ _ hl _ w => lv_lload_n hx hb hd rfl (am_lv_at hl h1) w) (hK _ _ _ _ h2)
theorem sp_lload (hx : p.tables.exec = Jvm.exec) (hb : c.code = cc) (hK : ∀ pc1 lv1 st1 h1, K pc1 lv1 st1 h1 = some r → am_W p l e R s m args below meth c Q E n0 pc1 lv1 st1 h1) {i : Nat} (hd : decode cc pc = .ok ((.lload i), 2)) (hs : stp call K (pc, 2, x, (.lload i)) lv st h = some r) : am_W p l e R s m args below meth c Q E n0 pc lv st h := by
  dsimp only [stp] at hs
  obtain ⟨a, h1, h2⟩ := ldJ_inv hs
  exact am_W.go (fun H locs ls _ _ hl _ w => lv_lload hx hb hd (am_lv_at hl h1) w) (hK _ _ _ _ h2)
theorem sp_aload_n (hx : p.tables.exec = Jvm.exec) (hb : c.code = cc) (hK : ∀ pc1 lv1 st1 h1, K pc1 lv1 st1 h1 = some r → am_W p l e R s m args below meth c Q E n0 pc1 lv1 st1 h1) {i : Fin 4} (hd : decode cc pc = .ok ((.aload_n i), 1)) (hs : stp call K (pc, 1, x, (.aload_n i)) lv st h = some r) : am_W p l e R s m args below meth c Q E n0 pc lv st h := by
  dsimp only [stp] at hs
  obtain ⟨a, h1, h2⟩ := ldA_inv hs
  refine am_W.go (fun H locs ls _ _ hl _ w => ?_) (hK _ _ _ _ h2)
  have h3 := am_lv_at hl h1
  by_cases hz : a = nul
  · have e0 : eg E (.ref a) = .null := by show (if a = nul then Value.null else _) = _; rw [if_pos hz]
    rw [e0] at h3
    rw [List.map_cons, e0] at w
    exact lv_aload_nN hx hb hd rfl h3 w
  · have e0 : eg E (.ref a) = .ref (ea E a) := by show (if a = nul then Value.null else _) = _; rw [if_neg hz]
    rw [e0] at h3
    rw [List.map_cons, e0] at w
    exact lv_aload_n hx hb hd rfl h3 w
theorem sp_aload (hx : p.tables.exec = Jvm.exec) (hb : c.code = cc) (hK : ∀ pc1 lv1 st1 h1, K pc1 lv1 st1 h1 = some r → am_W p l e R s m args below meth c Q E n0 pc1 lv1 st1 h1) {i : Nat} (hd : decode cc pc = .ok ((.aload i), 2)) (hs : stp call K (pc, 2, x, (.aload i)) lv st h = some r) : am_W p l e R s m args below meth c Q E n0 pc lv st h := by
  dsimp only [stp] at hs
  obtain ⟨a, h1, h2⟩ := ldA_inv hs
  refine am_W.go (fun H locs ls _ _ hl _ w => ?_) (hK _ _ _ _ h2)
  have h3 := am_lv_at hl h1
  by_cases hz : a = nul
  · have e0 : eg E (.ref a) = .null := by show (if a = nul then Value.null else _) = _; rw [if_pos hz]
    rw [e0] at h3
    rw [List.map_cons, e0] at w
    exact lv_aloadN hx hb hd h3 w
  · have e0 : eg E (.ref a) = .ref (ea E a) := by show (if a = nul then Value.null else _) = _; rw [if_neg hz]
    rw [e0] at h3
    rw [List.map_cons, e0] at w
    exact lv_aload hx hb hd h3 w
theorem sp_istore_n (hx : p.tables.exec = Jvm.exec) (hb : c.code = cc) (hK : ∀ pc1 lv1 st1 h1, K pc1 lv1 st1 h1 = some r → am_W p l e R s m args below meth c Q E n0 pc1 lv1 st1 h1) {i : Fin 4} (hd : decode cc pc = .ok ((.istore_n i), 1)) (hs : stp call K (pc, 1, x, (.istore_n i)) lv st h = some r) : am_W p l e R s m args below meth c Q E n0 pc lv st h := by
  dsimp only [stp] at hs
  obtain ⟨a, t, rfl, h1⟩ := pI_inv hs
  obtain ⟨lv1, g1, g2, g3, g4, g5⟩ := am_st1_spec _ _ _ _ _ h1
  exact am_W.sto (v := .int a) rfl (fun H locs ls _ _ hl hi kk => lv_istore_n hx hb hd rfl hl hi rfl kk) g2 g3 g4 g5 (hK _ _ _ _ g1)
theorem sp_astore_n (hx : p.tables.exec = Jvm.exec) (hb : c.code = cc) (hK : ∀ pc1 lv1 st1 h1, K pc1 lv1 st1 h1 = some r → am_W p l e R s m args below meth c Q E n0 pc1 lv1 st1 h1) {i : Fin 4} (hd : decode cc pc = .ok ((.astore_n i), 1)) (hs : stp call K (pc, 1, x, (.astore_n i)) lv st h = some r) : am_W p l e R s m args below meth c Q E n0 pc lv st h := by
  dsimp only [stp] at hs
  obtain ⟨a, t, rfl, h1⟩ := pR_inv hs
  obtain ⟨lv1, g1, g2, g3, g4, g5⟩ := am_st1_spec _ _ _ _ _ h1
  refine am_W.sto (v := .ref a) rfl (fun H locs ls _ _ hl hi kk => ?_) g2 g3 g4 g5 (hK _ _ _ _ g1)
  by_cases hz : a = nul
  · have e0 : eg E (.ref a) = .null := by show (if a = nul then Value.null else _) = _; rw [if_pos hz]
    rw [e0] at kk
    rw [List.map_cons, e0]
    exact lv_astore_nN hx hb hd rfl hl hi rfl kk
  · have e0 : eg E (.ref a) = .ref (ea E a) := by show (if a = nul then Value.null else _) = _; rw [if_neg hz]
    rw [e0] at kk
    rw [List.map_cons, e0]
    exact lv_astore_n hx hb hd rfl hl hi rfl kk
theorem sp_lstore_n (hx : p.tables.exec = Jvm.exec) (hb : c.code = cc) (hK : ∀ pc1 lv1 st1 h1, K pc1 lv1 st1 h1 = some r → am_W p l e R s m args below meth c Q E n0 pc1 lv1 st1 h1) {i : Fin 4} (hd : decode cc pc = .ok ((.lstore_n i), 1)) (hs : stp call K (pc, 1, x, (.lstore_n i)) lv st h = some r) : am_W p l e R s m args below meth c Q E n0 pc lv st h := by
  dsimp only [stp] at hs
  obtain ⟨a, t, rfl, h1⟩ := pJ_inv hs
  obtain ⟨lv1, g1, g2, g3, g4, g5⟩ := am_st1_spec _ _ _ _ _ h1
  obtain ⟨lv2, f1, f2, f3, f4, f5⟩ := am_stN_spec _ _ _ _ _ g1
  exact am_W.sto2 (v := .long a) rfl (fun H locs ls _ _ hl hi kk => lv_lstore_n hx hb hd rfl hl hi rfl kk) g2 g4 g5 f2 f3 f4 f5 (hK _ _ _ _ f1)
theorem sp_istore (hx : p.tables.exec = Jvm.exec) (hb : c.code = cc) (hK : ∀ pc1 lv1 st1 h1, K pc1 lv1 st1 h1 = some r → am_W p l e R s m args below meth c Q E n0 pc1 lv1 st1 h1) {i : Nat} (hd : decode cc pc = .ok ((.istore i), 2)) (hs : stp call K (pc, 2, x, (.istore i)) lv st h = some r) : am_W p l e R s m args below meth c Q E n0 pc lv st h := by
  dsimp only [stp] at hs
  obtain ⟨a, t, rfl, h1⟩ := pI_inv hs
  obtain ⟨lv1, g1, g2, g3, g4, g5⟩ := am_st1_spec _ _ _ _ _ h1
  exact am_W.sto (v := .int a) rfl (fun H locs ls _ _ hl hi kk => lv_istore hx hb hd hl hi rfl kk) g2 g3 g4 g5 (hK _ _ _ _ g1)
theorem sp_astore (hx : p.tables.exec = Jvm.exec) (hb : c.code = cc) (hK : ∀ pc1 lv1 st1 h1, K pc1 lv1 st1 h1 = some r → am_W p l e R s m args below meth c Q E n0 pc1 lv1 st1 h1) {i : Nat} (hd : decode cc pc = .ok ((.astore i), 2)) (hs : stp call K (pc, 2, x, (.astore i)) lv st h = some r) : am_W p l e R s m args below meth c Q E n0 pc lv st h := by
  dsimp only [stp] at hs
  obtain ⟨a, t, rfl, h1⟩ := pR_inv hs
  obtain ⟨lv1, g1, g2, g3, g4, g5⟩ := am_st1_spec _ _ _ _ _ h1
  refine am_W.sto (v := .ref a) rfl (fun H locs ls _ _ hl hi kk => ?_) g2 g3 g4 g5 (hK _ _ _ _ g1)
  by_cases hz : a = nul
  · have e0 : eg E (.ref a) = .null := by show (if a = nul then Value.null else _) = _; rw [if_pos hz]
    rw [e0] at kk
    rw [List.map_cons, e0]
    exact lv_astoreN hx hb hd hl hi rfl kk
  · have e0 : eg E (.ref a) = .ref (ea E a) := by show (if a = nul then Value.null else _) = _; rw [if_neg hz]
    rw [e0] at kk
    rw [List.map_cons, e0]
    exact lv_astore hx hb hd hl hi rfl kk
theorem sp_lstore (hx : p.tables.exec = Jvm.exec) (hb : c.code = cc) (hK : ∀ pc1 lv1 st1 h1, K pc1 lv1 st1 h1 = some r → am_W p l e R s m args below meth c Q E n0 pc1 lv1 st1 h1) {i : Nat} (hd : decode cc pc = .ok ((.lstore i), 2)) (hs : stp call K (pc, 2, x, (.lstore i)) lv st h = some r) : am_W p l e R s m args below meth c Q E n0 pc lv st h := by
  dsimp only [stp] at hs
  obtain ⟨a, t, rfl, h1⟩ := pJ_inv hs
  obtain ⟨lv1, g1, g2, g3, g4, g5⟩ := am_st1_spec _ _ _ _ _ h1
  obtain ⟨lv2, f1, f2, f3, f4, f5⟩ := am_stN_spec _ _ _ _ _ g1
  exact am_W.sto2 (v := .long a) rfl (fun H locs ls _ _ hl hi kk => lv_lstore hx hb hd hl hi rfl kk) g2 g4 g5 f2 f3 f4 f5 (hK _ _ _ _ f1)
theorem sp_iinc (hx : p.tables.exec = Jvm.exec) (hb : c.code = cc) (hK : ∀ pc1 lv1 st1 h1, K pc1 lv1 st1 h1 = some r → am_W p l e R s m args below meth c Q E n0 pc1 lv1 st1 h1) {i : Nat} {n : Int} (hc : Int32.ofInt n = am_cst x) (hd : decode cc pc = .ok ((.iinc i n), 3)) (hs : stp call K (pc, 3, x, (.iinc i n)) lv st h = some r) : am_W p l e R s m args below meth c Q E n0 pc lv st h := by
  dsimp only [stp] at hs
  obtain ⟨a, h1, h2⟩ := ldI_inv hs
  obtain ⟨lv1, g1, g2, g3, g4, g5⟩ := am_st1_spec _ _ _ _ _ h2
  refine am_W.sto (v := .int (a + am_cst x)) rfl (fun H locs ls _ _ hl hi kk => ?_) g2 g3 g4 g5 (hK _ _ _ _ g1)
  obtain ⟨k, hk⟩ := List.getElem?_of_mem (am_lvl_mem (E := E) (k := 0) |>.mpr ⟨i, .int a, h1, rfl⟩)
  rw [Nat.zero_add] at hk
  exact lv_iinc hx hb hd hl hk (by rw [hc]) hi rfl kk
theorem sp_iconst (hx : p.tables.exec = Jvm.exec) (hb : c.code = cc) (hK : ∀ pc1 lv1 st1 h1, K pc1 lv1 st1 h1 = some r → am_W p l e R s m args below meth c Q E n0 pc1 lv1 st1 h1) {n : Int} (hc : Int32.ofInt n = am_cst x) (hd : decode cc pc = .ok ((.iconst n), 1)) (hs : stp call K (pc, 1, x, (.iconst n)) lv st h = some r) : am_W p l e R s m args below meth c Q E n0 pc lv st h := by
  dsimp only [stp] at hs
  exact am_W.go (fun H locs ls _ _ _ _ w => lv_iconst hx hb hd hc w) (hK _ _ _ _ hs)
theorem sp_bipush (hx : p.tables.exec = Jvm.exec) (hb : c.code = cc) (hK : ∀ pc1 lv1 st1 h1, K pc1 lv1 st1 h1 = some r → am_W p l e R s m args below meth c Q E n0 pc1 lv1 st1 h1) {n : Int} (hc : (Int8.ofInt n).toInt32 = am_cst x) (hd : decode cc pc = .ok ((.bipush n), 2)) (hs : stp call K (pc, 2, x, (.bipush n)) lv st h = some r) : am_W p l e R s m args below meth c Q E n0 pc lv st h := by
  dsimp only [stp] at hs
  exact am_W.go (fun H locs ls _ _ _ _ w => lv_bipush hx hb hd hc w) (hK _ _ _ _ hs)
theorem sp_sipush (hx : p.tables.exec = Jvm.exec) (hb : c.code = cc) (hK : ∀ pc1 lv1 st1 h1, K pc1 lv1 st1 h1 = some r → am_W p l e R s m args below meth c Q E n0 pc1 lv1 st1 h1) {n : Int} (hc : (Int16.ofInt n).toInt32 = am_cst x) (hd : decode cc pc = .ok ((.sipush n), 3)) (hs : stp call K (pc, 3, x, (.sipush n)) lv st h = some r) : am_W p l e R s m args below meth c Q E n0 pc lv st h := by
  dsimp only [stp] at hs
  exact am_W.go (fun H locs ls _ _ _ _ w => lv_sipush hx hb hd hc w) (hK _ _ _ _ hs)
theorem sp_lconst (hx : p.tables.exec = Jvm.exec) (hb : c.code = cc) (hK : ∀ pc1 lv1 st1 h1, K pc1 lv1 st1 h1 = some r → am_W p l e R s m args below meth c Q E n0 pc1 lv1 st1 h1) {n : Fin 2} (hd : decode cc pc = .ok ((.lconst n), 1)) (hs : stp call K (pc, 1, x, (.lconst n)) lv st h = some r) : am_W p l e R s m args below meth c Q E n0 pc lv st h := by
  dsimp only [stp] at hs
  exact am_W.go (fun H locs ls _ _ _ _ w => lv_lconst hx hb hd rfl w) (hK _ _ _ _ hs)
theorem sp_ldc (hx : p.tables.exec = Jvm.exec) (hb : c.code = cc) (hK : ∀ pc1 lv1 st1 h1, K pc1 lv1 st1 h1 = some r → am_W p l e R s m args below meth c Q E n0 pc1 lv1 st1 h1) {own : String} {TB : List Cond} (hts : ∀ w ∈ TB, w.before args s = true) (hown : s.vm.findClass own = some m.cls) {n : Nat} (hc : Cond.constant own n (am_cst x) ∈ TB) (hd : decode cc pc = .ok ((.ldc n), 2)) (hs : stp call K (pc, 2, x, (.ldc n)) lv st h = some r) : am_W p l e R s m args below meth c Q E n0 pc lv st h := by
  dsimp only [stp] at hs
  exact am_W.go (fun H locs ls _ _ _ _ w => lv_ldc hx hb hown (hts _ hc) hd w) (hK _ _ _ _ hs)
theorem sp_ldc_w (hx : p.tables.exec = Jvm.exec) (hb : c.code = cc) (hK : ∀ pc1 lv1 st1 h1, K pc1 lv1 st1 h1 = some r → am_W p l e R s m args below meth c Q E n0 pc1 lv1 st1 h1) {own : String} {TB : List Cond} (hts : ∀ w ∈ TB, w.before args s = true) (hown : s.vm.findClass own = some m.cls) {n : Nat} (hc : Cond.constant own n (am_cst x) ∈ TB) (hd : decode cc pc = .ok ((.ldc_w n), 3)) (hs : stp call K (pc, 3, x, (.ldc_w n)) lv st h = some r) : am_W p l e R s m args below meth c Q E n0 pc lv st h := by
  dsimp only [stp] at hs
  exact am_W.go (fun H locs ls _ _ _ _ w => lv_ldcw hx hb hown (hts _ hc) hd w) (hK _ _ _ _ hs)
theorem sp_ldc2_w (hx : p.tables.exec = Jvm.exec) (hb : c.code = cc) (hK : ∀ pc1 lv1 st1 h1, K pc1 lv1 st1 h1 = some r → am_W p l e R s m args below meth c Q E n0 pc1 lv1 st1 h1) {own : String} {TB : List Cond} (hts : ∀ w ∈ TB, w.before args s = true) (hown : s.vm.findClass own = some m.cls) {n : Nat} (hc : Cond.constantLong own n (Int64.ofNat x) ∈ TB) (hd : decode cc pc = .ok ((.ldc2_w n), 3)) (hs : stp call K (pc, 3, x, (.ldc2_w n)) lv st h = some r) : am_W p l e R s m args below meth c Q E n0 pc lv st h := by
  dsimp only [stp] at hs
  exact am_W.go (fun H locs ls _ _ _ _ w => lv_ldc2 hx hb hown (hts _ hc) hd w) (hK _ _ _ _ hs)
theorem sp_aconst_null (hx : p.tables.exec = Jvm.exec) (hb : c.code = cc) (hK : ∀ pc1 lv1 st1 h1, K pc1 lv1 st1 h1 = some r → am_W p l e R s m args below meth c Q E n0 pc1 lv1 st1 h1) (hd : decode cc pc = .ok (.aconst_null, 1)) (hs : stp call K (pc, 1, x, .aconst_null) lv st h = some r) : am_W p l e R s m args below meth c Q E n0 pc lv st h := by
  dsimp only [stp] at hs
  exact am_W.go (fun H locs ls _ _ _ _ w => lv_null hx hb hd w) (hK _ _ _ _ hs)
theorem sp_dup (hx : p.tables.exec = Jvm.exec) (hb : c.code = cc) (hK : ∀ pc1 lv1 st1 h1, K pc1 lv1 st1 h1 = some r → am_W p l e R s m args below meth c Q E n0 pc1 lv1 st1 h1) (hd : decode cc pc = .ok (.dup, 1)) (hs : stp call K (pc, 1, x, .dup) lv st h = some r) : am_W p l e R s m args below meth c Q E n0 pc lv st h := by
  dsimp only [stp] at hs
  split at hs
  · rename_i v t
    obtain ⟨h1, h2⟩ := am_c1_inv hs
    exact am_W.go (fun H locs ls _ _ _ _ w => lv_dup hx hb hd (by rw [eg_cat]; exact h1) w) (hK _ _ _ _ h2)
  · cases hs
theorem sp_dup2 (hx : p.tables.exec = Jvm.exec) (hb : c.code = cc) (hK : ∀ pc1 lv1 st1 h1, K pc1 lv1 st1 h1 = some r → am_W p l e R s m args below meth c Q E n0 pc1 lv1 st1 h1) (hd : decode cc pc = .ok (.dup2, 1)) (hs : stp call K (pc, 1, x, .dup2) lv st h = some r) : am_W p l e R s m args below meth c Q E n0 pc lv st h := by
  dsimp only [stp] at hs
  split at hs
  · rename_i v w t
    obtain ⟨h1, h2⟩ := am_c1_inv hs
    obtain ⟨h3, h4⟩ := am_c1_inv h2
    exact am_W.go (fun H locs ls _ _ _ _ w => lv_dup2_11 hx hb hd (by rw [eg_cat]; exact h1) (by rw [eg_cat]; exact h3) w) (hK _ _ _ _ h4)
  · cases hs
theorem sp_ifCond (hx : p.tables.exec = Jvm.exec) (hb : c.code = cc) (hK : ∀ pc1 lv1 st1 h1, K pc1 lv1 st1 h1 = some r → am_W p l e R s m args below meth c Q E n0 pc1 lv1 st1 h1) {q : Jvm.ClassFile.Cond} {off : Int} (ht : (pc : Int) + off = (x : Int)) (hd : decode cc pc = .ok ((.ifCond q off), 3)) (hs : stp call K (pc, 3, x, (.ifCond q off)) lv st h = some r) : am_W p l e R s m args below meth c Q E n0 pc lv st h := by
  dsimp only [stp] at hs
  obtain ⟨a, t, rfl, h1⟩ := pI_inv hs
  cases q with
  | eq =>
    refine am_W.go2 (q := a = 0) (fun H locs ls _ _ k1 k2 => lv_if_eq hx hb hd ht k1 k2) (fun hq => hK _ _ _ _ ?_) (fun hq => hK _ _ _ _ ?_)
    · rw [← h1]; exact (if_pos hq).symm
    · rw [← h1]; exact (if_neg hq).symm
  | ne =>
    refine am_W.go2 (q := ¬ a = 0) (fun H locs ls _ _ k1 k2 => lv_if_ne hx hb hd ht k1 (fun hq => k2 (fun f => f hq))) (fun hq => hK _ _ _ _ ?_) (fun hq => hK _ _ _ _ ?_)
    · rw [← h1]; exact (if_neg hq).symm
    · rw [← h1]; exact (if_pos (Decidable.not_not.mp hq)).symm
  | lt =>
    refine am_W.go2 (q := a < 0) (fun H locs ls _ _ k1 k2 => lv_if_lt hx hb hd ht k1 k2) (fun hq => hK _ _ _ _ ?_) (fun hq => hK _ _ _ _ ?_)
    · rw [← h1]; exact (if_pos hq).symm
    · rw [← h1]; exact (if_neg hq).symm
  | ge =>
    refine am_W.go2 (q := 0 ≤ a) (fun H locs ls _ _ k1 k2 => lv_if_ge hx hb hd ht k1 k2) (fun hq => hK _ _ _ _ ?_) (fun hq => hK _ _ _ _ ?_)
    · rw [← h1]; exact (if_neg (Int32.not_lt.mpr hq)).symm
    · rw [← h1]; exact (if_pos (Int32.not_le.mp hq)).symm
  | gt =>
    refine am_W.go2 (q := 0 < a) (fun H locs ls _ _ k1 k2 => lv_if_gt hx hb hd ht k1 k2) (fun hq => hK _ _ _ _ ?_) (fun hq => hK _ _ _ _ ?_)
    · rw [← h1]; exact (if_pos hq).symm
    · rw [← h1]; exact (if_neg hq).symm
  | le =>
    refine am_W.go2 (q := a ≤ 0) (fun H locs ls _ _ k1 k2 => lv_if_le hx hb hd ht k1 k2) (fun hq => hK _ _ _ _ ?_) (fun hq => hK _ _ _ _ ?_)
    · rw [← h1]; exact (if_neg (Int32.not_lt.mpr hq)).symm
    · rw [← h1]; exact (if_pos (Int32.not_le.mp hq)).symm
theorem sp_if_icmp (hx : p.tables.exec = Jvm.exec) (hb : c.code = cc) (hK : ∀ pc1 lv1 st1 h1, K pc1 lv1 st1 h1 = some r → am_W p l e R s m args below meth c Q E n0 pc1 lv1 st1 h1) {q : Jvm.ClassFile.Cond} {off : Int} (ht : (pc : Int) + off = (x : Int)) (hd : decode cc pc = .ok ((.if_icmp q off), 3)) (hs : stp call K (pc, 3, x, (.if_icmp q off)) lv st h = some r) : am_W p l e R s m args below meth c Q E n0 pc lv st h := by
  dsimp only [stp] at hs
  obtain ⟨b, t0, rfl, h0⟩ := pI_inv hs
  obtain ⟨a, t, rfl, h1⟩ := pI_inv h0
  cases q with
  | eq =>
    refine am_W.go2 (q := a = b) (fun H locs ls _ _ k1 k2 => lv_icmp_eq hx hb hd ht k1 k2) (fun hq => hK _ _ _ _ ?_) (fun hq => hK _ _ _ _ ?_)
    · rw [← h1]; exact (if_pos hq).symm
    · rw [← h1]; exact (if_neg hq).symm
  | ne =>
    refine am_W.go2 (q := ¬ a = b) (fun H locs ls _ _ k1 k2 => lv_icmp_ne hx hb hd ht k1 (fun hq => k2 (fun f => f hq))) (fun hq => hK _ _ _ _ ?_) (fun hq => hK _ _ _ _ ?_)
    · rw [← h1]; exact (if_neg hq).symm
    · rw [← h1]; exact (if_pos (Decidable.not_not.mp hq)).symm
  | lt =>
    refine am_W.go2 (q := a < b) (fun H locs ls _ _ k1 k2 => lv_icmp_lt hx hb hd ht k1 k2) (fun hq => hK _ _ _ _ ?_) (fun hq => hK _ _ _ _ ?_)
    · rw [← h1]; exact (if_pos hq).symm
    · rw [← h1]; exact (if_neg hq).symm
  | ge =>
    refine am_W.go2 (q := b ≤ a) (fun H locs ls _ _ k1 k2 => lv_icmp_ge hx hb hd ht k1 k2) (fun hq => hK _ _ _ _ ?_) (fun hq => hK _ _ _ _ ?_)
    · rw [← h1]; exact (if_neg (Int32.not_lt.mpr hq)).symm
    · rw [← h1]; exact (if_pos (Int32.not_le.mp hq)).symm
  | gt =>
    refine am_W.go2 (q := b < a) (fun H locs ls _ _ k1 k2 => lv_icmp_gt hx hb hd ht k1 k2) (fun hq => hK _ _ _ _ ?_) (fun hq => hK _ _ _ _ ?_)
    · rw [← h1]; exact (if_pos hq).symm
    · rw [← h1]; exact (if_neg hq).symm
  | le =>
    refine am_W.go2 (q := a ≤ b) (fun H locs ls _ _ k1 k2 => lv_icmp_le hx hb hd ht k1 k2) (fun hq => hK _ _ _ _ ?_) (fun hq => hK _ _ _ _ ?_)
    · rw [← h1]; exact (if_neg (Int32.not_lt.mpr hq)).symm
    · rw [← h1]; exact (if_pos (Int32.not_le.mp hq)).symm
theorem sp_goto (hx : p.tables.exec = Jvm.exec) (hb : c.code = cc) (hK : ∀ pc1 lv1 st1 h1, K pc1 lv1 st1 h1 = some r → am_W p l e R s m args below meth c Q E n0 pc1 lv1 st1 h1) {off : Int} (ht : (pc : Int) + off = (x : Int)) (hd : decode cc pc = .ok ((.goto off), 3)) (hs : stp call K (pc, 3, x, (.goto off)) lv st h = some r) : am_W p l e R s m args below meth c Q E n0 pc lv st h := by
  dsimp only [stp] at hs
  exact am_W.go (fun H locs ls _ _ _ _ w => lv_goto hx hb hd ht w) (hK _ _ _ _ hs)
theorem sp_ifnull (hx : p.tables.exec = Jvm.exec) (hb : c.code = cc) (hK : ∀ pc1 lv1 st1 h1, K pc1 lv1 st1 h1 = some r → am_W p l e R s m args below meth c Q E n0 pc1 lv1 st1 h1) {off : Int} (ht : (pc : Int) + off = (x : Int)) (hd : decode cc pc = .ok ((.ifnull off), 3)) (hs : stp call K (pc, 3, x, (.ifnull off)) lv st h = some r) : am_W p l e R s m args below meth c Q E n0 pc lv st h := by
  dsimp only [stp] at hs
  obtain ⟨a, t, rfl, h1⟩ := pR_inv hs
  by_cases hz : a = nul
  · rw [if_pos hz] at h1
    have e0 : eg E (.ref a) = .null := by show (if a = nul then Value.null else _) = _; rw [if_pos hz]
    refine am_W.go (fun H locs ls _ _ _ _ w => ?_) (hK _ _ _ _ h1)
    rw [List.map_cons, e0]
    exact lv_ifnullN hx hb hd ht w
  · rw [if_neg hz] at h1
    have e0 : eg E (.ref a) = .ref (ea E a) := by show (if a = nul then Value.null else _) = _; rw [if_neg hz]
    refine am_W.go (fun H locs ls _ _ _ _ w => ?_) (hK _ _ _ _ h1)
    rw [List.map_cons, e0]
    exact lv_ifnull hx hb hd w
theorem am_wd_inv {a : Nat} {k : Option Res} {r : Res} (h : am_wd a k = some r) : (a = nul ∨ (1000000 ≤ a ∧ a < 1000031)) ∧ k = some r := by
  unfold am_wd at h
  split at h
  · rename_i h1; exact ⟨h1, h⟩
  · cases h
def am_opt (E : AE) (a : Nat) : Option Nat := if a = nul then none else some (ea E a)
theorem am_opt_rf (E : AE) (a : Nat) : eg E (.ref a) = va_rf (am_opt E a) := by
  show (if a = nul then Value.null else Value.ref (ea E a)) = _
  unfold am_opt
  by_cases h : a = nul
  · rw [if_pos h, if_pos h]; rfl
  · rw [if_neg h, if_neg h]; rfl
theorem am_opt_inj {E : AE} (hj : ∀ i j, i < 31 → j < 31 → E.2.1 i = E.2.1 j → i = j) {a b : Nat} (ha : a = nul ∨ (1000000 ≤ a ∧ a < 1000031)) (hb : b = nul ∨ (1000000 ≤ b ∧ b < 1000031)) : am_opt E a = am_opt E b ↔ a = b := by
  constructor
  · intro h
    unfold am_opt at h
    rcases ha with rfl | ⟨a1, a2⟩
    · rw [if_pos rfl] at h
      by_cases hz : b = nul
      · exact hz.symm
      · rw [if_neg hz] at h; cases h
    · have na : a ≠ nul := by unfold nul; omega
      rw [if_neg na] at h
      rcases hb with rfl | ⟨b1, b2⟩
      · rw [if_pos rfl] at h; cases h
      · have nb : b ≠ nul := by unfold nul; omega
        rw [if_neg nb] at h
        have h := Option.some.inj h
        unfold ea at h
        rw [if_neg (by omega), if_neg (by omega)] at h
        have := hj _ _ (by omega) (by omega) h
        omega
  · intro h; rw [h]
theorem sp_if_acmp (hx : p.tables.exec = Jvm.exec) (hb : c.code = cc) (hK : ∀ pc1 lv1 st1 h1, K pc1 lv1 st1 h1 = some r → am_W p l e R s m args below meth c Q E n0 pc1 lv1 st1 h1) (hj : ∀ i j, i < 31 → j < 31 → E.2.1 i = E.2.1 j → i = j) {q : ACond} {off : Int} (ht : (pc : Int) + off = (x : Int)) (hd : decode cc pc = .ok ((.if_acmp q off), 3)) (hs : stp call K (pc, 3, x, (.if_acmp q off)) lv st h = some r) : am_W p l e R s m args below meth c Q E n0 pc lv st h := by
  dsimp only [stp] at hs
  obtain ⟨b, t0, rfl, h0⟩ := pR_inv hs
  obtain ⟨a, t, rfl, h1⟩ := pR_inv h0
  obtain ⟨wa, h2⟩ := am_wd_inv h1
  obtain ⟨wb, h3⟩ := am_wd_inv h2
  have hio := am_opt_inj hj wa wb
  cases q with
  | eq =>
    refine am_W.go2 (pc1 := x) (pc2 := pc + 3) (st1 := t) (st2 := t) (q := am_opt E a = am_opt E b) (fun H locs ls _ _ k1 k2 => ?_) (fun hq => hK _ _ _ _ ?_) (fun hq => hK _ _ _ _ ?_)
    · rw [List.map_cons, List.map_cons, am_opt_rf, am_opt_rf]
      exact lv_acmp_eq hx hb hd ht k1 k2
    · rw [← h3]; exact (if_pos (hio.mp hq)).symm
    · rw [← h3]; exact (if_neg (fun z => hq (hio.mpr z))).symm
  | ne =>
    refine am_W.go2 (pc1 := x) (pc2 := pc + 3) (st1 := t) (st2 := t) (q := ¬ am_opt E a = am_opt E b) (fun H locs ls _ _ k1 k2 => ?_) (fun hq => hK _ _ _ _ ?_) (fun hq => hK _ _ _ _ ?_)
    · rw [List.map_cons, List.map_cons, am_opt_rf, am_opt_rf]
      exact lv_acmp_ne hx hb hd ht k1 (fun hq => k2 (fun f => f hq))
    · rw [← h3]; exact (if_neg (fun z => hq (hio.mpr z))).symm
    · rw [← h3]; exact (if_pos (hio.mp (Decidable.not_not.mp hq))).symm
end STEP
