/-! What a code table must show: words and numbers. -/
def am_TB : List Cond := lw_tbl.filter goodWord
theorem am_TB_good : ∀ w ∈ am_TB, goodWord w = true := fun w hw => (List.mem_filter.mp hw).2
theorem am_TB_lw : ∀ w ∈ am_TB, w ∈ lw_tbl := fun w hw => (List.mem_filter.mp hw).1
theorem am_inTB {ws : List Cond} (ps : List Nat) (hp : ws = ps.filterMap (fun i => lw_tbl[i]?)) (h : ws.all goodWord = true) : ∀ w ∈ ws, w ∈ am_TB := by
  intro w hw
  have h1 := List.all_eq_true.mp h w hw
  rw [hp] at hw
  obtain ⟨i, -, hi⟩ := List.mem_filterMap.mp hw
  exact List.mem_filter.mpr ⟨List.mem_of_getElem? hi, h1⟩
theorem am_inL {L ws : List Cond} (hL : ∀ w ∈ L, w ∈ am_TB) (ps : List Nat) (hp : ws = ps.filterMap (fun i => L[i]?)) : ∀ w ∈ ws, w ∈ am_TB := by
  intro w hw
  rw [hp] at hw
  obtain ⟨i, -, hi⟩ := List.mem_filterMap.mp hw
  exact hL w (List.mem_of_getElem? hi)
/-- the words that a row of code asks for itself -/
def am_need (own : String) (MT : Nat → MTE) (nst : List Nat) (q : CE) : List Cond := match q with
  | (pc, _, x, i) => match i with
    | .ldc idx => [.constant own idx (am_cst x)]
    | .ldc_w idx => [.constant own idx (am_cst x)]
    | .ldc2_w idx => [.constantLong own idx (Int64.ofNat x)]
    | .getfield idx => match x with
      | 8001 => [.fieldLink own idx RX10 "spelt" "J"]
      | 8012 => []
      | x => match am_cls[x / 800]? with
        | some (_, T, _) => [.fieldLink own idx (T (x / 8 % 100)).1 (T (x / 8 % 100)).2.1 (T (x / 8 % 100)).2.2.1]
        | none => []
    | .putfield idx => match am_cls[x / 800]? with
      | some (_, T, _) => [.fieldLink own idx (T (x / 8 % 100)).1 (T (x / 8 % 100)).2.1 (T (x / 8 % 100)).2.2.1]
      | none => []
    | .getstatic idx => match x with
      | 1000100 => [.fieldLink own idx RX10 "ALL" "[LThirstHours$Word;"]
      | x => [.fieldLink own idx RX10 (w_nm (x - 1000000)) "LThirstHours$Word;"]
    | .newarray t => [.arrayClass (newarray.typeOf t)]
    | .anewarray idx => match x with
      | 54 => [.classLink own idx "ThirstHours$State"]
      | _ => [.classLink own idx "ThirstHours$Store"]
    | .new idx => match x with
      | 0 => []
      | y + 1 => match am_cls[y]? with
        | some (C, _, N) => [.classLink own idx C, .instantiable C N, .initialized C]
        | none => []
    | .invokevirtual idx => [.methodLink own idx (MT (x / 16384)).1]
    | .invokespecial idx => match x % 8 with
      | 5 => [.methodLink own idx objectInit, .instanceMethod objectInit, .code objectInit ⟨#[0xb1]⟩ 1 none]
      | _ => match am_mem nst pc with
        | true => []
        | false => [.methodLink own idx (MT (x / 16384)).1]
    | .invokestatic idx => match x with
      | 0 => [.methodLink own idx arraycopyName, .native arraycopyName, .static arraycopyName, .initialized "java/lang/System"]
      | _ => [.methodLink own idx (MT (x / 16384)).1]
    | _ => []
def am_needN (own : String) (MT : Nat → MTE) (nst : List Nat) (q : CE) : List Cond := match q with
  | (pc, _, x, i) => match i with
    | .getfield idx => match x with
      | 8012 => [.fieldLinkNest own idx RX10 "kept" "Z" "ThirstHours"]
      | _ => []
    | .invokespecial idx => match x % 8 with
      | 5 => []
      | _ => match am_mem nst pc with
        | true => [.methodLinkNest own idx (MT (x / 16384)).1 "ThirstHours"]
        | false => []
    | _ => []
theorem am_inNB {ws : List Cond} (ps : List Nat) (hp : ws = ps.filterMap (fun i => lw_tbl[i]?)) (h : ws.all am_nsw = true) : ∀ w ∈ ws, w ∈ am_NB := by
  intro w hw
  have h1 := List.all_eq_true.mp h w hw
  rw [hp] at hw
  obtain ⟨i, -, hi⟩ := List.mem_filterMap.mp hw
  exact List.mem_filter.mpr ⟨List.mem_of_getElem? hi, h1⟩
def am_tokb (t : Nat) (ty : FieldType) : Bool := match t, ty with
  | 0, .int => true
  | 1, .long => true
  | 2, .object _ => true
  | 2, .array _ => true
  | 3, .object _ => true
  | 3, .array _ => true
  | 4, .boolean => true
  | 5, .char => true
  | _, _ => false
def am_fldb (x : Nat) : Bool := match am_cls[x / 800]? with
  | some (_, _, N) => Nat.blt (x / 8 % 100) N && Nat.blt (x / 800) 13 && !(Nat.beq (x / 800) 10) && Nat.beq (am_tyc (x / 800) (x / 8 % 100)) (x % 8)
  | none => false
def am_finb (ini : Bool) (own : String) (x : Nat) : Bool := match am_cls[x / 800]? with
  | some (_, T, _) => !(T (x / 8 % 100)).2.2.2 || (ini && decide ((T (x / 8 % 100)).1 = own))
  | none => false
/-- a method's table: what sort (0 called by an object, 1 static, 2 a constructor), its class's kind, how many parameters -/
abbrev MK : Type := Nat → Nat × Nat × Nat
def am_okb (ini : Bool) (own : String) (mk : MK) (q : CE) : Bool := match q with
  | (pc, len, x, i) => match i with
    | .aload_n _ | .iload_n _ | .lload_n _ | .astore_n _ | .istore_n _ | .lstore_n _ | .lconst _ | .aconst_null | .dup | .dup2 | .iadd | .isub | .imul | .idiv | .irem | .ineg | .iand | .ior | .ixor | .ishl | .ishr | .ladd | .lsub | .lmul | .ldiv | .lrem | .land | .lor | .lshl | .lushr | .lcmp | .i2l | .l2i | .i2c | .caload | .baload | .laload | .iastore | .castore | .bastore | .lastore => Nat.beq len 1
    | .iaload => Nat.beq len 1 && (Nat.beq x 50 || Nat.beq x 57)
    | .aaload => Nat.beq len 1 && (Nat.beq x 54 || Nat.beq x 55 || Nat.beq x 56)
    | .arraylength => Nat.beq len 1 && (Nat.beq x 50 || Nat.beq x 56 || Nat.beq x 57)
    | .aastore => Nat.beq len 1 && (Nat.beq x (54 * 64 + 8) || Nat.beq x (55 * 64 + 9))
    | .aload _ | .iload _ | .lload _ | .astore _ | .istore _ | .lstore _ => Nat.beq len 2
    | .iinc _ n => Nat.beq len 3 && decide (Int32.ofInt n = am_cst x)
    | .iconst n => Nat.beq len 1 && decide (Int32.ofInt n = am_cst x)
    | .bipush n => Nat.beq len 2 && decide ((Int8.ofInt n).toInt32 = am_cst x)
    | .sipush n => Nat.beq len 3 && decide ((Int16.ofInt n).toInt32 = am_cst x)
    | .ldc _ => Nat.beq len 2
    | .ldc_w _ => Nat.beq len 3
    | .ldc2_w _ => Nat.beq len 3
    | .ifCond _ off | .if_icmp _ off | .if_acmp _ off | .goto off | .ifnull off => Nat.beq len 3 && decide ((pc : Int) + off = (x : Int))
    | .tableswitch d lo hi offs => decide ((pc : Int) + d = (x : Int)) && decide (hi = lo + (offs.toList.length : Int) - 1) && offs.toList.all (fun o => decide (0 ≤ (pc : Int) + o))
    | .getfield _ => Nat.beq len 3 && (Nat.beq x 8001 || Nat.beq x 8012 || am_fldb x)
    | .putfield _ => Nat.beq len 3 && am_fldb x && am_tokb (x % 8) (am_ft (x / 800) (x / 8 % 100)) && am_finb ini own x
    | .getstatic _ => Nat.beq len 3 && (Nat.beq x 1000100 || (Nat.ble 1000000 x && Nat.blt x 1000031))
    | .newarray t => Nat.beq len 2 && (match t with
      | .int => Nat.beq x 50
      | .char => Nat.beq x 51
      | .boolean => Nat.beq x 52
      | .long => Nat.beq x 53
      | _ => false)
    | .anewarray _ => Nat.beq len 3 && (Nat.beq x 54 || Nat.beq x 55)
    | .new _ => Nat.beq len 3 && (match x with
      | 0 => false
      | y + 1 => match am_cls[y]? with
        | some (_, _, N) => Nat.blt y 13 && !(Nat.beq y 10) && Nat.ble N 2048
        | none => false)
    | .invokevirtual _ => Nat.beq len 3 && !(Nat.beq (x % 8) 4) && Nat.beq (mk (x / 16384)).1 0 && Nat.beq (mk (x / 16384)).2.1 (x / 256 % 64) && Nat.beq ((mk (x / 16384)).2.2 + 1) (x / 8 % 32)
    | .invokespecial _ => Nat.beq len 3 && !(Nat.beq (x / 256 % 64) 0) && (Nat.beq (x % 8) 5 || (Nat.beq (mk (x / 16384)).1 2 && Nat.beq ((mk (x / 16384)).2.2 + 1) (x / 8 % 32)))
    | .invokestatic _ => Nat.beq len 3 && (Nat.beq x 0 || (Nat.beq (mk (x / 16384)).1 1 && Nat.beq (mk (x / 16384)).2.2 (x / 8 % 32)))
    | _ => true
/-- what is known of a method that is called -/
def am_mf (MT : Nat → MTE) (mk : MK) (mid : Nat) : Prop := am_calok "" am_TB 0 0 (MT mid) ∧ (parseMethodDescriptor (MT mid).1.desc).map (fun d => d.parameters.length) = some (mk mid).2.2 ∧
  ((mk mid).1 = 0 → Cond.instanceMethod (MT mid).1 ∈ am_TB ∧ Cond.selects (MT mid).1.cls (MT mid).1 (MT mid).1 ∈ am_TB ∧ ∃ ci q, (mk mid).2.1 = ci + 1 ∧ am_cls[ci]? = some q ∧ (MT mid).1.cls = q.1 ∧ ci < 13 ∧ ci ≠ 10) ∧
  ((mk mid).1 = 1 → Cond.static (MT mid).1 ∈ am_TB) ∧ ((mk mid).1 = 2 → Cond.instanceMethod (MT mid).1 ∈ am_TB ∧ (MT mid).2.2.2 = none ∧ (MT mid).1.name = "<init>")
theorem am_par1 {o : Option MethodDescriptor} {n : Nat} (h : o.map (fun d => d.parameters.length) = some n) : o.map (fun d => d.parameters.length + 1) = some (n + 1) := by
  cases o with
  | none => cases h
  | some d =>
    have h : d.parameters.length = n := Option.some.inj h
    show some (d.parameters.length + 1) = some (n + 1)
    rw [h]
theorem am_fldb_ok {own : String} {idx x : Nat} (hb : am_fldb x = true) (hw : ∀ w ∈ (match am_cls[x / 800]? with
        | some (_, T, _) => [Cond.fieldLink own idx (T (x / 8 % 100)).1 (T (x / 8 % 100)).2.1 (T (x / 8 % 100)).2.2.1]
        | none => []), w ∈ am_TB) : am_fldok own am_TB idx x (x / 800) (x / 8 % 100) := by
  unfold am_fldb at hb
  cases hq : am_cls[x / 800]? with
  | none => rw [hq] at hb; cases hb
  | some q =>
    obtain ⟨C, T, N⟩ := q
    rw [hq] at hb hw
    simp only [Bool.and_eq_true, Bool.not_eq_true'] at hb
    obtain ⟨⟨⟨b1, b2⟩, b3⟩, b4⟩ := hb
    refine ⟨C, T, N, hq, Nat.lt_of_succ_le (Nat.le_of_ble_eq_true b2), fun z => ?_, Nat.lt_of_succ_le (Nat.le_of_ble_eq_true b1), hw _ List.mem_cons_self, by omega, rfl, Nat.eq_of_beq_eq_true b4⟩
    rw [z] at b3
    cases b3
theorem am_tokb_ok {t : Nat} {ty : FieldType} (h : am_tokb t ty = true) : am_tok t ty := by
  unfold am_tokb at h
  split at h
  · rfl
  · rfl
  · exact Or.inl ⟨_, rfl⟩
  · exact Or.inr ⟨_, rfl⟩
  · exact Or.inl ⟨_, rfl⟩
  · exact Or.inr ⟨_, rfl⟩
  · rfl
  · rfl
  · cases h
set_option maxHeartbeats 4000000 in
theorem am_ok_of {own : String} {ini : Bool} {MT : Nat → MTE} {mk : MK} {nst : List Nat} (hmf : ∀ mid, (mk mid).1 ≤ 2 → am_mf MT mk mid) {pc len x : Nat} {i : Instr} (hw : ∀ w ∈ am_need own MT nst (pc, len, x, i), w ∈ am_TB) (hwn : ∀ w ∈ am_needN own MT nst (pc, len, x, i), w ∈ am_NB) (hb : am_okb ini own mk (pc, len, x, i) = true) : am_ok own ini am_TB MT pc len x i := by
  cases i
  all_goals try exact Nat.eq_of_beq_eq_true hb
  all_goals try exact trivial
  case iaload =>
    simp only [am_okb, Bool.and_eq_true, Bool.or_eq_true] at hb
    exact ⟨Nat.eq_of_beq_eq_true hb.1, hb.2.imp Nat.eq_of_beq_eq_true Nat.eq_of_beq_eq_true⟩
  case aaload =>
    simp only [am_okb, Bool.and_eq_true, Bool.or_eq_true] at hb
    refine ⟨Nat.eq_of_beq_eq_true hb.1, ?_⟩
    rcases hb.2 with (h | h) | h
    · exact Or.inl (Nat.eq_of_beq_eq_true h)
    · exact Or.inr (Or.inl (Nat.eq_of_beq_eq_true h))
    · exact Or.inr (Or.inr (Nat.eq_of_beq_eq_true h))
  case arraylength =>
    simp only [am_okb, Bool.and_eq_true, Bool.or_eq_true] at hb
    refine ⟨Nat.eq_of_beq_eq_true hb.1, ?_⟩
    rcases hb.2 with (h | h) | h
    · exact Or.inl (Nat.eq_of_beq_eq_true h)
    · exact Or.inr (Or.inl (Nat.eq_of_beq_eq_true h))
    · exact Or.inr (Or.inr (Nat.eq_of_beq_eq_true h))
  case aastore =>
    simp only [am_okb, Bool.and_eq_true, Bool.or_eq_true] at hb
    exact ⟨Nat.eq_of_beq_eq_true hb.1, hb.2.imp Nat.eq_of_beq_eq_true Nat.eq_of_beq_eq_true⟩
  case iinc =>
    simp only [am_okb, Bool.and_eq_true, decide_eq_true_eq] at hb
    exact ⟨Nat.eq_of_beq_eq_true hb.1, hb.2⟩
  case iconst =>
    simp only [am_okb, Bool.and_eq_true, decide_eq_true_eq] at hb
    exact ⟨Nat.eq_of_beq_eq_true hb.1, hb.2⟩
  case bipush =>
    simp only [am_okb, Bool.and_eq_true, decide_eq_true_eq] at hb
    exact ⟨Nat.eq_of_beq_eq_true hb.1, hb.2⟩
  case sipush =>
    simp only [am_okb, Bool.and_eq_true, decide_eq_true_eq] at hb
    exact ⟨Nat.eq_of_beq_eq_true hb.1, hb.2⟩
  case ldc => exact ⟨Nat.eq_of_beq_eq_true hb, hw _ List.mem_cons_self⟩
  case ldc_w => exact ⟨Nat.eq_of_beq_eq_true hb, hw _ List.mem_cons_self⟩
  case ldc2_w => exact ⟨Nat.eq_of_beq_eq_true hb, hw _ List.mem_cons_self⟩
  case ifCond =>
    simp only [am_okb, Bool.and_eq_true, decide_eq_true_eq] at hb
    exact ⟨Nat.eq_of_beq_eq_true hb.1, hb.2⟩
  case if_icmp =>
    simp only [am_okb, Bool.and_eq_true, decide_eq_true_eq] at hb
    exact ⟨Nat.eq_of_beq_eq_true hb.1, hb.2⟩
  case if_acmp =>
    simp only [am_okb, Bool.and_eq_true, decide_eq_true_eq] at hb
    exact ⟨Nat.eq_of_beq_eq_true hb.1, hb.2⟩
  case goto =>
    simp only [am_okb, Bool.and_eq_true, decide_eq_true_eq] at hb
    exact ⟨Nat.eq_of_beq_eq_true hb.1, hb.2⟩
  case ifnull =>
    simp only [am_okb, Bool.and_eq_true, decide_eq_true_eq] at hb
    exact ⟨Nat.eq_of_beq_eq_true hb.1, hb.2⟩
  case tableswitch =>
    simp only [am_okb, Bool.and_eq_true, decide_eq_true_eq, List.all_eq_true] at hb
    exact ⟨hb.1.1, hb.1.2, hb.2⟩
  case getfield idx =>
    simp only [am_okb, Bool.and_eq_true, Bool.or_eq_true] at hb
    refine ⟨Nat.eq_of_beq_eq_true hb.1, ?_⟩
    by_cases e1 : x = 8001
    · subst e1
      exact Or.inr (Or.inl ⟨rfl, hw _ List.mem_cons_self⟩)
    · by_cases e2 : x = 8012
      · subst e2
        exact Or.inr (Or.inr ⟨rfl, _, hwn _ List.mem_cons_self⟩)
      · rcases hb.2 with (h | h) | h
        · exact absurd (Nat.eq_of_beq_eq_true h) e1
        · exact absurd (Nat.eq_of_beq_eq_true h) e2
        · refine Or.inl ⟨_, _, am_fldb_ok h ?_⟩
          unfold am_need at hw
          dsimp only at hw
          split at hw
          · exact absurd rfl e1
          · exact absurd rfl e2
          · exact hw
  case putfield idx =>
    simp only [am_okb, Bool.and_eq_true] at hb
    obtain ⟨⟨⟨b1, b2⟩, b3⟩, b4⟩ := hb
    refine ⟨Nat.eq_of_beq_eq_true b1, _, _, am_fldb_ok b2 hw, am_tokb_ok b3, fun C T N hq => ?_⟩
    unfold am_finb at b4
    rw [hq] at b4
    simp only [Bool.or_eq_true, Bool.not_eq_true', Bool.and_eq_true, decide_eq_true_eq] at b4
    exact b4
  case getstatic idx =>
    simp only [am_okb, Bool.and_eq_true, Bool.or_eq_true] at hb
    refine ⟨Nat.eq_of_beq_eq_true hb.1, ?_⟩
    by_cases e1 : x = 1000100
    · subst e1
      exact Or.inr ⟨rfl, hw _ List.mem_cons_self⟩
    · rcases hb.2 with h | h
      · exact absurd (Nat.eq_of_beq_eq_true h) e1
      · have g1 := Nat.le_of_ble_eq_true h.1
        have g2 : x < 1000031 := Nat.lt_of_succ_le (Nat.le_of_ble_eq_true h.2)
        unfold am_need at hw
        dsimp only at hw
        split at hw
        · exact absurd rfl e1
        · exact Or.inl ⟨x - 1000000, by omega, by omega, hw _ List.mem_cons_self⟩
  case newarray t =>
    simp only [am_okb, Bool.and_eq_true] at hb
    refine ⟨Nat.eq_of_beq_eq_true hb.1, hw _ List.mem_cons_self, ?_⟩
    cases t with
    | int => exact Or.inl ⟨rfl, Nat.eq_of_beq_eq_true hb.2⟩
    | char => exact Or.inr (Or.inl ⟨rfl, Nat.eq_of_beq_eq_true hb.2⟩)
    | boolean => exact Or.inr (Or.inr (Or.inl ⟨rfl, Nat.eq_of_beq_eq_true hb.2⟩))
    | long => exact Or.inr (Or.inr (Or.inr ⟨rfl, Nat.eq_of_beq_eq_true hb.2⟩))
    | _ => cases hb.2
  case anewarray idx =>
    simp only [am_okb, Bool.and_eq_true, Bool.or_eq_true] at hb
    refine ⟨Nat.eq_of_beq_eq_true hb.1, ?_⟩
    rcases hb.2 with h | h
    · cases Nat.eq_of_beq_eq_true h
      exact Or.inl ⟨rfl, hw _ List.mem_cons_self⟩
    · cases Nat.eq_of_beq_eq_true h
      exact Or.inr ⟨rfl, hw _ List.mem_cons_self⟩
  case new idx =>
    simp only [am_okb, Bool.and_eq_true] at hb
    obtain ⟨b1, b2⟩ := hb
    cases x with
    | zero => cases b2
    | succ y =>
      dsimp only at b2
      unfold am_need at hw
      dsimp only at hw
      cases hq : am_cls[y]? with
      | none => rw [hq] at b2; cases b2
      | some q =>
        obtain ⟨C, T, N⟩ := q
        rw [hq] at b2 hw
        simp only [Bool.and_eq_true, Bool.not_eq_true'] at b2
        refine Or.inr ⟨Nat.eq_of_beq_eq_true b1, y, C, T, N, N, rfl, hq, Nat.lt_of_succ_le (Nat.le_of_ble_eq_true b2.1.1), fun z => ?_, Nat.le_of_ble_eq_true b2.2, hw _ List.mem_cons_self, hw _ (List.mem_cons_of_mem _ List.mem_cons_self), hw _ (List.mem_cons_of_mem _ (List.mem_cons_of_mem _ List.mem_cons_self))⟩
        have := b2.1.2
        rw [z] at this
        cases this
  case invokevirtual idx =>
    simp only [am_okb, Bool.and_eq_true, Bool.not_eq_true'] at hb
    obtain ⟨⟨⟨⟨b1, b2⟩, b3⟩, b4⟩, b5⟩ := hb
    have b3 := Nat.eq_of_beq_eq_true b3
    obtain ⟨f1, f2, f3, -, -⟩ := hmf (x / 16384) (by omega)
    obtain ⟨g1, g2, ci, q, g3, g4, g5, g6, g7⟩ := f3 b3
    refine ⟨Nat.eq_of_beq_eq_true b1, fun z => ?_, f1, hw _ List.mem_cons_self, g1, g2, ?_, ci, q, ?_, g4, g5, g6, g7⟩
    · rw [z] at b2; cases b2
    · rw [← Nat.eq_of_beq_eq_true b5]; exact am_par1 f2
    · rw [← Nat.eq_of_beq_eq_true b4]; exact g3
  case invokespecial idx =>
    simp only [am_okb, Bool.and_eq_true, Bool.not_eq_true', Bool.or_eq_true] at hb
    obtain ⟨⟨b1, b2⟩, b3⟩ := hb
    have hz : x / 256 % 64 ≠ 0 := fun z => by rw [z] at b2; cases b2
    refine ⟨Nat.eq_of_beq_eq_true b1, ?_⟩
    unfold am_need at hw
    dsimp only at hw
    by_cases e5 : x % 8 = 5
    · rw [e5] at hw
      exact Or.inl ⟨e5, hw _ List.mem_cons_self, hw _ (List.mem_cons_of_mem _ List.mem_cons_self), hw _ (List.mem_cons_of_mem _ (List.mem_cons_of_mem _ List.mem_cons_self)), hz⟩
    · rcases b3 with b3 | ⟨b3, b4⟩
      · exact absurd (Nat.eq_of_beq_eq_true b3) e5
      · have b3 := Nat.eq_of_beq_eq_true b3
        obtain ⟨f1, f2, -, -, f3⟩ := hmf (x / 16384) (by omega)
        obtain ⟨g1, g2, g3⟩ := f3 b3
        refine Or.inr ⟨e5, f1, g2, g3, ?_, g1, by rw [← Nat.eq_of_beq_eq_true b4]; exact am_par1 f2, hz⟩
        split at hw
        · rename_i z; exact absurd z e5
        · split at hw
          · rename_i hm
            exact Or.inr ⟨"ThirstHours", hwn _ (by
              unfold am_needN
              dsimp only
              split
              · rename_i z; exact absurd z e5
              · rw [hm]; exact List.mem_cons_self)⟩
          · exact Or.inl (hw _ List.mem_cons_self)
  case invokestatic idx =>
    simp only [am_okb, Bool.and_eq_true, Bool.or_eq_true] at hb
    obtain ⟨b1, b2⟩ := hb
    refine ⟨Nat.eq_of_beq_eq_true b1, ?_⟩
    by_cases e0 : x = 0
    · subst e0
      exact Or.inl ⟨rfl, hw _ List.mem_cons_self, hw _ (List.mem_cons_of_mem _ List.mem_cons_self), hw _ (List.mem_cons_of_mem _ (List.mem_cons_of_mem _ List.mem_cons_self)), hw _ (List.mem_cons_of_mem _ (List.mem_cons_of_mem _ (List.mem_cons_of_mem _ List.mem_cons_self)))⟩
    · rcases b2 with b2 | ⟨b3, b4⟩
      · exact absurd (Nat.eq_of_beq_eq_true b2) e0
      · have b3 := Nat.eq_of_beq_eq_true b3
        obtain ⟨f1, f2, -, f3, -⟩ := hmf (x / 16384) (by omega)
        refine Or.inr ⟨e0, f1, ?_, f3 b3, by rw [← Nat.eq_of_beq_eq_true b4]; exact f2⟩
        unfold am_need at hw
        dsimp only at hw
        split at hw
        · exact absurd rfl e0
        · exact hw _ List.mem_cons_self
def am_rokb (ret : Option FieldType) (q : CE) : Bool := match q with
  | (_, len, x, i) => match i with
    | .ireturn => Nat.beq len 1 && ((Nat.beq x 0 && decide (ret = some .int)) || (Nat.beq x 4 && decide (ret = some .boolean)))
    | .lreturn => Nat.beq len 1 && decide (ret = some .long)
    | .areturn => Nat.beq len 1 && (match ret with
      | some (.object _) => true
      | _ => false)
    | .return_ => Nat.beq len 1 && decide (ret = none)
    | .new _ => !(Nat.beq x 0)
    | _ => true
theorem am_rok_of {ret : Option FieldType} {pc len x : Nat} {i : Instr} (hb : am_rokb ret (pc, len, x, i) = true) : am_rok ret len x i := by
  cases i
  all_goals try exact trivial
  case ireturn =>
    simp only [am_rokb, Bool.and_eq_true, Bool.or_eq_true, decide_eq_true_eq] at hb
    exact ⟨Nat.eq_of_beq_eq_true hb.1, hb.2.imp (fun z => ⟨Nat.eq_of_beq_eq_true z.1, z.2⟩) (fun z => ⟨Nat.eq_of_beq_eq_true z.1, z.2⟩)⟩
  case lreturn =>
    simp only [am_rokb, Bool.and_eq_true, decide_eq_true_eq] at hb
    exact ⟨Nat.eq_of_beq_eq_true hb.1, hb.2⟩
  case areturn =>
    simp only [am_rokb, Bool.and_eq_true] at hb
    refine ⟨Nat.eq_of_beq_eq_true hb.1, ?_⟩
    have h2 := hb.2
    split at h2
    · exact ⟨_, rfl⟩
    · cases h2
  case return_ =>
    simp only [am_rokb, Bool.and_eq_true, decide_eq_true_eq] at hb
    exact ⟨Nat.eq_of_beq_eq_true hb.1, hb.2⟩
  case new =>
    intro z
    subst z
    simp [am_rokb] at hb
/-- a method's table is right, by words and numbers -/
theorem am_mok_of {MT : Nat → MTE} {mk : MK} {P : Nat → MC} (hmf : ∀ mid, (mk mid).1 ≤ 2 → am_mf MT mk mid) {mid : Nat} {C : List CE} {hs : List (Nat × List Nat)} {nL : Nat} {q : MTE} (hP : P mid = (C, hs, nL)) (hq : MT mid = q) (nst : List Nat) (h1 : nL = q.2.2.1) (h2 : plainFor q.1 = true)
    (h3 : C.all (fun x => decide (decode q.2.1 x.1 = .ok (x.2.2.2, x.2.1))) = true) (h4 : ∀ w ∈ C.flatMap (am_need q.1.cls MT nst), w ∈ am_TB) (h4n : ∀ w ∈ C.flatMap (am_needN q.1.cls MT nst), w ∈ am_NB) (h5 : C.all (fun x => am_okb (q.1.name == "<init>") q.1.cls mk x && am_rokb q.2.2.2 x) = true) : am_mok am_TB MT P mid := by
  unfold am_mok
  rw [hP, hq]
  refine ⟨h1, h2, fun x hx => ?_⟩
  have g3 := List.all_eq_true.mp h3 x hx
  have g5 := List.all_eq_true.mp h5 x hx
  simp only [Bool.and_eq_true] at g5
  obtain ⟨pc, len, aux, i⟩ := x
  exact ⟨of_decide_eq_true g3, am_ok_of hmf (fun w hw => h4 w (List.mem_flatMap.mpr ⟨_, hx, hw⟩)) (fun w hw => h4n w (List.mem_flatMap.mpr ⟨_, hx, hw⟩)) g5.1, am_rok_of g5.2⟩
