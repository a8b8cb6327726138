/-! THE CLAIM OUT OF ONE WALK OF THE LAW'S BODY. Your part is whole_start (and what it stands on); all else here is the same for every law, but numbers. -/
def R_law : String := "ThirstHoursLaw"
def lw_P (b : Addr) (xs : List Int32) (args : Array Value) (s : State) : Prop := args = #[.ref b] ∧ s.IntsAt b xs ∧ xs.length ≤ 3584 ∧ (Jvm.Cond.and given_1 narrow_1).before args s = true
def lw_Q (_ : Array Value) (s : State) (o : Outcome) (t : State) : Prop := o = .returned (some (.int 1)) ∧ Framed s o t [] 601024 7293034
def lw_Z (below : List Frame) (a : Array Value) (s : State) : State → Prop := fun t => ∃ o, t.status = .running ∧ Ended t below o ∧ lw_Q a s o t
/-- the law's own end, with 1 on the stack, nothing written that was there before, its room as the claim has it -/
theorem lw_ret {p : Program} {l : Launch} {e : Env} {s : State} {m : MethodId} {below : List Frame} {meth : Method} {c : Code} {b : Nat} (hx : p.tables.exec = Jvm.exec) (hb : c.code = code) (hr : meth.sig.returnType = ret) (hlocks : meth.locks = false) {pc : Nat} {H : Heap} {ls : Array Slot} (hdg : decode code pc = .ok (.ireturn, 1)) : W p l e room_1 s m #[Value.ref b] below meth c H [] 601024 7293034 (lw_Z below #[Value.ref b] s) (F0 m pc ls [.int 1]) := by
  intro T hT X
  obtain ⟨fs, hret, hrun, hended, hW, hframe⟩ := X.leave (v := some (.int 1)) (hlocks := hlocks) (fun h => by rw [hr] at h; cases h)
  have hmeth' : T.vm.method? m = some meth := X.method'
  refine ⟨T.setFrames fs, ?_, .returned (some (.int 1)), hrun, hended, rfl, ⟨_, rfl⟩, hW, hframe⟩
  jvm_step X.here [X.here.top, hx, hb, hdg, hmeth', hr, ret, narrow_b1]
  (try refine ⟨rfl, ?_⟩); (try refine ⟨rfl, ?_⟩)
  first | (intro acts; rw [hret _ acts rfl rfl rfl]) | rw [hret _ _ rfl rfl rfl]
  exact Steps.refl _
/-- what holds at the law's entry: the machine, the code, the tables' words (any of lw_tbl by 'hts w (by decide +kernel)'), the script of L ints xs at the cell b, what the Statement gives of the start (any of its parts by flat_of_before) -/
def lw_At (p : Program) (s : State) (m : MethodId) (meth : Method) (c : Code) (b L : Nat) (xs : Nat → Int32) : Prop :=
  p.tables.exec = Jvm.exec ∧ c.code = code ∧ meth.sig.returnType = ret ∧ c.maxLocals = 7 ∧ s.vm.findClass R_law = some m.cls ∧ (∀ w ∈ lw_tbl, w.before #[Value.ref b] s = true) ∧ va_X b L xs s s.heap ∧ b < s.heap.size ∧ meth.locks = false ∧ (Jvm.Cond.and given_1 narrow_1).before #[Value.ref b] s = true
/-! The law as a run of the small machine. -/
def lk_L_0 : List Cond := [(Jvm.Cond.classLink "ThirstHoursLaw" (8 : Nat) "ThirstHours"), (Jvm.Cond.instantiable "ThirstHours" (14 : Nat)), (Jvm.Cond.initialized "ThirstHours"), (Jvm.Cond.methodLink "ThirstHoursLaw" (15 : Nat) ({ cls := "ThirstHours", name := "<init>", desc := "()V" } : Jvm.MethodName)), (Jvm.Cond.classLink "ThirstHoursLaw" (16 : Nat) "ThirstHoursModel"), (Jvm.Cond.instantiable "ThirstHoursModel" (82 : Nat)), (Jvm.Cond.initialized "ThirstHoursModel"), (Jvm.Cond.methodLink "ThirstHoursLaw" (18 : Nat) ({ cls := "ThirstHoursModel", name := "<init>", desc := "()V" } : Jvm.MethodName)), (Jvm.Cond.arrayClass Jvm.ClassFile.FieldType.long), (Jvm.Cond.constantLong "ThirstHoursLaw" (19 : Nat) (4294967295 : Int64)), (Jvm.Cond.methodLink "ThirstHoursLaw" (21 : Nat) ({ cls := "ThirstHours", name := "feed", desc := "(JJJ)I" } : Jvm.MethodName)), (Jvm.Cond.methodLink "ThirstHoursLaw" (25 : Nat) ({ cls := "ThirstHoursModel", name := "feed", desc := "(JJJ)I" } : Jvm.MethodName)), (Jvm.Cond.methodLink "ThirstHoursLaw" (26 : Nat) ({ cls := "ThirstHours", name := "post", desc := "()I" } : Jvm.MethodName)), (Jvm.Cond.methodLink "ThirstHoursLaw" (30 : Nat) ({ cls := "ThirstHoursModel", name := "post", desc := "()I" } : Jvm.MethodName)), (Jvm.Cond.methodLink "ThirstHoursLaw" (31 : Nat) ({ cls := "ThirstHours", name := "days", desc := "()I" } : Jvm.MethodName)), (Jvm.Cond.methodLink "ThirstHoursLaw" (34 : Nat) ({ cls := "ThirstHoursModel", name := "days", desc := "()I" } : Jvm.MethodName)), (Jvm.Cond.methodLink "ThirstHoursLaw" (35 : Nat) ({ cls := "ThirstHours", name := "timer", desc := "(II)I" } : Jvm.MethodName)), (Jvm.Cond.methodLink "ThirstHoursLaw" (39 : Nat) ({ cls := "ThirstHoursModel", name := "timer", desc := "(II)I" } : Jvm.MethodName)), (Jvm.Cond.methodLink "ThirstHoursLaw" (40 : Nat) ({ cls := "ThirstHours", name := "person", desc := "(II)I" } : Jvm.MethodName)), (Jvm.Cond.methodLink "ThirstHoursLaw" (43 : Nat) ({ cls := "ThirstHoursModel", name := "person", desc := "(II)I" } : Jvm.MethodName)), (Jvm.Cond.methodLink "ThirstHoursLaw" (44 : Nat) ({ cls := "ThirstHours", name := "work", desc := "(II)I" } : Jvm.MethodName)), (Jvm.Cond.methodLink "ThirstHoursLaw" (47 : Nat) ({ cls := "ThirstHoursModel", name := "work", desc := "(II)I" } : Jvm.MethodName)), (Jvm.Cond.methodLink "ThirstHoursLaw" (48 : Nat) ({ cls := "ThirstHours", name := "well", desc := "(I)I" } : Jvm.MethodName)), (Jvm.Cond.methodLink "ThirstHoursLaw" (52 : Nat) ({ cls := "ThirstHoursModel", name := "well", desc := "(I)I" } : Jvm.MethodName)), (Jvm.Cond.methodLink "ThirstHoursLaw" (53 : Nat) ({ cls := "ThirstHours", name := "way", desc := "(II)I" } : Jvm.MethodName)), (Jvm.Cond.methodLink "ThirstHoursLaw" (56 : Nat) ({ cls := "ThirstHoursModel", name := "way", desc := "(II)I" } : Jvm.MethodName)), (Jvm.Cond.methodLink "ThirstHoursLaw" (57 : Nat) ({ cls := "ThirstHours", name := "hours", desc := "(I)I" } : Jvm.MethodName)), (Jvm.Cond.methodLink "ThirstHoursLaw" (60 : Nat) ({ cls := "ThirstHoursModel", name := "hours", desc := "(I)I" } : Jvm.MethodName)), (Jvm.Cond.methodLink "ThirstHoursLaw" (61 : Nat) ({ cls := "ThirstHours", name := "draw", desc := "(II)I" } : Jvm.MethodName)), (Jvm.Cond.methodLink "ThirstHoursLaw" (64 : Nat) ({ cls := "ThirstHoursModel", name := "draw", desc := "(II)I" } : Jvm.MethodName)), (Jvm.Cond.methodLink "ThirstHoursLaw" (65 : Nat) ({ cls := "ThirstHours", name := "pour", desc := "(III)I" } : Jvm.MethodName)), (Jvm.Cond.methodLink "ThirstHoursLaw" (68 : Nat) ({ cls := "ThirstHoursModel", name := "pour", desc := "(III)I" } : Jvm.MethodName)), (Jvm.Cond.methodLink "ThirstHoursLaw" (69 : Nat) ({ cls := "ThirstHours", name := "go", desc := "(II)I" } : Jvm.MethodName)), (Jvm.Cond.methodLink "ThirstHoursLaw" (72 : Nat) ({ cls := "ThirstHoursModel", name := "go", desc := "(II)I" } : Jvm.MethodName)), (Jvm.Cond.methodLink "ThirstHoursLaw" (73 : Nat) ({ cls := "ThirstHours", name := "steal", desc := "(II)I" } : Jvm.MethodName)), (Jvm.Cond.methodLink "ThirstHoursLaw" (76 : Nat) ({ cls := "ThirstHoursModel", name := "steal", desc := "(II)I" } : Jvm.MethodName)), (Jvm.Cond.methodLink "ThirstHoursLaw" (77 : Nat) ({ cls := "ThirstHours", name := "undo", desc := "()Z" } : Jvm.MethodName)), (Jvm.Cond.methodLink "ThirstHoursLaw" (81 : Nat) ({ cls := "ThirstHoursModel", name := "undo", desc := "()Z" } : Jvm.MethodName)), (Jvm.Cond.methodLink "ThirstHoursLaw" (82 : Nat) ({ cls := "ThirstHours", name := "judged", desc := "(I)I" } : Jvm.MethodName)), (Jvm.Cond.methodLink "ThirstHoursLaw" (85 : Nat) ({ cls := "ThirstHoursModel", name := "judged", desc := "(I)I" } : Jvm.MethodName))]
set_option maxRecDepth 100000 in
theorem lk_L_0_in : ∀ w ∈ lk_L_0, w ∈ am_TB := am_inTB [144, 145, 124, 146, 1382, 1383, 135, 1384, 245, 2107, 616, 1639, 628, 1644, 871, 1815, 916, 1831, 941, 1862, 949, 1870, 953, 1874, 961, 1882, 966, 1886, 1007, 1913, 1016, 1925, 1025, 1937, 1034, 1949, 1042, 1953, 1046, 1957] rfl rfl
def lk_L_1 : List Cond := [(Jvm.Cond.methodLink "ThirstHoursLaw" (86 : Nat) ({ cls := "ThirstHours", name := "shows", desc := "(II)I" } : Jvm.MethodName)), (Jvm.Cond.methodLink "ThirstHoursLaw" (89 : Nat) ({ cls := "ThirstHoursModel", name := "shows", desc := "(II)I" } : Jvm.MethodName)), (Jvm.Cond.methodLink "ThirstHoursLaw" (90 : Nat) ({ cls := "ThirstHours", name := "stops", desc := "(I)I" } : Jvm.MethodName)), (Jvm.Cond.methodLink "ThirstHoursLaw" (93 : Nat) ({ cls := "ThirstHoursModel", name := "stops", desc := "(I)I" } : Jvm.MethodName)), (Jvm.Cond.methodLink "ThirstHoursLaw" (94 : Nat) ({ cls := "ThirstHours", name := "late", desc := "(II)I" } : Jvm.MethodName)), (Jvm.Cond.methodLink "ThirstHoursLaw" (97 : Nat) ({ cls := "ThirstHoursModel", name := "late", desc := "(II)I" } : Jvm.MethodName)), (Jvm.Cond.methodLink "ThirstHoursLaw" (98 : Nat) ({ cls := "ThirstHours", name := "siege", desc := "(II)I" } : Jvm.MethodName)), (Jvm.Cond.methodLink "ThirstHoursLaw" (101 : Nat) ({ cls := "ThirstHoursModel", name := "siege", desc := "(II)I" } : Jvm.MethodName)), (Jvm.Cond.methodLink "ThirstHoursLaw" (102 : Nat) ({ cls := "ThirstHours", name := "say", desc := "(III)Z" } : Jvm.MethodName)), (Jvm.Cond.methodLink "ThirstHoursLaw" (106 : Nat) ({ cls := "ThirstHoursModel", name := "say", desc := "(III)Z" } : Jvm.MethodName)), (Jvm.Cond.methodLink "ThirstHoursLaw" (107 : Nat) ({ cls := "ThirstHours", name := "truth", desc := "(I)I" } : Jvm.MethodName)), (Jvm.Cond.methodLink "ThirstHoursLaw" (110 : Nat) ({ cls := "ThirstHoursModel", name := "truth", desc := "(I)I" } : Jvm.MethodName)), (Jvm.Cond.methodLink "ThirstHoursLaw" (111 : Nat) ({ cls := "ThirstHours", name := "round", desc := "(II)I" } : Jvm.MethodName)), (Jvm.Cond.methodLink "ThirstHoursLaw" (114 : Nat) ({ cls := "ThirstHoursModel", name := "round", desc := "(II)I" } : Jvm.MethodName)), (Jvm.Cond.methodLink "ThirstHoursLaw" (115 : Nat) ({ cls := "ThirstHours", name := "caravan", desc := "(IIII)I" } : Jvm.MethodName)), (Jvm.Cond.methodLink "ThirstHoursLaw" (119 : Nat) ({ cls := "ThirstHoursModel", name := "caravan", desc := "(IIII)I" } : Jvm.MethodName)), (Jvm.Cond.methodLink "ThirstHoursLaw" (120 : Nat) ({ cls := "ThirstHours", name := "tell", desc := "(II)Z" } : Jvm.MethodName)), (Jvm.Cond.methodLink "ThirstHoursLaw" (124 : Nat) ({ cls := "ThirstHoursModel", name := "tell", desc := "(II)Z" } : Jvm.MethodName)), (Jvm.Cond.methodLink "ThirstHoursLaw" (125 : Nat) ({ cls := "ThirstHours", name := "laws", desc := "(I)I" } : Jvm.MethodName)), (Jvm.Cond.methodLink "ThirstHoursLaw" (128 : Nat) ({ cls := "ThirstHoursModel", name := "laws", desc := "(I)I" } : Jvm.MethodName)), (Jvm.Cond.methodLink "ThirstHoursLaw" (129 : Nat) ({ cls := "ThirstHours", name := "theft", desc := "(IIII)I" } : Jvm.MethodName)), (Jvm.Cond.methodLink "ThirstHoursLaw" (132 : Nat) ({ cls := "ThirstHoursModel", name := "theft", desc := "(IIII)I" } : Jvm.MethodName)), (Jvm.Cond.methodLink "ThirstHoursLaw" (133 : Nat) ({ cls := "ThirstHours", name := "cups", desc := "(III)I" } : Jvm.MethodName)), (Jvm.Cond.methodLink "ThirstHoursLaw" (136 : Nat) ({ cls := "ThirstHoursModel", name := "cups", desc := "(III)I" } : Jvm.MethodName)), (Jvm.Cond.methodLink "ThirstHoursLaw" (137 : Nat) ({ cls := "ThirstHoursLaw", name := "rests", desc := "(LThirstHours;III[J)I" } : Jvm.MethodName)), (Jvm.Cond.methodLink "ThirstHoursLaw" (142 : Nat) ({ cls := "ThirstHoursModel", name := "rests", desc := "(III)I" } : Jvm.MethodName)), (Jvm.Cond.methodLink "ThirstHoursLaw" (143 : Nat) ({ cls := "ThirstHoursModel", name := "thrown", desc := "()I" } : Jvm.MethodName)), (Jvm.Cond.methodLink "ThirstHoursLaw" (146 : Nat) ({ cls := "ThirstHours", name := "years", desc := "(III)I" } : Jvm.MethodName)), (Jvm.Cond.methodLink "ThirstHoursLaw" (149 : Nat) ({ cls := "ThirstHoursModel", name := "years", desc := "(III)I" } : Jvm.MethodName)), (Jvm.Cond.methodLink "ThirstHoursLaw" (150 : Nat) ({ cls := "ThirstHours", name := "mark", desc := "(IZ)Z" } : Jvm.MethodName)), (Jvm.Cond.methodLink "ThirstHoursLaw" (154 : Nat) ({ cls := "ThirstHoursModel", name := "mark", desc := "(IZ)Z" } : Jvm.MethodName)), (Jvm.Cond.methodLink "ThirstHoursLaw" (155 : Nat) ({ cls := "ThirstHours", name := "count", desc := "(I)I" } : Jvm.MethodName)), (Jvm.Cond.methodLink "ThirstHoursLaw" (158 : Nat) ({ cls := "ThirstHoursModel", name := "count", desc := "(I)I" } : Jvm.MethodName))]
set_option maxRecDepth 100000 in
theorem lk_L_1_in : ∀ w ∈ lk_L_1, w ∈ am_TB := am_inTB [1072, 1969, 1085, 1973, 1093, 1981, 1105, 1985, 1123, 2002, 1131, 2006, 1146, 2017, 1166, 2025, 1184, 2032, 1192, 2036, 1212, 2048, 1232, 2056, 1301, 2064, 1635, 1245, 2076, 1273, 2095, 1288, 2103] rfl rfl
def lk_L : List Cond := lk_L_0 ++ lk_L_1
theorem lk_L_in : ∀ w ∈ lk_L, w ∈ am_TB := fun w h => (List.mem_append.mp h).elim (lk_L_0_in w) (lk_L_1_in w)
def cd_LW : List CE := cd_274.filter (fun x => !(Nat.beq x.1 1249))
set_option maxRecDepth 100000 in
theorem ne_LW : ∀ w ∈ cd_LW.flatMap (am_need RL am_MT []), w ∈ am_TB := am_inL lk_L_in [0, 1, 2, 3, 4, 5, 6, 7, 8, 9, 9, 9, 10, 9, 9, 9, 11, 12, 13, 14, 15, 16, 17, 18, 19, 20, 21, 22, 23, 24, 25, 26, 27, 28, 29, 30, 31, 32, 33, 34, 35, 36, 37, 38, 39, 40, 41, 42, 43, 44, 45, 46, 47, 48, 49, 50, 51, 52, 53, 54, 55, 56, 57, 58, 59, 60, 61, 62, 63, 65, 66, 67, 68, 69, 70, 71, 72] rfl
set_option maxRecDepth 100000 in
theorem nn_LW : ∀ w ∈ cd_LW.flatMap (am_needN RL am_MT []), w ∈ am_NB := am_inNB [] rfl rfl
set_option maxRecDepth 100000 in
theorem cl_eq : cd_LW = cl_0 ++ cl_1 ++ cl_2 ++ cl_3 ++ cl_4 ++ cl_5 ++ cl_6 ++ cl_7 ++ cl_8 ++ cl_9 ++ cl_10 ++ cl_11 ++ cl_12 ++ cl_13 ++ cl_14 ++ cl_15 ++ cl_16 ++ cl_17 ++ cl_18 := rfl
theorem cl_all : cd_LW.all (fun x => decide (decode code x.1 = .ok (x.2.2.2, x.2.1))) = true := by
  rw [cl_eq]
  simp only [List.all_append, cl_0_ok, cl_1_ok, cl_2_ok, cl_3_ok, cl_4_ok, cl_5_ok, cl_6_ok, cl_7_ok, cl_8_ok, cl_9_ok, cl_10_ok, cl_11_ok, cl_12_ok, cl_13_ok, cl_14_ok, cl_15_ok, cl_16_ok, cl_17_ok, cl_18_ok, Bool.and_self]
theorem mo_LW2 : ∀ x ∈ (PG 274).1, x.1 ≠ 1249 → decode code x.1 = .ok (x.2.2.2, x.2.1) ∧ am_ok RL false am_TB am_MT x.1 x.2.1 x.2.2.1 x.2.2.2 ∧ am_rok ret x.2.1 x.2.2.1 x.2.2.2 := by
  intro x hx h9
  have h3 : cd_LW.all (fun x => decide (decode code x.1 = .ok (x.2.2.2, x.2.1))) = true := cl_all
  have h5 : cd_LW.all (fun x => am_okb false RL am_mk x && am_rokb ret x) = true := by decide +kernel
  have hx : x ∈ cd_LW := by
    refine List.mem_filter.mpr ⟨by rw [hp_274] at hx; exact hx, ?_⟩
    cases hz : Nat.beq x.1 1249 with
    | false => rfl
    | true => exact absurd (Nat.eq_of_beq_eq_true hz) h9
  have g3 := List.all_eq_true.mp h3 x hx
  have g5 := List.all_eq_true.mp h5 x hx
  simp only [Bool.and_eq_true] at g5
  have h4 := ne_LW
  have h4n := nn_LW
  obtain ⟨pc, len, aux, i⟩ := x
  exact ⟨of_decide_eq_true g3, am_ok_of am_hmf (fun w hw => h4 w (List.mem_flatMap.mpr ⟨_, hx, hw⟩)) (fun w hw => h4n w (List.mem_flatMap.mpr ⟨_, hx, hw⟩)) g5.1, am_rok_of g5.2⟩
/-- the law's own end, with new things written -/
theorem lw_ret2 {p : Program} {l : Launch} {e : Env} {s : State} {m : MethodId} {below : List Frame} {meth : Method} {c : Code} {b : Nat} (hx : p.tables.exec = Jvm.exec) (hb : c.code = code) (hr : meth.sig.returnType = ret) (hlocks : meth.locks = false) {pc : Nat} {H : Heap} {ls : Array Slot} {locs : List Loc} {k n : Nat} (hL : ∀ x ∈ locs, s.heap.size ≤ x.base) (hk : k ≤ 601024) (hn : n ≤ 7293034) (hdg : decode code pc = .ok (.ireturn, 1)) : W p l e room_1 s m #[Value.ref b] below meth c H locs k n (lw_Z below #[Value.ref b] s) (F0 m pc ls [.int 1]) := by
  intro T hT X
  obtain ⟨fs, hret, hrun, hended, hW, hframe⟩ := X.leave (v := some (.int 1)) (hlocks := hlocks) (fun h => by rw [hr] at h; cases h)
  have hmeth' : T.vm.method? m = some meth := X.method'
  refine ⟨T.setFrames fs, ?_, .returned (some (.int 1)), hrun, hended, rfl, ⟨_, rfl⟩, hW, (State.sameButNew.drop_fresh (L := []) (J := locs) hframe hL).mono hk hn⟩
  jvm_step X.here [X.here.top, hx, hb, hdg, hmeth', hr, ret, narrow_b1]
  (try refine ⟨rfl, ?_⟩); (try refine ⟨rfl, ?_⟩)
  first | (intro acts; rw [hret _ acts rfl rfl rfl]) | rw [hret _ _ rfl rfl rfl]
  exact Steps.refl _
/-- what is asked of the one call of a method that catches -/
def am_LRok (p : Program) (l : Launch) (e : Env) (s : State) (m : MethodId) (b : Nat) (below : List Frame) (meth : Method) (c : Code) (E : AE) (n0 d : Nat) : Prop :=
  ∀ (n : Nat) (lv : LV) (st : List Value) (h : AH) (r : Res), am_run PG (n + 1) d 274 1249 lv st h = some r → hNX r.2 - n0 ≤ 3500 → hNX r.2 ≤ 1000000 →
    (∀ pc1 lv1 st1 h1, am_run PG n d 274 pc1 lv1 st1 h1 = some r → am_W p l e room_1 s m #[Value.ref b] below meth c (lw_Z below #[Value.ref b] s) E n0 pc1 lv1 st1 h1) → am_W p l e room_1 s m #[Value.ref b] below meth c (lw_Z below #[Value.ref b] s) E n0 1249 lv st h
theorem am_law_W {E : AE} {l : Launch} {p : Program} {e : Env} {s : State} {m : MethodId} {below : List Frame} {meth : Method} {c : Code} {b d n0 : Nat} (hLR : am_LRok p l e s m b below meth c E n0 d) (hd : d ≤ 1300) (hx : p.tables.exec = Jvm.exec) (hb : c.code = code) (hown : s.vm.findClass RL = some m.cls) (hts : ∀ w ∈ am_TB, w.before #[Value.ref b] s = true) (hKS : am_KS E s) (hr0 : meth.sig.returnType = ret) (hlk : meth.locks = false) (hE : s.heap.size ≤ E.1) :
    ∀ (n pc : Nat) (lv : LV) (st : List Value) (h : AH) (r : Res), am_run PG n d 274 pc lv st h = some r → r.1 = some (.int 1) → hNX r.2 - n0 ≤ 3500 → hNX r.2 ≤ 1000000 → am_W p l e room_1 s m #[Value.ref b] below meth c (lw_Z below #[Value.ref b] s) E n0 pc lv st h
  | 0, pc, lv, st, h, r, hr => by cases hr
  | n + 1, pc, lv, st, h, r, hr => by
    intro h1 hN1 hN
    have ih := am_law_W hLR hd hx hb hown hts hKS hr0 hlk hE n
    by_cases h9 : pc = 1249
    · subst h9
      exact hLR n lv st h r hr hN1 hN (fun pc1 lv1 st1 g1 q => ih pc1 lv1 st1 g1 r q h1 hN1 hN)
    have m3 := mo_LW2
    unfold am_run at hr
    split at hr
    · cases hr
    · rename_i x hf
      obtain ⟨f1, f2⟩ := am_fetch_mem _ _ _ hf
      obtain ⟨k1, k2, k3⟩ := m3 x f1 (by rw [f2]; exact h9)
      obtain ⟨pc1, len, aux, i⟩ := x
      cases f2
      refine stp_sound (d := d) (MT := am_MT) (ini := false) hx hb hts am_hgd hown hKS am_cokTB (fun hz => by cases hz) k1 k2 (by show 1 ≤ 2048; omega) (by show 64 ≤ 84000; omega) (fun _ => ⟨by show d + 1 ≤ 2048; omega, by show 64 * (d + 1) ≤ 84000; omega⟩) ?_ ?_ ?_ ?_ ⟨by show hNX r.2 - n0 ≤ 601024; omega, by show 2048 * (hNX r.2 - n0) ≤ 7293034; omega, hN⟩ hr (fun hT => ?_)
      · intro mid1 as h1 rv h2 q1 q2 q3
        cases d with
        | zero => cases q3
        | succ d =>
          refine ⟨Nat.succ_ne_zero d, ?_⟩
          rw [Nat.add_sub_cancel]
          exact am_Met_of (r := (rv, h2)) (am_run_W am_hall am_hgd am_cokTB n) am_hall q1 q3 q2
      · intro mid1 as h1
        cases d with
        | zero => exact am_nx.no _
        | succ d => exact am_fitA_nx (am_run_nx PG n _ _ _ _ _ _)
      · intro pc2 lv2 st2 h2 q
        exact am_W.mask _ (ih _ _ _ _ r q h1 hN1 hN)
      · intro pc2 lv2 st2 h2
        exact am_run_nx PG n _ _ _ _ _ _
      · intro H locs ls hR hl hn hL hNn
        cases i
        case ireturn =>
          obtain ⟨hl1, hok⟩ := k3
          cases hl1
          dsimp only [stp] at hr
          split at hr
          · rename_i v
            obtain ⟨g1, g2, -⟩ := am_nar_inv hr
            cases g1
            have h1 : some (Value.int v) = some (.int 1) := h1
            cases h1
            exact lw_ret2 hx hb hr0 hlk (fun q hq => Nat.le_trans hE (hL q hq)) (by have h9 : hNX h - n0 ≤ 3500 := hN1; omega) (by have h9 : hNX h - n0 ≤ 3500 := hN1; omega) k1
          · cases hr
        case lreturn => exact absurd k3.2 (by decide)
        case areturn =>
          obtain ⟨-, z, hz⟩ := k3
          cases hz
        case return_ => exact absurd k3.2 (by decide)
        case new => exact absurd (by simpa [am_isT] using hT) k3
        all_goals (cases hT)
