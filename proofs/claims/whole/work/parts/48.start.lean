/-! From the start of the law to the small machine. By mkstart.py. -/
def h_ini (L : Nat) (xs : Nat → Int32) : AH := (fun a => if 1000000 ≤ a ∧ a < 1000031 then 11 else if a = 1000100 then 56 else if a = 1000101 then 57 else 0, fun k a => if k = 1001 ∧ 1000000 ≤ a ∧ a < 1000031 then w_kp (a - 1000000) else 0, fun k a => if k = 1000 ∧ 1000000 ≤ a ∧ a < 1000031 then w_sp (a - 1000000) else 0, fun _ _ => none, fun a => if a = 1000100 then 31 else if a = 1000101 then L else 0, fun a => if a = 1000101 then xs else fun _ => 0, fun _ _ => 0, fun a j => if a = 1000100 ∧ j < 31 then some (1000000 + j) else none, 0)
def st_nm : List String := ["PLACE", "WELL", "WAY", "CLOCK", "AT", "HOLDS", "HAS", "SIPS", "PERSON", "WORK", "BY", "HOUR", "PAYS", "HEAT", "TO", "THIRST", "POUR", "DRAW", "GO", "STEAL", "PLAIN", "OLD", "MILK", "DEW", "NOT", "AND", "OR", "BASE", "HOT", "KIND", "SHOWN"]
theorem st_w (i : Nat) : w_nm i = st_nm.getD i "" := rfl
def st_W (i : Nat) : Term := .static RX10 (st_nm.getD i "") "LThirstHours$Word;"
def st_A : Term := .static RX10 "ALL" "[LThirstHours$Word;"
def st_F : List Cond := flatC (Jvm.Cond.and given_1 narrow_1)
theorem st_in {f : Nat → Cond} (ps : List Nat) (h : (List.range 31).map f = ps.filterMap (fun i => st_F[i]?)) : ∀ i, i < 31 → f i ∈ st_F := by
  intro i hi
  have hw : f i ∈ (List.range 31).map f := List.mem_map.mpr ⟨i, List.mem_range.mpr hi, rfl⟩
  rw [h] at hw
  obtain ⟨j, -, hj⟩ := List.mem_filterMap.mp hw
  exact List.mem_of_getElem? hj
set_option maxRecDepth 100000 in
theorem st_ex : ∀ i, i < 31 → Cond.exactly (st_W i) RX10 ∈ st_F := st_in [40, 44, 48, 52, 72, 76, 80, 84, 88, 92, 96, 100, 104, 108, 112, 116, 148, 152, 156, 160, 56, 60, 64, 68, 136, 140, 144, 120, 124, 128, 132] rfl
set_option maxRecDepth 100000 in
theorem st_sp : ∀ i, i < 31 → Cond.eq (.field (st_W i) RX10 "spelt" "J") (.long (w_sp i)) ∈ st_F := st_in [42, 46, 50, 54, 74, 78, 82, 86, 90, 94, 98, 102, 106, 110, 114, 118, 150, 154, 158, 162, 58, 62, 66, 70, 138, 142, 146, 122, 126, 130, 134] rfl
set_option maxRecDepth 100000 in
theorem st_kp : ∀ i, i < 31 → Cond.eq (.field (st_W i) RX10 "kept" "Z") (.int (w_kp i)) ∈ st_F := st_in [43, 47, 51, 55, 75, 79, 83, 87, 91, 95, 99, 103, 107, 111, 115, 119, 151, 155, 159, 163, 59, 63, 67, 71, 139, 143, 147, 123, 127, 131, 135] rfl
set_option maxRecDepth 100000 in
theorem st_el : ∀ i, i < 31 → Cond.eq (.elem st_A (.int (Int32.ofNat i))) (st_W i) ∈ st_F := st_in [9, 10, 11, 12, 13, 14, 15, 16, 17, 18, 19, 20, 21, 22, 23, 24, 25, 26, 27, 28, 29, 30, 31, 32, 33, 34, 35, 36, 37, 38, 39] rfl
set_option maxRecDepth 100000 in
theorem st_ao : Cond.arrayOf st_A (.object "ThirstHours$Word") ∈ st_F := List.mem_of_getElem? (i := 6) rfl
set_option maxRecDepth 100000 in
theorem st_ln : Cond.eq (.length st_A) (.int 31) ∈ st_F := List.mem_of_getElem? (i := 7) rfl
set_option maxRecDepth 100000 in
theorem st_al : Cond.all st_A (.le (.index 0) (.int 30)) ∈ st_F := List.mem_of_getElem? (i := 8) rfl
set_option maxRecDepth 100000 in
theorem st_us : Cond.isRef (.static Bundle.tN "UNASSIGNED_STACK" Bundle.steD) ∈ st_F := List.mem_of_getElem? (i := 164) rfl
set_option maxRecDepth 100000 in
theorem st_ss : Cond.isRef (.static Bundle.tN "SUPPRESSED_SENTINEL" Bundle.listD) ∈ st_F := List.mem_of_getElem? (i := 165) rfl
theorem st_tb {ws : List Cond} (ps : List Nat) (hp : ws = ps.filterMap (fun i => lw_tbl[i]?)) : ∀ w ∈ ws, w ∈ lw_tbl := by
  intro w hw
  rw [hp] at hw
  obtain ⟨i, -, hi⟩ := List.mem_filterMap.mp hw
  exact List.mem_of_getElem? hi
set_option maxRecDepth 100000 in
theorem stt_ls : ∀ w ∈ (List.range 31).map (fun i => Cond.laysStatic RX10 (st_nm.getD i "") "LThirstHours$Word;"), w ∈ lw_tbl := st_tb [685, 708, 722, 744, 762, 764, 766, 768, 770, 776, 782, 784, 786, 788, 794, 796, 884, 886, 888, 890, 754, 756, 758, 760, 838, 844, 846, 830, 832, 834, 836] rfl
def st_l2 : List Cond := [.laysStatic RX10 "ALL" "[LThirstHours$Word;", .initialized RX10, .laysStatic Bundle.tN "UNASSIGNED_STACK" Bundle.steD, .laysStatic Bundle.tN "SUPPRESSED_SENTINEL" Bundle.listD, .initialized Bundle.tN, .arrayClass .int, .arrayClass .char, .arrayClass .boolean, .arrayClass .long, .arrayOver (.object "ThirstHours$State"), .arrayOver (.object "ThirstHours$Store"), .castable "java/util/NoSuchElementException" "java/util/NoSuchElementException", .declares ⟨"java/lang/RuntimeException", "<init>", "()V"⟩, .declares ⟨"java/lang/Exception", "<init>", "()V"⟩, .declares ⟨"java/lang/Throwable", "<init>", "()V"⟩, .instantiable RX0 3, .instantiable RX1 17, .instantiable RX2 5, .instantiable RX3 6, .instantiable RX4 3, .instantiable RX5 20, .instantiable RX6 6, .instantiable RX7 9, .instantiable RX8 3, .instantiable RX9 9, .instantiable RX11 14, .instantiable RX12 82]
set_option maxRecDepth 100000 in
theorem st_l2_in : ∀ w ∈ st_l2, w ∈ lw_tbl := st_tb [668, 137, 1336, 1338, 140, 246, 193, 514, 245, 494, 492, 1311, 1312, 1314, 1316, 497, 516, 418, 453, 226, 220, 195, 248, 443, 153, 145, 1383] rfl
theorem st_2 {k : Nat} {w : Cond} (h : st_l2[k]? = some w) : w ∈ lw_tbl := st_l2_in w (List.mem_of_getElem? h)
theorem am_av_eq {cell : Cell} {n : Nat} {f : Nat → Value} (hsz : cell.slots.size = n) (hv : ∀ j : Nat, j < n → cell.slots[j]? = some (f j)) : cell = am_av cell n f := by
  have h : cell.slots = Array.ofFn (n := n) fun j => f j.val := by
    apply Array.ext
    · rw [hsz]; simp
    · intro i h1 h2
      have h3 := hv i (by omega)
      rw [Array.getElem?_eq_getElem h1] at h3
      rw [Option.some.inj h3]
      simp
  unfold am_av
  rw [← h]
theorem st_KA {s : State} {cell : Cell} {ty : FieldType} (h : s.isArrayOf cell ty) : ArrOfT s cell.cls ty := fun n z => ⟨fun k hk => by (cases hk), h.2⟩
theorem st_ac {args : Array Value} {s : State} {ty : FieldType} (hty : ∀ C, ty ≠ .object C) (h : (Cond.arrayClass ty).before args s = true) : ∃ c : ClassId, ArrOfT s c ty ∧ va_RA s c ty := by
  obtain ⟨c, k, comp, h1, h2, h3⟩ := Cond.arrayClass_spec h
  refine ⟨c, fun n z => ⟨fun q hq => by (cases hq), k, h2, comp, h3⟩, ?_⟩
  unfold va_RA
  split
  · exact absurd rfl (hty _)
  · exact h1
theorem st_av {args : Array Value} {s : State} {n : String} (h : (Cond.arrayOver (.object n)).before args s = true) : ∃ c : ClassId, ArrOfT s c (.object n) ∧ va_RA s c (.object n) := by
  obtain ⟨comp, c, k, h1, -, h2, h3, h4⟩ := Cond.arrayOver_spec h
  exact ⟨c, fun m z => ⟨fun q hq => by (cases hq), k, h2, comp, h3⟩, k, comp, h2, h3, h1, h4⟩
theorem st_spi : ∀ i, i < 31 → ∀ j, j < 31 → w_sp i = w_sp j → i = j := by decide +kernel
theorem st_OF {t : Nat} {v w : Value} {o n d : String} {A : Nat → Prop} {U : State} {H : Heap} (h1 : va_OF o n d v t A U H) (h2 : va_OF o n d w t A U H) : v = w := by
  obtain ⟨cf, k, i, f, cell, a1, -, a3, -, a5, -⟩ := h1
  obtain ⟨cf', k', i', f', cell', b1, -, b3, -, b5, -⟩ := h2
  cases a1.symm.trans b1
  cases a3.symm.trans b3
  exact Option.some.inj (a5.symm.trans b5)
theorem st_cls {args : Array Value} {s : State} (hts : ∀ w ∈ lw_tbl, w.before args s = true) : ∃ D : va_G, ∀ (k : Nat) (q : vw_C), am_cls[k]? = some q → u_Kn s q.1 q.2.1 q.2.2 (D.1 k) (D.2 k) := by
  have htb : ∀ w ∈ am_TB, w.before args s = true := fun w hw => hts w (List.mem_filter.mp hw).1
  obtain ⟨c0, i0, k0⟩ := u_known (C := RX0) (T := TX0) (N := 3) (n := 3) htb uw_0 (hts _ (st_2 (k := 15) rfl))
  obtain ⟨c1, i1, k1⟩ := u_known (C := RX1) (T := TX1) (N := 17) (n := 17) htb uw_1 (hts _ (st_2 (k := 16) rfl))
  obtain ⟨c2, i2, k2⟩ := u_known (C := RX2) (T := TX2) (N := 5) (n := 5) htb uw_2 (hts _ (st_2 (k := 17) rfl))
  obtain ⟨c3, i3, k3⟩ := u_known (C := RX3) (T := TX3) (N := 6) (n := 6) htb uw_3 (hts _ (st_2 (k := 18) rfl))
  obtain ⟨c4, i4, k4⟩ := u_known (C := RX4) (T := TX4) (N := 3) (n := 3) htb uw_4 (hts _ (st_2 (k := 19) rfl))
  obtain ⟨c5, i5, k5⟩ := u_known (C := RX5) (T := TX5) (N := 20) (n := 20) htb uw_5 (hts _ (st_2 (k := 20) rfl))
  obtain ⟨c6, i6, k6⟩ := u_known (C := RX6) (T := TX6) (N := 6) (n := 6) htb uw_6 (hts _ (st_2 (k := 21) rfl))
  obtain ⟨c7, i7, k7⟩ := u_known (C := RX7) (T := TX7) (N := 9) (n := 9) htb uw_7 (hts _ (st_2 (k := 22) rfl))
  obtain ⟨c8, i8, k8⟩ := u_known (C := RX8) (T := TX8) (N := 3) (n := 3) htb uw_8 (hts _ (st_2 (k := 23) rfl))
  obtain ⟨c9, i9, k9⟩ := u_known (C := RX9) (T := TX9) (N := 9) (n := 9) htb uw_9 (hts _ (st_2 (k := 24) rfl))
  obtain ⟨c11, i11, k11⟩ := u_known (C := RX11) (T := TX11) (N := 14) (n := 14) htb uw_11 (hts _ (st_2 (k := 25) rfl))
  obtain ⟨c12, i12, k12⟩ := u_known (C := RX12) (T := TX12) (N := 82) (n := 82) htb uw_12 (hts _ (st_2 (k := 26) rfl))
  obtain ⟨c10, i10, k10⟩ := u_known (C := RX9) (T := TX9) (N := 0) (n := 9) htb (fun w h => absurd h (by simp [u_ws])) (hts _ (st_2 (k := 24) rfl))
  refine ⟨(fun k => [c0, c1, c2, c3, c4, c5, c6, c7, c8, c9, c10, c11, c12].getD k c0, fun k => [i0, i1, i2, i3, i4, i5, i6, i7, i8, i9, i10, i11, i12].getD k i0), ?_⟩
  intro k q hq
  match k, hq with
  | 0, hq => cases hq; exact k0
  | 1, hq => cases hq; exact k1
  | 2, hq => cases hq; exact k2
  | 3, hq => cases hq; exact k3
  | 4, hq => cases hq; exact k4
  | 5, hq => cases hq; exact k5
  | 6, hq => cases hq; exact k6
  | 7, hq => cases hq; exact k7
  | 8, hq => cases hq; exact k8
  | 9, hq => cases hq; exact k9
  | 10, hq => cases hq; exact k10
  | 11, hq => cases hq; exact k11
  | 12, hq => cases hq; exact k12
  | n + 13, hq => cases hq
theorem whole_pre {p : Program} {s : State} {m : MethodId} {meth : Method} {c : Code} {b L : Nat} {xs : Nat → Int32} (hL : L ≤ 3584) (C0 : lw_At p s m meth c b L xs) : ∃ E : AE, E.1 = s.heap.size ∧ eg E (.ref 1000101) = .ref b ∧ am_KX E s ∧ am_Rel E (h_ini L xs) s.heap := by
  obtain ⟨hx, hb, hr, hml, hown, hts, hX, hbl, hlocks, hgv⟩ := C0
  have hs : ∀ w ∈ st_F, w.before #[Value.ref b] s = true := flat_of_before _ hgv
  have hA : ∀ a : Nat, a < s.heap.size → ¬ (fun q => s.heap.size ≤ q) a := fun a h => Nat.not_le.mpr h
  have h0 : ∀ i : Nat, ∃ t : Nat, i < 31 → (st_W i).eval #[Value.ref b] s none [] s = some (.ref t) ∧ t < s.heap.size := by
    intro i
    by_cases hi : i < 31
    · obtain ⟨a, c, cell, k, q1, q2, q3, q4, q5, q6, -⟩ := Cond.exactly_spec (hs _ (st_ex i hi))
      exact ⟨a, fun _ => ⟨q1, (Array.getElem?_eq_some_iff.mp q3).1⟩⟩
    · exact ⟨0, fun h => absurd h hi⟩
  obtain ⟨ad, had⟩ := Classical.axiomOfChoice h0
  have hsp : va_Ef 31 RX10 "spelt" "J" (fun i => .long (w_sp i)) ad (fun q => s.heap.size ≤ q) s s.heap := va_Efof (E := RX10) (d0 := "LThirstHours$Word;") (nm := st_nm) (tm := fun i => .long (w_sp i)) (fun i hi => (had i hi).1) (fun i hi => hs _ (st_sp i hi)) (fun i _ => rfl) hA
  have hkp : va_Ef 31 RX10 "kept" "Z" (fun i => .int (w_kp i)) ad (fun q => s.heap.size ≤ q) s s.heap := va_Efof (E := RX10) (d0 := "LThirstHours$Word;") (nm := st_nm) (tm := fun i => .int (w_kp i)) (fun i hi => (had i hi).1) (fun i hi => hs _ (st_kp i hi)) (fun i _ => rfl) hA
  have hdf : ∀ i j, i < 31 → j < 31 → ad i = ad j → i = j := by
    intro i j hi hj e
    have h1 := hsp i hi
    have h2 := hsp j hj
    rw [← e] at h2
    exact st_spi i hi j hj (Value.long.inj (st_OF h1 h2))
  have hlen := va_eqt (hs _ st_ln)
  obtain ⟨tA, hA1, cellA, a1, a2, a3, a4, a5, a6, a7⟩ := va_Tof (tm := st_A) (ty := .object "ThirstHours$Word") (N := 31) (f := fun j => .ref (ad j)) (by decide) (hs _ st_ao) hlen (fun j hj => va_eqv (hs _ (st_el j hj)) (had j hj).1) hA
  have hszA : cellA.slots.size = 31 := by
    obtain ⟨b1, cell1, k1, k2, -⟩ := Term.length_spec hlen
    cases hA1.symm.trans k1
    obtain ⟨k3, -⟩ := State.arrayAt?_spec k2
    cases a1.symm.trans k3
    have hall := Cond.all_elim k1 k2 (by simpa [Cond.before, Cond.holds] using hs _ st_al)
    apply Classical.byContradiction
    intro hne
    have h31 := hall 31 (by omega)
    simp [Cond.value, Term.eval] at h31
    exact absurd h31 (by decide)
  obtain ⟨scr, x1, x2, x3, x4, x5⟩ := hX
  obtain ⟨D, hD⟩ := st_cls hts
  obtain ⟨cI, hI1, hI2⟩ := st_ac (ty := .int) (fun C h => by cases h) (hts _ (st_2 (k := 5) rfl))
  obtain ⟨cC, hC1, hC2⟩ := st_ac (ty := .char) (fun C h => by cases h) (hts _ (st_2 (k := 6) rfl))
  obtain ⟨cZ, hZ1, hZ2⟩ := st_ac (ty := .boolean) (fun C h => by cases h) (hts _ (st_2 (k := 7) rfl))
  obtain ⟨cJ, hJ1, hJ2⟩ := st_ac (ty := .long) (fun C h => by cases h) (hts _ (st_2 (k := 8) rfl))
  obtain ⟨cS, hS1, hS2⟩ := st_av (hts _ (st_2 (k := 9) rfl))
  obtain ⟨cR, hR1, hR2⟩ := st_av (hts _ (st_2 (k := 10) rfl))
  refine ⟨(s.heap.size, fun j => if j < 31 then ad j else if j = 100 then tA else b, D, fun kd => if kd = 50 then cI else if kd = 51 then cC else if kd = 52 then cZ else if kd = 53 then cJ else if kd = 54 then cS else if kd = 55 then cR else if kd = 56 then cellA.cls else scr.cls, s.heap), rfl, ?_, ⟨⟨⟨hD, ?_⟩, ?_, ?_, ?_, ?_, ?_, ?_, ?_, ?_⟩, ?_, ?_, ?_⟩, ?_⟩
  · rfl
  · intro k q hq
    match k, hq with
    | 0, hq => cases hq; exact ⟨hI1, hI2⟩
    | 1, hq => cases hq; exact ⟨hC1, hC2⟩
    | 2, hq => cases hq; exact ⟨hZ1, hZ2⟩
    | 3, hq => cases hq; exact ⟨hJ1, hJ2⟩
    | 4, hq => cases hq; exact ⟨hS1, hS2⟩
    | 5, hq => cases hq; exact ⟨hR1, hR2⟩
    | n + 6, hq => cases hq
  · intro i hi
    dsimp only
    rw [if_pos hi]
    exact ⟨hsp i hi, hkp i hi, va_Zref (hts _ (stt_ls _ (List.mem_map.mpr ⟨i, List.mem_range.mpr hi, rfl⟩))) (hts _ (st_2 (k := 1) rfl)) (had i hi).1 hA⟩
  · exact va_Zref (hts _ (st_2 (k := 0) rfl)) (hts _ (st_2 (k := 1) rfl)) hA1 hA
  · intro i j hi hj e
    dsimp only at e
    rw [if_pos hi, if_pos hj] at e
    exact hdf i j hi hj e
  · intro w hw
    have h1 := (List.mem_filter.mp hw).2
    have h2 := hts w (List.mem_filter.mp hw).1
    cases w
    case fieldLinkNest => exact va_Nw.of rfl h2
    case methodLinkNest => exact va_Nw.of rfl h2
    all_goals (cases h1)
  · exact va_AO.of (hts _ (st_2 (k := 9) rfl))
  · exact va_AO.of (hts _ (st_2 (k := 10) rfl))
  · exact st_KA a2
  · exact st_KA x2
  · exact ax_to ⟨va_Nw.of rfl (hts _ (st_2 (k := 11) rfl)), va_Nw.of rfl (hts _ (st_2 (k := 12) rfl)), va_Nw.of rfl (hts _ (st_2 (k := 13) rfl)), va_Nw.of rfl (hts _ (st_2 (k := 14) rfl))⟩
  · exact vx_Zqof (hts _ (st_2 (k := 2) rfl)) (hts _ (st_2 (k := 4) rfl)) (hs _ st_us) hA
  · exact vx_Zqof (hts _ (st_2 (k := 3) rfl)) (hts _ (st_2 (k := 4) rfl)) (hs _ st_ss) hA
  · have hk : ∀ a, hK (h_ini L xs) a = if 1000000 ≤ a ∧ a < 1000031 then 11 else if a = 1000100 then 56 else if a = 1000101 then 57 else 0 := fun a => rfl
    refine ⟨rfl, fun q _ => rfl, fun a ci h1 h13 h10 => ?_, fun a h50 => ?_, fun a h1 => ?_, Nat.zero_le _, fun a => ?_, fun a h1 => ?_⟩
    · rw [hk] at h1
      exfalso
      split at h1
      · omega
      · split at h1
        · omega
        · split at h1 <;> omega
    · rw [hk] at h50
      split at h50
      · omega
      · split at h50
        · rename_i e
          subst e
          refine ⟨cellA, Or.inr ⟨Or.inr (Or.inl rfl), rfl, a3, a2.1⟩, ?_⟩
          show s.heap[tA]? = some (am_av cellA 31 _)
          rw [a1]
          refine congrArg some (am_av_eq hszA fun j hj => ?_)
          rw [a6 j hj]
          show some (Value.ref (ad j)) = some (eg _ (.ref ((if 1000100 = 1000100 ∧ j < 31 then some (1000000 + j) else none : Option Nat).getD nul)))
          rw [if_pos ⟨rfl, hj⟩]
          show _ = some (if 1000000 + j = nul then Value.null else Value.ref (ea _ (1000000 + j)))
          rw [if_neg (by unfold nul; omega)]
          unfold ea
          rw [if_neg (by omega)]
          dsimp only
          rw [if_pos (by omega), Nat.add_sub_cancel_left]
        · split at h50
          · rename_i e
            subst e
            refine ⟨scr, Or.inr ⟨Or.inr (Or.inr rfl), rfl, x3, x2.1⟩, ?_⟩
            show s.heap[b]? = some (am_av scr L _)
            rw [x1]
            refine congrArg some (am_av_eq x4 fun j hj => ?_)
            rw [x5 j hj]
            rfl
          · omega
    · refine Or.inr ?_
      have h1 : (if 1000000 ≤ a ∧ a < 1000031 then 11 else if a = 1000100 then 56 else if a = 1000101 then 57 else 0) ≠ 0 := h1
      rw [hk]
      split at h1
      · rename_i e
        rw [if_pos e]
        refine ⟨e.1, by unfold nul; omega, Or.inl rfl, ?_⟩
        dsimp only
        rw [if_pos (by omega)]
        exact (had _ (by omega)).2
      · rename_i e0
        rw [if_neg e0]
        split at h1
        · rename_i e
          subst e
          exact ⟨by omega, by unfold nul; omega, Or.inr (Or.inl rfl), (Array.getElem?_eq_some_iff.mp a1).1⟩
        · rename_i e1
          rw [if_neg e1]
          split at h1
          · rename_i e
            subst e
            exact ⟨by omega, by unfold nul; omega, Or.inr (Or.inr rfl), hbl⟩
          · exact absurd rfl h1
    · show (if a = 1000100 then 31 else if a = 1000101 then L else 0) ≤ 4096
      split
      · omega
      · split <;> omega
    · rw [hk] at h1
      split at h1
      · rename_i e
        refine ⟨e.1, e.2, ?_, ?_⟩
        · show (if 1000 = 1000 ∧ 1000000 ≤ a ∧ a < 1000031 then _ else _) = _
          rw [if_pos ⟨rfl, e⟩]
        · show (if 1001 = 1001 ∧ 1000000 ≤ a ∧ a < 1000031 then _ else _) = _
          rw [if_pos ⟨rfl, e⟩]
      · split at h1
        · omega
        · split at h1 <;> omega
/-- from a run of the small machine that answers 1 -/
theorem whole_of (hmain : ∀ (L : Nat) (xs : Nat → Int32), L ≤ 3584 → ∃ h1 : AH, am_C PG 1300 274 [.ref 1000101] (h_ini L xs) = some (some (.int 1), h1) ∧ hNX h1 ≤ 3500)
    {p : Program} {e : Env} {s : State} {m : MethodId} {below : List Frame} {meth : Method} {c : Code} (l : Launch) (hflags : l.flags = flags0) {b L : Nat} {xs : Nat → Int32} (hL : L ≤ 3584) (C0 : lw_At p s m meth c b L xs) : W p l e room_1 s m #[Value.ref b] below meth c s.heap [] 0 0 (lw_Z below #[Value.ref b] s) (entryFrame m ([Value.ref b] : List Value).toArray 7) := by
  obtain ⟨E, hE1, hE2, hKX, hRel⟩ := whole_pre hL C0
  obtain ⟨hx, hb, hr, hml, hown, hts, hX, hbl, hlocks, hgv⟩ := C0
  obtain ⟨h1, hm, hN⟩ := hmain L xs hL
  have htr : l.stackTraces = false := by
    unfold Launch.stackTraces
    rw [hflags]
    decide +kernel
  have htb : ∀ w ∈ am_TB, w.before #[Value.ref b] s = true := fun w hw => hts w (List.mem_filter.mp hw).1
  unfold am_C am_fitA at hm
  split at hm
  · obtain ⟨n, hn⟩ := (am_R_iff _ _ _ _ _ _ _ _).mp hm
    have hl := lv_entry ([Value.ref b]) (n := 7) (Nat.le_of_ble_eq_true rfl)
    rw [lg_entry_eq]
    generalize (lg_sl ([Value.ref b]) ++ List.replicate (7 - (lg_sl ([Value.ref b])).length) Slot.unset).toArray = ls at hl ⊢
    have w := am_law_W (e := e) (below := below) (am_LRok_of (n0 := 0) (below := below) (meth := meth) (e := e) htr ⟨by decide, Nat.le_refl _⟩ hx hb hown htb hKX) (Nat.le_refl _) hx hb hown htb hKX.1 hr hlocks (by rw [hE1]; exact Nat.le_refl _) n 0 _ [] _ _ hn rfl (by show hNX h1 - 0 ≤ 3500; omega) (by show hNX h1 ≤ 1000000; omega) s.heap [] ls hRel (by
      rw [hml]
      show lv_has ls 7 [(0, eg E (.ref 1000101))]
      rw [hE2]
      exact hl) (by rw [hml]; rfl) (fun q hq => by cases hq) (Nat.zero_le _)
    exact w
  · cases hm
