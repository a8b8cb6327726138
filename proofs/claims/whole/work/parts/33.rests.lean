/-! ThirstHours.rests, that may throw, and the law's rests, that catches. By mkrests.py. -/
def ax_X : String := "java/util/NoSuchElementException"
def ax_NM : List String := ["java/lang/RuntimeException", "java/lang/Exception"]
def ax_L : List Cond := [.castable "java/util/NoSuchElementException" "java/util/NoSuchElementException", .declares ⟨"java/lang/RuntimeException", "<init>", "()V"⟩, .declares ⟨"java/lang/Exception", "<init>", "()V"⟩, .declares ⟨"java/lang/Throwable", "<init>", "()V"⟩]
def am_KX (E : AE) (U : State) : Prop := am_KS E U ∧ (∀ w ∈ ax_L, va_Nw w U) ∧ vx_Zq Bundle.tN "UNASSIGNED_STACK" Bundle.steD (fun q => E.1 ≤ q) U E.2.2.2.2 ∧ vx_Zq Bundle.tN "SUPPRESSED_SENTINEL" Bundle.listD (fun q => E.1 ≤ q) U E.2.2.2.2
theorem ax_all {P : Cond → Prop} (h0 : ∀ w ∈ ax_L, P w) : P (.castable "java/util/NoSuchElementException" "java/util/NoSuchElementException") ∧ P (.declares ⟨"java/lang/RuntimeException", "<init>", "()V"⟩) ∧ P (.declares ⟨"java/lang/Exception", "<init>", "()V"⟩) ∧ P (.declares ⟨"java/lang/Throwable", "<init>", "()V"⟩) :=
  ⟨h0 _ (List.mem_of_getElem? (i := 0) rfl), h0 _ (List.mem_of_getElem? (i := 1) rfl), h0 _ (List.mem_of_getElem? (i := 2) rfl), h0 _ (List.mem_of_getElem? (i := 3) rfl)⟩
theorem ax_to {P : Cond → Prop} (h0 : P (.castable "java/util/NoSuchElementException" "java/util/NoSuchElementException") ∧ P (.declares ⟨"java/lang/RuntimeException", "<init>", "()V"⟩) ∧ P (.declares ⟨"java/lang/Exception", "<init>", "()V"⟩) ∧ P (.declares ⟨"java/lang/Throwable", "<init>", "()V"⟩)) : ∀ w ∈ ax_L, P w := by
  obtain ⟨a1, a2, a3, a4⟩ := h0
  intro w hw
  unfold ax_L at hw
  rcases List.mem_cons.mp hw with rfl | hw
  · exact a1
  · rcases List.mem_cons.mp hw with rfl | hw
    · exact a2
    · rcases List.mem_cons.mp hw with rfl | hw
      · exact a3
      · rcases List.mem_cons.mp hw with rfl | hw
        · exact a4
        · cases hw
theorem am_KX.moved {E : AE} {u U : State} (hW : u.WarmedH U.vm) (h : am_KX E u) : am_KX E U := by
  obtain ⟨a1, a2, a3, a4⟩ := ax_all h.2.1
  exact ⟨h.1.moved hW, ax_to ⟨va_Nw.warmC hW a1, va_Nw.warmD hW a2, va_Nw.warmD hW a3, va_Nw.warmD hW a4⟩, vx_Zq.moved hW.alike h.2.2.1, vx_Zq.moved hW.alike h.2.2.2⟩
theorem am_KX.same {E : AE} {u U : State} (hv : u.vm = U.vm) (h : am_KX E u) : am_KX E U := by
  obtain ⟨a1, a2, a3, a4⟩ := ax_all h.2.1
  have ha : u.vm.Alike U.vm := by rw [hv]; exact Vm.Alike.refl U.vm
  exact ⟨h.1.same hv, ax_to ⟨va_Nw.same rfl hv a1, va_Nw.same rfl hv a2, va_Nw.same rfl hv a3, va_Nw.same rfl hv a4⟩, vx_Zq.moved ha h.2.2.1, vx_Zq.moved ha h.2.2.2⟩
theorem am_Rel.xcp {E : AE} {h : AH} {H H1 : Heap} (R : am_Rel E h H) (hb : hNX h + 1 ≤ 1000000) (hz : H1.size = H.size + 1) (ho : ∀ x : Nat, x < H.size → H1[x]? = H[x]?) : am_Rel E (nXcp h) H1 := by
  obtain ⟨r1, r2, r3, r4, r5, r6, r7, r8⟩ := R
  have hea : ∀ b, hK h b ≠ 0 → ea E b < H.size := by
    intro b e
    unfold ea
    rcases r5 b e with ⟨g, -⟩ | ⟨g, -, -, g2⟩
    · rw [if_pos (by omega)]; omega
    · rw [if_neg (by omega)]; omega
  refine ⟨by rw [hz, r1]; show _ = _ + (hNX h + 1); omega, fun x hx => by rw [ho x (by omega)]; exact r2 x hx, fun b c hb1 h13 h10 => ?_, fun b hb1 => ?_, fun b hb1 => ?_, hb, r7, r8⟩
  · have hb1 : hK h b = c + 1 := hb1
    obtain ⟨q1, g1, g2⟩ := r3 b c hb1 h13 h10
    exact ⟨q1, g1, g2.kept (ho _ (hea b (by omega)))⟩
  · have hb1 : 50 ≤ hK h b := hb1
    obtain ⟨v, hv, g⟩ := r4 b hb1
    refine ⟨v, hv, ?_⟩
    rw [ho _ (hea b (by omega))]
    exact g
  · have hb1 : hK h b ≠ 0 := hb1
    rcases r5 b hb1 with ⟨g, g2⟩ | g
    · exact Or.inl ⟨Nat.lt_succ_of_lt g, g2⟩
    · exact Or.inr g
set_option maxRecDepth 100000 in
theorem ax_g : ∀ w ∈ (vx_at0 "ThirstHours" 293 ax_X ax_NM).filter goodWord, w ∈ am_TB := am_inTB [140, 1331, 1340, 1342, 1345, 1347, 1332, 1333, 150, 151, 1334, 1339, 1343, 1359, 1321, 1360, 1323, 1361, 1325, 1335, 1337, 1327, 1349, 1350, 1351, 1352, 1352, 1353, 1354, 1355, 1355, 1356, 1357, 1332, 1348, 1310, 1318, 1319, 1320, 1322, 1324, 1326, 1330, 1329, 1328] rfl rfl
theorem ax_ng : ∀ w ∈ (vx_at0 "ThirstHours" 293 ax_X ax_NM).filter (fun w => !goodWord w), w ∈ ax_L := by decide +kernel
theorem ax_ot : ∀ w ∈ Cond.classLink "ThirstHours" 291 ax_X :: Cond.initialized ax_X :: vx_at0 "ThirstHours" 293 ax_X ax_NM, vx_ot w = true := List.all_eq_true.mp (by decide +kernel)
set_option maxRecDepth 100000 in
theorem ax_clk : ∀ w ∈ [Cond.classLink "ThirstHours" 291 ax_X, Cond.initialized ax_X, Cond.classLink RL 13 ax_X], w ∈ am_TB := am_inTB [1309, 143, 1304] rfl rfl
def lk_XR : List Cond := [(Jvm.Cond.fieldLink "ThirstHours" (28 : Nat) "ThirstHours" "post" "LThirstHours$Post;"), (Jvm.Cond.methodLink "ThirstHours" (207 : Nat) ({ cls := "ThirstHours$Post", name := "isPlace", desc := "(I)Z" } : Jvm.MethodName)), (Jvm.Cond.fieldLink "ThirstHours" (80 : Nat) "ThirstHours" "choice" "LThirstHours$Choice;"), (Jvm.Cond.fieldLink "ThirstHours" (45 : Nat) "ThirstHours" "now" "LThirstHours$Store;"), (Jvm.Cond.fieldLink "ThirstHours" (103 : Nat) "ThirstHours$Store" "state" "LThirstHours$State;"), (Jvm.Cond.methodLink "ThirstHours" (294 : Nat) ({ cls := "ThirstHours$Choice", name := "restingPrices", desc := "(LThirstHours$Post;LThirstHours$State;III)I" } : Jvm.MethodName))]
set_option maxRecDepth 100000 in
theorem lk_XR_in : ∀ w ∈ lk_XR, w ∈ am_TB := am_inTB [575, 957, 586, 578, 480, 1370] rfl rfl
def cd_XR : List CE := cd_155.filter (fun x => !(Nat.beq x.1 32 || Nat.beq x.1 36 || Nat.beq x.1 39 || Nat.beq x.1 68 || Nat.beq x.1 72 || Nat.beq x.1 75))
set_option maxRecDepth 100000 in
theorem ne_XR : ∀ w ∈ cd_XR.flatMap (am_need RX11 am_MT []), w ∈ am_TB := am_inL lk_XR_in [0, 1, 0, 1, 2, 0, 3, 4, 5] rfl
set_option maxRecDepth 100000 in
theorem nn_XR : ∀ w ∈ cd_XR.flatMap (am_needN RX11 am_MT []), w ∈ am_NB := am_inNB [] rfl rfl
theorem mo_XR : ∀ x ∈ (PG 155).1, ((((x.1 ≠ 32 ∧ x.1 ≠ 36) ∧ x.1 ≠ 39) ∧ x.1 ≠ 68) ∧ x.1 ≠ 72) ∧ x.1 ≠ 75 → decode prog_1_method_32_code x.1 = .ok (x.2.2.2, x.2.1) ∧ am_ok RX11 false am_TB am_MT x.1 x.2.1 x.2.2.1 x.2.2.2 ∧ am_rok (some .int) x.2.1 x.2.2.1 x.2.2.2 := by
  intro x hx h9
  have h3 : cd_XR.all (fun x => decide (decode prog_1_method_32_code x.1 = .ok (x.2.2.2, x.2.1))) = true := by decide +kernel
  have h5 : cd_XR.all (fun x => am_okb false RX11 am_mk x && am_rokb (some .int) x) = true := by decide +kernel
  have hx : x ∈ cd_XR := by
    refine List.mem_filter.mpr ⟨by rw [hp_155] at hx; exact hx, ?_⟩
    have hb : ∀ k, x.1 ≠ k → Nat.beq x.1 k = false := fun k hk => by
      cases hz : Nat.beq x.1 k with
      | false => rfl
      | true => exact absurd (Nat.eq_of_beq_eq_true hz) hk
    have ⟨⟨⟨⟨⟨a0, a1⟩, a2⟩, a3⟩, a4⟩, a5⟩ := h9
    show (!(Nat.beq x.1 32 || Nat.beq x.1 36 || Nat.beq x.1 39 || Nat.beq x.1 68 || Nat.beq x.1 72 || Nat.beq x.1 75)) = true
    rw [hb 32 a0, hb 36 a1, hb 39 a2, hb 68 a3, hb 72 a4, hb 75 a5]
    rfl
  have g3 := List.all_eq_true.mp h3 x hx
  have g5 := List.all_eq_true.mp h5 x hx
  simp only [Bool.and_eq_true] at g5
  have h4 := ne_XR
  have h4n := nn_XR
  obtain ⟨pc, len, aux, i⟩ := x
  exact ⟨of_decide_eq_true g3, am_ok_of am_hmf (fun w hw => h4 w (List.mem_flatMap.mpr ⟨_, hx, hw⟩)) (fun w hw => h4n w (List.mem_flatMap.mpr ⟨_, hx, hw⟩)) g5.1, am_rok_of g5.2⟩
def ax_y : MethodName := ⟨RX11, "rests", "(III)I"⟩
def ax_w : Cond := .code ax_y prog_1_method_32_code 5 (some .int)
def ax_t (r : Res) : Nat := match r.1 with
  | some (.double _) => 1
  | _ => 0
def ax_Q (E : AE) (r : Res) : Array Value → State → Outcome → State → Prop := fun a st o t => am_Qc E r.1 r.2 a st o t ∧ ∃ v : Int32, r.1 = some (.int v)
def ax_C (E : AE) (r : Res) : String → State → State → Prop := fun nm _ t => nm = ax_X ∧ (∃ v, r.1 = some (.double v)) ∧ ∃ H : Heap, am_Rel E r.2 H ∧ H.size + 1 ≤ t.heap.size ∧ ∀ q : Nat, q < H.size → t.heap[q]? = H[q]?
theorem ax_run_W {E : AE} {l : Launch} {p : Program} {e : Env} {s : State} {m : MethodId} {args : Array Value} {below : List Frame} {meth : Method} {c : Code} {h0 : AH} {n0 d : Nat} (htr : l.stackTraces = false) (h8 : 8 ≤ d) (hx : p.tables.exec = Jvm.exec) (hb : c.code = prog_1_method_32_code) (hown : s.vm.findClass RX11 = some m.cls) (hts : ∀ w ∈ am_TB, w.before args s = true) (hKX : am_KX E s) (hr0 : meth.sig.returnType = some .int) (hlk : meth.locks = false) (hR0 : am_Rel E h0 s.heap) (hz0 : s.heap.size = E.1 + n0) (hex : ∀ x ∈ c.exceptionTable.toList, False) :
    ∀ (n pc : Nat) (lv : LV) (st : List Value) (h : AH) (r : Res), am_run PG n d 155 pc lv st h = some r → hNX r.2 + ax_t r ≤ 1000000 →
      am_W p l e (am_rm d (hNX r.2 - n0 + ax_t r)) s m args below meth c (vx_MQ below (ax_Q E r) (ax_C E r) args s (hNX r.2 - n0 + ax_t r) (2048 * (hNX r.2 - n0 + ax_t r)) (fun q => E.1 ≤ q)) E n0 pc lv st h
  | 0, pc, lv, st, h, r, hr => by cases hr
  | n + 1, pc, lv, st, h, r, hr => by
    intro hN
    have ih := ax_run_W (e := e) (below := below) (h0 := h0) htr h8 hx hb hown hts hKX hr0 hlk hR0 hz0 hex n
    by_cases h32 : pc = 32 ∨ pc = 68
    · have hr' : r = (some (.double 0), h) ∧ st = [] := by
        rcases h32 with rfl | rfl
        · unfold am_run at hr
          rw [show am_fetch (PG 155).1 32 = some (32, 3, 0, .new 291) from rfl] at hr
          dsimp only [stp] at hr
          unfold am_th at hr
          split at hr
          · cases hr; exact ⟨rfl, rfl⟩
          · cases hr
        · unfold am_run at hr
          rw [show am_fetch (PG 155).1 68 = some (68, 3, 0, .new 291) from rfl] at hr
          dsimp only [stp] at hr
          unfold am_th at hr
          split at hr
          · cases hr; exact ⟨rfl, rfl⟩
          · cases hr
      obtain ⟨rfl, rfl⟩ := hr'
      intro H locs ls hR hl hn hL hN0
      have hat : ∀ w ∈ vx_at0 "ThirstHours" 293 ax_X ax_NM, w.before args s = true := vx_hat (B := ax_L) (fun w hw => hts w (ax_g w hw)) ax_ng (fun w hw => by
        obtain ⟨a1, a2, a3, a4⟩ := ax_all hKX.2.1
        exact ax_to (P := fun w => w.before args s = true) ⟨va_Nw.use rfl a1, va_Nw.use rfl a2, va_Nw.use rfl a3, va_Nw.use rfl a4⟩ w hw)
      have hkp : ∀ a : Nat, a < E.2.2.2.2.size → ¬ (fun q => E.1 ≤ q) a → s.heap[a]? = E.2.2.2.2[a]? := fun a _ h1 => hR0.2.1 a (by dsimp only at h1; omega)
      have hS : va_S (fun q => E.1 ≤ q) s.heap H locs := ⟨by rw [hz0, hR.1]; omega, fun q _ h1 => by dsimp only at h1; rw [hR.2.1 q (by omega), hR0.2.1 q (by omega)], hL⟩
      have key : ∀ k, decode prog_1_method_32_code k = .ok (.new 291, 3) → decode prog_1_method_32_code (k + 3) = .ok (.dup, 1) → decode prog_1_method_32_code (k + 4) = .ok (.invokespecial 293, 3) → decode prog_1_method_32_code (k + 7) = .ok (.athrow, 1) →
          W p l e (am_rm d (hNX h - n0 + 1)) s m args below meth c H locs (hNX h - n0) (2048 * (hNX h - n0)) (vx_MQ below (ax_Q E (some (.double 0), h)) (ax_C E (some (.double 0), h)) args s (hNX h - n0 + 1) (2048 * (hNX h - n0 + 1)) (fun q => E.1 ≤ q)) (F0 m k ls []) := by
        intro k d0 d3 d4 d7
        refine vy_throw0 (own := "ThirstHours") (cls := ax_X) (names := ax_NM) (ik := 291) (ic := 293) (A := fun q => E.1 ≤ q) hx hb htr hown (by decide) (by decide) (hts _ (ax_clk _ (List.mem_of_getElem? (i := 0) rfl))) (hts _ (ax_clk _ (List.mem_of_getElem? (i := 1) rfl))) hat ax_ot (hKX.2.2.1.kept hkp) (hKX.2.2.2.kept hkp) hS (by rw [hl.1]) d0 d3 d4 d7 (fun x hx => absurd hx (fun h => hex x h)) ?_ ?_ ?_ ?_ hlk ?_ hL ?_ ?_
        · show 2 + 3 < d + 1; omega
        · show 0 + (13 * (2 + 1) + 42) ≤ 64 * (d + 1); omega
        · exact Nat.le_refl _
        · show 2048 * (hNX h - n0) + 6 ≤ 2048 * (hNX h - n0 + 1); omega
        · intro t _ q2 q3
          exact ⟨rfl, ⟨0, rfl⟩, H, hR, q2, q3⟩
        · exact Nat.le_refl _
        · omega
      rcases h32 with rfl | rfl
      · exact key 32 (by decide +kernel) (by decide +kernel) (by decide +kernel) (by decide +kernel)
      · exact key 68 (by decide +kernel) (by decide +kernel) (by decide +kernel) (by decide +kernel)
    · have h36 : pc ≠ 36 ∧ pc ≠ 39 ∧ pc ≠ 72 ∧ pc ≠ 75 := by
        refine ⟨?_, ?_, ?_, ?_⟩
        · rintro rfl
          unfold am_run at hr
          rw [show am_fetch (PG 155).1 36 = some (36, 3, 0, .invokespecial 293) from rfl] at hr
          have hr : am_call (am_cn PG n d) 0 true st h (fun r h1 => am_run PG n d 155 (36 + 3) (am_msk (PG 155).2.1 (36 + 3) lv) r h1) = some r := hr
          obtain ⟨as, u, rv, h1, g1, g2, g3, g4, g5, g6⟩ := am_call_inv (x := 0) hr
          obtain ⟨a, As, rfl, -⟩ := g6 rfl
          cases g2
        · rintro rfl
          unfold am_run at hr
          rw [show am_fetch (PG 155).1 39 = some (39, 1, 0, .athrow) from rfl] at hr
          cases hr
        · rintro rfl
          unfold am_run at hr
          rw [show am_fetch (PG 155).1 72 = some (72, 3, 0, .invokespecial 293) from rfl] at hr
          have hr : am_call (am_cn PG n d) 0 true st h (fun r h1 => am_run PG n d 155 (72 + 3) (am_msk (PG 155).2.1 (72 + 3) lv) r h1) = some r := hr
          obtain ⟨as, u, rv, h1, g1, g2, g3, g4, g5, g6⟩ := am_call_inv (x := 0) hr
          obtain ⟨a, As, rfl, -⟩ := g6 rfl
          cases g2
        · rintro rfl
          unfold am_run at hr
          rw [show am_fetch (PG 155).1 75 = some (75, 1, 0, .athrow) from rfl] at hr
          cases hr
      have m3 := mo_XR
      unfold am_run at hr
      split at hr
      · cases hr
      · rename_i x hf
        obtain ⟨f1, f2⟩ := am_fetch_mem _ _ _ hf
        obtain ⟨k1, k2, k3⟩ := m3 x f1 (by rw [f2]; exact ⟨⟨⟨⟨⟨fun z => h32 (Or.inl z), h36.1⟩, h36.2.1⟩, fun z => h32 (Or.inr z)⟩, h36.2.2.1⟩, h36.2.2.2⟩)
        obtain ⟨pc1, len, aux, i⟩ := x
        cases f2
        refine stp_sound (d := d) (MT := am_MT) (ini := false) hx hb hts am_hgd hown hKX.1 am_cokTB (fun hz => by cases hz) k1 k2 (by show 1 ≤ d + 1; omega) (by show 64 ≤ 64 * (d + 1); omega) (fun _ => ⟨Nat.le_refl _, Nat.le_refl _⟩) ?_ ?_ ?_ ?_ ⟨by show hNX r.2 - n0 ≤ hNX r.2 - n0 + ax_t r; omega, by show 2048 * (hNX r.2 - n0) ≤ 2048 * (hNX r.2 - n0 + ax_t r); omega, by omega⟩ hr (fun hT => ?_)
        · intro mid1 as h1 rv h2 q1 q2 q3
          cases d with
          | zero => cases q3
          | succ d =>
            refine ⟨Nat.succ_ne_zero d, ?_⟩
            rw [Nat.add_sub_cancel]
            exact am_Met_of (r := (rv, h2)) (am_run_W am_hall am_hgd am_cokTB n) am_hall q1 q3 q2
        · intro mid1 as h1
          cases d with
          | zero => exact am_nx.no _
          | succ d => exact am_fitA_nx (am_run_nx PG n _ _ _ _ _ _)
        · intro pc2 lv2 st2 h2 q
          exact am_W.mask _ (ih _ _ _ _ r q hN)
        · intro pc2 lv2 st2 h2
          exact am_run_nx PG n _ _ _ _ _ _
        · intro H locs ls hR hl hn hL hNn
          cases i
          case ireturn =>
            obtain ⟨hl1, hok⟩ := k3
            cases hl1
            dsimp only [stp] at hr
            split at hr
            · rename_i v
              obtain ⟨g1, g2, -⟩ := am_nar_inv hr
              cases g1
              exact vx_ret (W.iret hx hb hr0 (fun t ht _ => ⟨⟨rfl, by rw [ht]; exact hR⟩, v, rfl⟩) hL k1 hlk)
            · cases hr
          case lreturn => exact absurd k3.2 (by decide)
          case areturn =>
            obtain ⟨-, z, hz⟩ := k3
            cases hz
          case return_ => exact absurd k3.2 (by decide)
          case new => exact absurd (by simpa [am_isT] using hT) k3
          all_goals (cases hT)
def ax_Pc (E : AE) (as : List Value) (h : AH) : Array Value → State → Prop := fun a U => a = (as.map (eg E)).toArray ∧ U.heap.size = E.1 + hNX h ∧ am_Rel E h U.heap ∧ am_KX E U
theorem ax_blind {E : AE} {as : List Value} {h : AH} : FrameBlind (ax_Pc E as h) := fun a U g mk q => ⟨q.1, q.2.1, q.2.2.1, am_KX.same (u := U) (U := U.calling g mk a) rfl q.2.2.2⟩
theorem ax_Met {E : AE} {l : Launch} (htr : l.stackTraces = false) {n d : Nat} (h8 : 8 ≤ d) {as : List Value} {h : AH} {r : Res} (hr : am_fitA as 5 (am_run PG n d 155 0 (am_ent as 5) [] h) = some r) (hN : hNX r.2 + ax_t r ≤ 1000000) :
    vx_Met l ax_y (ax_w :: am_TB) (am_rm d (hNX r.2 - hNX h + ax_t r)) (ax_Pc E as h) (ax_Q E r) (ax_C E r) (hNX r.2 - hNX h + ax_t r) (2048 * (hNX r.2 - hNX h + ax_t r)) (fun q => E.1 ≤ q) := by
  unfold am_fitA at hr
  split at hr
  · rename_i hf
    have hf := Nat.le_of_ble_eq_true hf
    refine vx_ofW (cc := prog_1_method_32_code) (maxL := 5) (ret := some .int) (by decide) rfl ?_
    intro p e s m args below meth c s₁ B hml hex hv
    obtain ⟨rfl, hsz, hR, hKX⟩ := hv
    have hts := atoms_spec (ws := ax_w :: am_TB) B.pre
    have hl := lv_entry (as.map (eg E)) (n := 5) (by rw [am_len_ent]; exact hf)
    rw [lg_entry_eq]
    generalize (lg_sl (as.map (eg E)) ++ List.replicate (5 - (lg_sl (as.map (eg E))).length) Slot.unset).toArray = ls at hl ⊢
    have w := ax_run_W (E := E) (e := e) (below := below) (args := (as.map (eg E)).toArray) (n0 := hNX h) htr h8 B.exec B.bytes (findClass_of_methodNamed B.named) (fun w hw => hts w (List.mem_cons_of_mem _ hw)) hKX B.returns B.notSynchronized hR hsz hex n 0 _ [] h r hr hN s.heap [] ls hR
      (by rw [hml]; unfold am_ent; rw [am_lvl_none, am_lvl_ent]; exact hl) (by rw [hml]; unfold am_ent; simp; omega) (fun q hq => by cases hq) (Nat.le_refl _)
    rw [Nat.sub_self, Nat.mul_zero] at w
    exact w
  · cases hr
theorem am_callX_inv {call : Nat → List Value → AH → Option Res} {x : Nat} {st : List Value} {h : AH} {f g : List Value → AH → Option Res} {r : Res} (hh : am_callX call x st h f g = some r) : ∃ a As u, st = (Value.ref a :: As).reverse ++ u ∧ As.length + 1 = x / 8 % 32 ∧ am_cat u ≤ 8 ∧ hK h a = x / 256 % 64 ∧
    ((∃ v h1, call (x / 16384 % 4096) (.ref a :: As) h = some (some (.int v), h1) ∧ f (.int v :: u) h1 = some r) ∨ (∃ v h1, call (x / 16384 % 4096) (.ref a :: As) h = some (some (.double v), h1) ∧ g [.ref (hNX h1)] (nXcp h1) = some r)) := by
  unfold am_callX at hh
  split at hh
  · cases hh
  · rename_i as u e1
    obtain ⟨xs, g1, g2, g3⟩ := takeA_spec _ _ _ _ _ e1
    rw [List.append_nil] at g1
    subst g1
    split at hh
    · rename_i a As
      obtain ⟨h8, hh⟩ := am_r8_inv hh
      obtain ⟨h9, hh⟩ := am_kd_inv hh
      refine ⟨a, As, u, g2, g3, h8, h9, ?_⟩
      unfold bX at hh
      split at hh
      · rename_i v h1 e2
        exact Or.inl ⟨v, h1, e2, hh⟩
      · rename_i v h1 e2
        exact Or.inr ⟨v, h1, e2, hh⟩
      · cases hh
    · cases hh
def cd_LR : List CE := cd_273.filter (fun x => !(Nat.beq x.1 7))
set_option maxRecDepth 100000 in
theorem ne_LR : ∀ w ∈ cd_LR.flatMap (am_need RL am_MT []), w ∈ am_TB := am_inTB [] rfl rfl
set_option maxRecDepth 100000 in
theorem nn_LR : ∀ w ∈ cd_LR.flatMap (am_needN RL am_MT []), w ∈ am_NB := am_inNB [] rfl rfl
theorem mo_LR : ∀ x ∈ (PG 273).1, x.1 ≠ 7 → decode method_3_code x.1 = .ok (x.2.2.2, x.2.1) ∧ am_ok RL false am_TB am_MT x.1 x.2.1 x.2.2.1 x.2.2.2 ∧ am_rok (some .int) x.2.1 x.2.2.1 x.2.2.2 := by
  intro x hx h9
  have h3 : cd_LR.all (fun x => decide (decode method_3_code x.1 = .ok (x.2.2.2, x.2.1))) = true := by decide +kernel
  have h5 : cd_LR.all (fun x => am_okb false RL am_mk x && am_rokb (some .int) x) = true := by decide +kernel
  have hx : x ∈ cd_LR := by
    refine List.mem_filter.mpr ⟨by rw [hp_273] at hx; exact hx, ?_⟩
    have hb : ∀ k, x.1 ≠ k → Nat.beq x.1 k = false := fun k hk => by
      cases hz : Nat.beq x.1 k with
      | false => rfl
      | true => exact absurd (Nat.eq_of_beq_eq_true hz) hk
    have a0 := h9
    show (!(Nat.beq x.1 7)) = true
    rw [hb 7 a0]
    rfl
  have g3 := List.all_eq_true.mp h3 x hx
  have g5 := List.all_eq_true.mp h5 x hx
  simp only [Bool.and_eq_true] at g5
  have h4 := ne_LR
  have h4n := nn_LR
  obtain ⟨pc, len, aux, i⟩ := x
  exact ⟨of_decide_eq_true g3, am_ok_of am_hmf (fun w hw => h4 w (List.mem_flatMap.mpr ⟨_, hx, hw⟩)) (fun w hw => h4n w (List.mem_flatMap.mpr ⟨_, hx, hw⟩)) g5.1, am_rok_of g5.2⟩
def ay_y : MethodName := ⟨RL, "rests", "(LThirstHours;III[J)I"⟩
def ay_w : Cond := .codeWith ay_y method_3_code 6 (some .int) [(0, 12, 15, 13)]
set_option maxRecDepth 100000 in
theorem ay_ws : ∀ w ∈ [ax_w, Cond.initialized RX11, Cond.methodLink RL 7 ax_y, Cond.instanceMethod ax_y, Cond.selects RX11 ax_y ax_y, ay_w, Cond.initialized RL, Cond.static ay_y, Cond.methodLink RL 137 ay_y], w ∈ am_TB := am_inTB [1308, 124, 1305, 1306, 1307, 1303, 123, 1302, 1301] rfl rfl
theorem ay_in {k : Nat} {w : Cond} (h : [ax_w, Cond.initialized RX11, Cond.methodLink RL 7 ax_y, Cond.instanceMethod ax_y, Cond.selects RX11 ax_y ax_y, ay_w, Cond.initialized RL, Cond.static ay_y, Cond.methodLink RL 137 ay_y][k]? = some w) : w ∈ am_TB := ay_ws _ (List.mem_of_getElem? h)
theorem ay_hand {n d : Nat} {lv : LV} {q : Nat} {h : AH} {r : Res} (hr : am_run PG n d 273 15 lv [.ref q] h = some r) : r = (some (.int 1), h) := by
  cases n with
  | zero => cases hr
  | succ n =>
    unfold am_run at hr
    rw [show am_fetch (PG 273).1 15 = some (15, 2, 0, .astore 5) from rfl] at hr
    dsimp only [stp] at hr
    obtain ⟨v, t, e1, hr⟩ := pR_inv hr
    cases e1
    obtain ⟨lv1, hr, -⟩ := am_st1_spec _ _ _ _ _ hr
    cases n with
    | zero => cases hr
    | succ n =>
      unfold am_run at hr
      rw [show am_fetch (PG 273).1 (15 + 2) = some (17, 1, 1, .iconst 1) from rfl] at hr
      dsimp only [stp] at hr
      cases n with
      | zero => cases hr
      | succ n =>
        unfold am_run at hr
        rw [show am_fetch (PG 273).1 (17 + 1) = some (18, 1, 0, .ireturn) from rfl] at hr
        dsimp only [stp] at hr
        obtain ⟨g1, -⟩ := am_nar_inv hr
        cases g1
        rfl
theorem ay_run_W {E : AE} {l : Launch} {p : Program} {e : Env} {s : State} {m : MethodId} {args : Array Value} {below : List Frame} {meth : Method} {c : Code} {n0 d : Nat} (htr : l.stackTraces = false) (h9 : 9 ≤ d) (hx : p.tables.exec = Jvm.exec) (hb : c.code = method_3_code) (hml : c.maxLocals = 6) (hown : s.vm.findClass RL = some m.cls) (hts : ∀ w ∈ am_TB, w.before args s = true) (hKX : am_KX E s) (hr0 : meth.sig.returnType = some .int) (hlk : meth.locks = false) (hz0 : s.heap.size = E.1 + n0) (htb : c.exceptionTable.toList = tableOf [(0, 12, 15, 13)]) :
    ∀ (n pc : Nat) (lv : LV) (st : List Value) (h : AH) (r : Res), am_run PG n d 273 pc lv st h = some r → hNX r.2 ≤ 1000000 →
      am_W p l e (am_rm d (hNX r.2 - n0)) s m args below meth c (MQ below (am_Qc E r.1 r.2) args s (hNX r.2 - n0) (2048 * (hNX r.2 - n0)) (fun q => E.1 ≤ q)) E n0 pc lv st h
  | 0, pc, lv, st, h, r, hr => by cases hr
  | n + 1, pc, lv, st, h, r, hr => by
    intro hN
    have ih := ay_run_W (e := e) (below := below) htr h9 hx hb hml hown hts hKX hr0 hlk hz0 htb n
    by_cases h7 : pc = 7
    · subst h7
      unfold am_run at hr
      rw [show am_fetch (PG 273).1 7 = some (7, 3, 1009175588, .invokevirtual 7) from rfl] at hr
      have hr : am_callX (am_cn PG n d) 1009175588 st h (fun r h1 => am_run PG n d 273 (7 + 3) (am_msk (PG 273).2.1 (7 + 3) lv) r h1) (fun r h1 => am_run PG n d 273 (1009175588 / 67108864) (am_msk (PG 273).2.1 (1009175588 / 67108864) lv) r h1) = some r := hr
      obtain ⟨a, As, u, g1, g2, g3, g4, g5⟩ := am_callX_inv hr
      obtain ⟨d, rfl⟩ : ∃ k, d = k + 1 := ⟨d - 1, by omega⟩
      obtain ⟨rr, g6, g7⟩ : ∃ rr : Res, am_fitA (.ref a :: As) 5 (am_run PG n d 155 0 (am_ent (.ref a :: As) 5) [] h) = some rr ∧
          ((∃ v, rr.1 = some (.int v) ∧ am_run PG n (d + 1) 273 10 (am_msk (PG 273).2.1 10 lv) (.int v :: u) rr.2 = some r) ∨ (∃ v, rr.1 = some (.double v) ∧ am_run PG n (d + 1) 273 15 (am_msk (PG 273).2.1 15 lv) [.ref (hNX rr.2)] (nXcp rr.2) = some r)) := by
        rcases g5 with ⟨v, h1, q1, q2⟩ | ⟨v, h1, q1, q2⟩
        · exact ⟨_, q1, Or.inl ⟨v, rfl, q2⟩⟩
        · exact ⟨_, q1, Or.inr ⟨v, rfl, q2⟩⟩
      have n1 : hNX h ≤ hNX rr.2 := am_fitA_nx (am_run_nx PG n _ _ _ _ _ _) _ g6
      have n2 : hNX rr.2 + ax_t rr ≤ hNX r.2 := by
        rcases g7 with ⟨v, q1, q2⟩ | ⟨v, q1, q2⟩
        · have := am_run_nx PG n _ _ _ _ _ _ _ q2
          unfold ax_t; rw [q1]; exact this
        · have := am_run_nx PG n _ _ _ _ _ _ _ q2
          unfold ax_t; rw [q1]; exact this
      have hM := ax_Met (E := E) htr (by omega) g6 (by omega)
      intro H locs ls hR hl hn hL hN0
      have g4 : hK h a = 11 + 1 := g4
      have he := (hR.live (a := a) (by omega)).2
      obtain ⟨q', hq', cell, c1, c2, c3, -⟩ := hR.2.2.1 a 11 g4 (by decide) (by decide)
      have hcl11 : am_cls[11]? = some (RX11, TX11, 14) := rfl
      have hd7 : decode method_3_code 7 = .ok (.invokevirtual 7, 3) := by decide +kernel
      have hd15 : decode method_3_code 15 = .ok (.astore 5, 2) := by decide +kernel
      have hd17 : decode method_3_code 17 = .ok (.iconst 1, 1) := by decide +kernel
      have hd18 : decode method_3_code 18 = .ok (.ireturn, 1) := by decide +kernel
      have run := vx_runV (H := H) (locs := locs) (cells := hNX h - n0) (slots := 2048 * (hNX h - n0)) (R := am_rm (d + 1) (hNX r.2 - n0)) (p := p) (e := e) (below := below) (meth := meth) (g := F0 m 7 ls (st.map (eg E))) (C := RX11) (b := ea E a) (As := As.map (eg E)) (rest := u.map (eg E)) ⟨hx, hb, rfl, hown, hts⟩ hM ⟨am_cB hts am_hgd (ay_in (k := 0) rfl) (ay_in (k := 1) rfl) (ay_in (k := 2) rfl) (nn := As.length) ⟨by decide, by decide, by rw [show As.length = 3 from Nat.succ.inj g2]; rfl⟩ (by decide) (Nat.le_refl _) (Nat.le_refl _), hts _ (ay_in (k := 3) rfl), hts _ (ay_in (k := 4) rfl)⟩
        ⟨ax_blind, ⟨cell, c1, by rw [c3]; rfl, by rw [c2]; exact (hKX.1.1.1 11 _ hcl11).2.1⟩, fun U hU hW => ⟨by rw [List.map_cons, he], by rw [hU]; exact hR.1, by rw [hU]; exact hR, hKX.moved hW⟩⟩ rfl (List.length_map ..) hl.1 (by
          show List.map (eg E) st = _
          rw [g1, List.map_append, List.map_reverse, List.map_cons, he, List.reverse_cons, List.append_assoc]
          rfl) (lv_room (by rw [am_cat_eq]; exact g3)) hd7 ⟨by show hNX h - n0 + (hNX rr.2 - hNX h + ax_t rr) ≤ hNX r.2 - n0; omega, by show 2048 * (hNX h - n0) + 2048 * (hNX rr.2 - hNX h + ax_t rr) ≤ 2048 * (hNX r.2 - n0); omega⟩
      intro T hT X
      rcases g7 with ⟨v, q1, q2⟩ | ⟨v, q1, q2⟩
      · have ht0 : ax_t rr = 0 := by unfold ax_t; rw [q1]
        rcases run T hT X with ⟨v', st₀, t, T', L, h0, X', hL1, e1, e2, ⟨⟨hv, hb'⟩, -⟩, sp⟩ | ⟨q, st₀, t, T', L, nm, ce, h0, X', hL1, e1, e2, ⟨-, ⟨w, hw⟩, -⟩, -⟩
        · cases hv
          rw [← e1] at hb'
          have w := am_W.mask _ (ih _ _ _ _ r q2 hN) T'.heap (locs ++ L) ls hb' hl hn (fun q hq => by
            rcases List.mem_append.mp hq with hq | hq
            · exact hL q hq
            · exact hL1 q hq) (Nat.le_trans hN0 n1)
          rw [ht0, Nat.add_zero] at X'
          rw [show hNX rr.2 - n0 = hNX h - n0 + (hNX rr.2 - hNX h) by omega, Nat.mul_add] at w
          obtain ⟨t2, a1, b1⟩ := w T' rfl X'
          refine ⟨t2, sp t2 ?_, b1⟩
          rw [q1]
          exact a1
        · rw [q1] at hw; cases hw
      · have ht1 : ax_t rr = 1 := by unfold ax_t; rw [q1]
        rcases run T hT X with ⟨v', st₀, t, T', L, h0, X', hL1, e1, e2, ⟨-, ⟨w, hw⟩⟩, sp⟩ | ⟨q, st₀, t, T', L, nm, ce, h0, X', hL1, e1, e2, ⟨rfl, -, H1, hR1, hz1, hk1⟩, hce, hcv, hcl, sp⟩
        · rw [q1] at hw; cases hw
        · have hrr := ay_hand q2
          have hs1 := X'.heapSize
          rw [hz0, ht1] at hs1
          rw [← e1] at hz1 hk1 hce
          have hz2 : T'.heap.size = H1.size + 1 := by have := hR1.1; omega
          have hNr : hNX r.2 = hNX rr.2 + 1 := by rw [hrr]; rfl
          have hRx : am_Rel E (nXcp rr.2) T'.heap := hR1.xcp (by omega) hz2 hk1
          obtain ⟨a1, -⟩ := ax_all hKX.2.1
          have hLL : ∀ q ∈ locs ++ L, E.1 ≤ q.base := fun q hq => by
            rcases List.mem_append.mp hq with hq | hq
            · exact hL q hq
            · exact hL1 q hq
          have kk : vx_W p l e (am_rm (d + 1) (hNX r.2 - n0)) s m args below meth c T'.heap (locs ++ L) (hNX h - n0 + (hNX rr.2 - hNX h + ax_t rr)) (2048 * (hNX h - n0) + 2048 * (hNX rr.2 - hNX h + ax_t rr)) (MQ below (am_Qc E r.1 r.2) args s (hNX r.2 - n0) (2048 * (hNX r.2 - n0)) (fun q => E.1 ≤ q)) (F0 m 7 ls (u.map (eg E))) q := by
            refine vx_catch (own := RL) (name := ax_X) (E := ax_X) hown [] ⟨0, 12, 15, 13⟩ [] htb (fun z hz => by cases hz) (by decide) (by decide) (hts _ (ax_clk _ (List.mem_of_getElem? (i := 2) rfl))) (va_Nw.use rfl a1) hce hcv hcl ?_
            refine W.widen (k := hNX r.2 - n0) (n := 2048 * (hNX r.2 - n0)) (by omega) (by omega) ?_
            refine lv_astore hx hb hd15 hl (by rw [hml]; decide) rfl (fun ls' hl' => ?_)
            refine lv_iconst hx hb (v := 1) hd17 rfl ?_
            refine W.iret hx hb hr0 (fun t ht _ => ?_) hLL hd18 hlk
            rw [hrr]
            exact ⟨rfl, by rw [ht]; exact hRx⟩
          obtain ⟨t2, b1, b2⟩ := kk T' rfl X'
          exact ⟨t2, sp.trans b1, b2⟩
    · have m3 := mo_LR
      unfold am_run at hr
      split at hr
      · cases hr
      · rename_i x hf
        obtain ⟨f1, f2⟩ := am_fetch_mem _ _ _ hf
        obtain ⟨k1, k2, k3⟩ := m3 x f1 (by rw [f2]; exact h7)
        obtain ⟨pc1, len, aux, i⟩ := x
        cases f2
        refine stp_sound (d := d) (MT := am_MT) (ini := false) hx hb hts am_hgd hown hKX.1 am_cokTB (fun hz => by cases hz) k1 k2 (by show 1 ≤ d + 1; omega) (by show 64 ≤ 64 * (d + 1); omega) (fun _ => ⟨Nat.le_refl _, Nat.le_refl _⟩) ?_ ?_ ?_ ?_ ⟨Nat.le_refl _, Nat.le_refl _, hN⟩ hr (fun hT => am_ends hx hb hlk hr0 k1 k3 hr hT)
        · intro mid1 as h1 rv h2 q1 q2 q3
          cases d with
          | zero => cases q3
          | succ d =>
            refine ⟨Nat.succ_ne_zero d, ?_⟩
            rw [Nat.add_sub_cancel]
            exact am_Met_of (r := (rv, h2)) (am_run_W am_hall am_hgd am_cokTB n) am_hall q1 q3 q2
        · intro mid1 as h1
          cases d with
          | zero => exact am_nx.no _
          | succ d => exact am_fitA_nx (am_run_nx PG n _ _ _ _ _ _)
        · intro pc2 lv2 st2 h2 q
          exact am_W.mask _ (ih _ _ _ _ r q hN)
        · intro pc2 lv2 st2 h2
          exact am_run_nx PG n _ _ _ _ _ _
theorem am_ofWH {l : Launch} {y : MethodName} {ws ws' : List Cond} {rm : Room} {Pc : Array Value → State → Prop} {Qc : Array Value → State → Outcome → State → Prop} {mc ms : Nat} {free : Addr → Prop} {cc : ByteArray} {maxL : Nat} {ret : Option FieldType} {hh : List (Nat × Nat × Nat × Nat)}
    (hy : plainName y.cls = true) (hw : ws = Cond.codeWith y cc maxL ret hh :: ws')
    (body : ∀ p e s m args below meth c s₁, BodyLoose p l y (headSpec ws rm) cc maxL ret e s m args below meth c s₁ → c.maxLocals = maxL → Pc args s →
      W p l e (headSpec ws rm).room s m args below meth c s.heap [] 0 0 (MQ below Qc args s mc ms free) (entryFrame m args maxL)) : Met l y ws rm Pc Qc mc ms free := by
  refine MetFree.of_bodyS (code := cc) (maxLocals := maxL) (ret := ret) hy ?_ ?_
  · intro args s m h hn
    obtain ⟨m9, meth, c, hn9, h1, h2, h3, h4, -, h5, h6, -⟩ := Cond.codeWith_spec (atoms_spec (ws := ws) h _ (by rw [hw]; exact List.mem_cons_self))
    cases hn.symm.trans hn9
    exact ⟨meth, c, h1, h2, h3, h4, h5, h6⟩
  · intro p e s m args below meth c s₁ B hml hP _
    have hh0 : s₁.heap = s.heap := by rw [B.state]; rfl
    obtain ⟨t, a1, o, b1, b2, b3⟩ := body p e s m args below meth c s₁ B hml hP s₁ hh0 (Stand.of_body B)
    exact ⟨t, o, a1, b1, b2, ⟨b3.1, b3.2⟩⟩
theorem ay_Met {E : AE} {l : Launch} (htr : l.stackTraces = false) {n d : Nat} (h9 : 9 ≤ d) {as : List Value} {h : AH} {r : Res} (hr : am_fitA as 6 (am_run PG n d 273 0 (am_ent as 6) [] h) = some r) (hN : hNX r.2 ≤ 1000000) :
    Met l ay_y (ay_w :: am_TB) (am_rm d (hNX r.2 - hNX h)) (ax_Pc E as h) (am_Qc E r.1 r.2) (hNX r.2 - hNX h) (2048 * (hNX r.2 - hNX h)) (fun q => E.1 ≤ q) := by
  unfold am_fitA at hr
  split at hr
  · rename_i hf
    have hf := Nat.le_of_ble_eq_true hf
    refine am_ofWH (cc := method_3_code) (maxL := 6) (ret := some .int) (hh := [(0, 12, 15, 13)]) (by decide) rfl ?_
    intro p e s m args below meth c s₁ B hml hv
    obtain ⟨rfl, hsz, hR, hKX⟩ := hv
    have hts := atoms_spec (ws := ay_w :: am_TB) B.pre
    have htb := vx_table (x := ay_y) B (hts _ List.mem_cons_self)
    have hl := lv_entry (as.map (eg E)) (n := 6) (by rw [am_len_ent]; exact hf)
    rw [lg_entry_eq]
    generalize (lg_sl (as.map (eg E)) ++ List.replicate (6 - (lg_sl (as.map (eg E))).length) Slot.unset).toArray = ls at hl ⊢
    have w := ay_run_W (E := E) (e := e) (below := below) (args := (as.map (eg E)).toArray) (n0 := hNX h) htr h9 B.exec B.bytes hml (findClass_of_methodNamed B.named) (fun w hw => hts w (List.mem_cons_of_mem _ hw)) hKX B.returns B.notSynchronized hsz htb n 0 _ [] h r hr hN s.heap [] ls hR
      (by rw [hml]; unfold am_ent; rw [am_lvl_none, am_lvl_ent]; exact hl) (by rw [hml]; unfold am_ent; simp; omega) (fun q hq => by cases hq) (Nat.le_refl _)
    rw [Nat.sub_self, Nat.mul_zero] at w
    exact w
  · cases hr
set_option maxRecDepth 100000 in
theorem am_LRok_of {E : AE} {l : Launch} {p : Program} {e : Env} {s : State} {m : MethodId} {below : List Frame} {meth : Method} {c : Code} {b d n0 : Nat} (htr : l.stackTraces = false) (hd : 11 ≤ d ∧ d ≤ 1300) (hx : p.tables.exec = Jvm.exec) (hb : c.code = code) (hown : s.vm.findClass RL = some m.cls) (hts : ∀ w ∈ am_TB, w.before #[Value.ref b] s = true) (hKX : am_KX E s) : am_LRok p l e s m b below meth c E n0 d := by
  intro n lv st h r hr hN1 hN hk
  obtain ⟨d, rfl⟩ : ∃ k, d = k + 1 := ⟨d - 1, by omega⟩
  unfold am_run at hr
  rw [show am_fetch (PG 274).1 1249 = some (1249, 3, 4472873, .invokestatic 137) from rfl] at hr
  have hr : am_call (am_cn PG n (d + 1)) 4472873 false st h (fun r h1 => am_run PG n (d + 1) 274 (1249 + 3) (am_msk (PG 274).2.1 (1249 + 3) lv) r h1) = some r := hr
  obtain ⟨as, u, rv, h1, g1, g2, g3, g4, g5, -⟩ := am_call_inv hr
  have g4 : am_fitA as 6 (am_run PG n d 273 0 (am_ent as 6) [] h) = some (rv, h1) := g4
  have n1 : hNX h ≤ hNX h1 := am_fitA_nx (am_run_nx PG n _ _ _ _ _ _) _ g4
  have n2 : hNX h1 ≤ hNX r.2 := am_run_nx PG n _ _ _ _ _ _ _ g5
  have hM := ay_Met (E := E) htr (by omega) g4 (by show hNX h1 ≤ _; omega)
  intro H locs ls hR hl hn hL hN0
  subst g1
  have hdL : decode code 1249 = .ok (.invokestatic 137, 3) := by decide +kernel
  have hgood : GoodIn am_TB (ay_w :: am_TB) := fun w hw => by
    rcases List.mem_cons.mp hw with rfl | hw
    · exact ⟨ay_in (k := 5) rfl, good_of_word (am_hgd _ (ay_in (k := 5) rfl))⟩
    · exact ⟨hw, good_of_word (am_hgd _ hw)⟩
  refine aw_after hN0 n1 hl hn hL (vx_runSW (hh := [(0, 12, 15, 13)]) (bytes := method_3_code) (maxL := 6) (ret := some .int) (index := 137) (n := as.length) (As := as.map (eg E)) ⟨hx, hb, rfl, hown, hts⟩ hM
    ⟨⟨rfl, rfl, by show d + 1 + 1 ≤ 2048; omega, by show 8 + (6 + 11) + 64 * (d + 1) ≤ 84000; omega, pay_in hts hgood, List.mem_cons_self⟩, hts _ (ay_in (k := 5) rfl), hts _ (ay_in (k := 6) rfl), ⟨by decide, by decide⟩, ?_, hts _ (ay_in (k := 8) rfl), hts _ (ay_in (k := 7) rfl)⟩
    ⟨ax_blind, fun U hU hW => ⟨rfl, by rw [hU]; exact hR.1, by rw [hU]; exact hR, hKX.moved hW⟩⟩ rfl (List.length_map ..) hl.1 ?_ (lv_room (by rw [am_cat_eq]; exact g3)) hdL ⟨by show hNX h - n0 + (hNX h1 - hNX h) ≤ 601024; omega, by show 2048 * (hNX h - n0) + 2048 * (hNX h1 - hNX h) ≤ 7293034; omega⟩) (am_W.mask _ (hk _ _ _ _ g5))
  · intro sig hsig
    have h2 : (parseMethodDescriptor ay_y.desc).map (fun d => d.parameters.length) = some 5 := by decide
    rw [hsig] at h2
    rw [g2]
    exact (Option.some.inj h2).symm
  · show List.map (eg E) (as.reverse ++ u) = _
    rw [List.map_append, List.map_reverse]
