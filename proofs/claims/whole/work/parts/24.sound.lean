/-! Calls, and any step. -/
section STEP4
variable {p : Program} {l : Launch} {e : Env} {R : Room} {s : State} {m : MethodId} {args : Array Value} {below : List Frame} {meth : Method} {c : Code} {Q : State → Prop} {E : AE} {n0 : Nat} {cc : ByteArray} {lv : LV} {st : List Value} {h : AH} {pc len x : Nat}
  {call : Nat → List Value → AH → Option Res} {K : Nat → LV → List Value → AH → Option Res} {r : Res} {own : String} {TB : List Cond} {MT : Nat → MTE} {d : Nat}
/-- what a call's answer leaves on the stack -/
theorem am_go_inv {mid t : Nat} {as u : List Value} {f : List Value → AH → Option Res} (hh : (match t with
      | 0 => bV (call mid as h) fun h1 => f u h1
      | 1 => bI (call mid as h) fun v h1 => f (.int v :: u) h1
      | 2 => bJ (call mid as h) fun v h1 => f (.long v :: u) h1
      | 3 => bA (call mid as h) fun v h1 => f (.ref v :: u) h1
      | _ => none) = some r) : ∃ rv h1, call mid as h = some (rv, h1) ∧ f (rv.toList ++ u) h1 = some r := by
  split at hh
  · unfold bV at hh
    split at hh
    · rename_i h1 e1; exact ⟨none, h1, e1, hh⟩
    · cases hh
  · unfold bI at hh
    split at hh
    · rename_i v h1 e1; exact ⟨some (.int v), h1, e1, hh⟩
    · cases hh
  · unfold bJ at hh
    split at hh
    · rename_i v h1 e1; exact ⟨some (.long v), h1, e1, hh⟩
    · cases hh
  · unfold bA at hh
    split at hh
    · rename_i v h1 e1; exact ⟨some (.ref v), h1, e1, hh⟩
    · cases hh
  · cases hh
theorem am_call_inv {v : Bool} {f : List Value → AH → Option Res} (hh : am_call call x v st h f = some r) : ∃ as u rv h1, st = as.reverse ++ u ∧ as.length = x / 8 % 32 ∧ am_cat u ≤ 8 ∧ call (x / 16384) as h = some (rv, h1) ∧ f (rv.toList ++ u) h1 = some r ∧ (v = true → ∃ a As, as = .ref a :: As ∧ hK h a = x / 256 % 64) := by
  unfold am_call at hh
  split at hh
  · cases hh
  · rename_i as u e1
    obtain ⟨xs, g1, g2, g3⟩ := takeA_spec _ _ _ _ _ e1
    rw [List.append_nil] at g1
    subst g1
    dsimp only at hh
    obtain ⟨h8, hh⟩ := am_r8_inv hh
    cases v with
    | false =>
      dsimp only at hh
      obtain ⟨rv, h1, k1, k2⟩ := am_go_inv hh
      exact ⟨as, u, rv, h1, g2, g3, h8, k1, k2, fun z => by cases z⟩
    | true =>
      dsimp only at hh
      rcases as with _ | ⟨a0, As⟩
      · cases hh
      · cases a0 with
        | ref a =>
          obtain ⟨h9, hh⟩ := am_kd_inv hh
          obtain ⟨rv, h1, k1, k2⟩ := am_go_inv hh
          exact ⟨_, u, rv, h1, g2, g3, h8, k1, k2, fun _ => ⟨a, As, rfl, h9⟩⟩
        | _ => cases hh
theorem am_par {o : Option MethodDescriptor} {n k : Nat} (hh : o.map (fun d => d.parameters.length + 1) = some n) (hn : n = k + 1) : o.map (fun d => d.parameters.length) = some k := by
  cases o with
  | none => cases hh
  | some d =>
    have hh : d.parameters.length + 1 = n := Option.some.inj hh
    show some d.parameters.length = some k
    congr 1
    omega
theorem sp_invokevirtual (hx : p.tables.exec = Jvm.exec) (hb : c.code = cc) (hkk : ∀ pc1 lv1 st1 h1, K pc1 lv1 st1 h1 = some r → am_W p l e R s m args below meth c Q E n0 pc1 lv1 st1 h1) (hts : ∀ w ∈ TB, w.before args s = true) (hgd : ∀ w ∈ TB, goodWord w = true) (hown : s.vm.findClass own = some m.cls) (hKS : am_KS E s) {idx : Nat} (hd : decode cc pc = .ok (.invokevirtual idx, 3))
    (hok : x % 8 ≠ 4 ∧ am_calok own TB idx x (MT (x / 16384)) ∧ Cond.methodLink own idx (MT (x / 16384)).1 ∈ TB ∧ Cond.instanceMethod (MT (x / 16384)).1 ∈ TB ∧ Cond.selects (MT (x / 16384)).1.cls (MT (x / 16384)).1 (MT (x / 16384)).1 ∈ TB ∧
      (parseMethodDescriptor (MT (x / 16384)).1.desc).map (fun d => d.parameters.length + 1) = some (x / 8 % 32) ∧ ∃ ci q, x / 256 % 64 = ci + 1 ∧ am_cls[ci]? = some q ∧ (MT (x / 16384)).1.cls = q.1 ∧ ci < 13 ∧ ci ≠ 10)
    (hfd : d ≠ 0 → d + 1 ≤ R.frames ∧ 64 * (d + 1) ≤ R.locals) (hcall : ∀ mid as h1 rv h2, (MT mid).2.2.1 ≤ 45 → hNX h2 ≤ 1000000 → call mid as h1 = some (rv, h2) → d ≠ 0 ∧ am_Met E l (d - 1) (MT mid).1 (am_cd (MT mid) :: TB) as h1 rv h2) (hcn : ∀ mid as h1, am_nx (hNX h1) (call mid as h1)) (hkn : ∀ pc1 lv1 st1 h1, am_nx (hNX h1) (K pc1 lv1 st1 h1))
    (hrm : hNX r.2 - n0 ≤ R.cells ∧ 2048 * (hNX r.2 - n0) ≤ R.slots ∧ hNX r.2 ≤ 1000000) (hs : stp call K (pc, 3, x, .invokevirtual idx) lv st h = some r) : am_W p l e R s m args below meth c Q E n0 pc lv st h := by
  dsimp only [stp] at hs
  obtain ⟨k1, ⟨k2, k3, k4, k5, k6⟩, k7, k8, k9, k10, ci, q, k11, k12, k13, k14, k15⟩ := hok
  split at hs
  · rename_i z; exact absurd z k1
  · obtain ⟨as, u, rv, h1, g1, g2, g3, g4, g5, g6⟩ := am_call_inv hs
    obtain ⟨a, As, rfl, g7⟩ := g6 rfl
    have n1 : hNX h ≤ hNX h1 := hcn _ _ _ _ g4
    have n2 : hNX h1 ≤ hNX r.2 := hkn _ _ _ _ _ g5
    obtain ⟨hd0, hM⟩ := hcall _ _ _ _ _ k6 (by omega) g4
    have hfd := hfd hd0
    subst g1
    rw [List.reverse_cons, List.append_assoc]
    exact aw_callV hx hb hts hgd hown hKS k12 k13 k14 k15 k2 k3 k7 k8 k9 ⟨k4, k5, am_par k10 (by rw [← g2]; rfl)⟩ k6 (by omega) (by omega) hd (by rw [g7, k11]) g3 hM n1 ⟨by omega, by omega⟩ (hkk _ _ _ _ g5)
theorem sp_invokestatic (hx : p.tables.exec = Jvm.exec) (hb : c.code = cc) (hkk : ∀ pc1 lv1 st1 h1, K pc1 lv1 st1 h1 = some r → am_W p l e R s m args below meth c Q E n0 pc1 lv1 st1 h1) (hts : ∀ w ∈ TB, w.before args s = true) (hgd : ∀ w ∈ TB, goodWord w = true) (hown : s.vm.findClass own = some m.cls) (hKS : am_KS E s) {idx : Nat} (hd : decode cc pc = .ok (.invokestatic idx, 3))
    (hok : (x = 0 ∧ Cond.methodLink own idx arraycopyName ∈ TB ∧ Cond.native arraycopyName ∈ TB ∧ Cond.static arraycopyName ∈ TB ∧ Cond.initialized "java/lang/System" ∈ TB) ∨
      (x ≠ 0 ∧ am_calok own TB idx x (MT (x / 16384)) ∧ Cond.methodLink own idx (MT (x / 16384)).1 ∈ TB ∧ Cond.static (MT (x / 16384)).1 ∈ TB ∧ (parseMethodDescriptor (MT (x / 16384)).1.desc).map (fun d => d.parameters.length) = some (x / 8 % 32)))
    (hfr : 1 ≤ R.frames) (hlo : 64 ≤ R.locals) (hfd : d ≠ 0 → d + 1 ≤ R.frames ∧ 64 * (d + 1) ≤ R.locals) (hcall : ∀ mid as h1 rv h2, (MT mid).2.2.1 ≤ 45 → hNX h2 ≤ 1000000 → call mid as h1 = some (rv, h2) → d ≠ 0 ∧ am_Met E l (d - 1) (MT mid).1 (am_cd (MT mid) :: TB) as h1 rv h2) (hcn : ∀ mid as h1, am_nx (hNX h1) (call mid as h1)) (hkn : ∀ pc1 lv1 st1 h1, am_nx (hNX h1) (K pc1 lv1 st1 h1))
    (hrm : hNX r.2 - n0 ≤ R.cells ∧ 2048 * (hNX r.2 - n0) ≤ R.slots ∧ hNX r.2 ≤ 1000000) (hs : stp call K (pc, 3, x, .invokestatic idx) lv st h = some r) : am_W p l e R s m args below meth c Q E n0 pc lv st h := by
  rcases hok with ⟨rfl, k1, k2, k3, k4⟩ | ⟨k0, ⟨k2, k3, k4, k5, k6⟩, k7, k8, k9⟩
  · dsimp only [stp] at hs
    obtain ⟨n, t1, rfl, h1⟩ := pI_inv hs
    obtain ⟨dp, t2, rfl, h2⟩ := pI_inv h1
    obtain ⟨dst, t3, rfl, h3⟩ := pR_inv h2
    obtain ⟨sp, t4, rfl, h4⟩ := pI_inv h3
    obtain ⟨src, u, rfl, h5⟩ := pR_inv h4
    obtain ⟨h8, h5⟩ := am_r8_inv h5
    obtain ⟨h6, h7⟩ := am_kd_inv h5
    obtain ⟨h9, h10⟩ := am_kd_inv h7
    unfold am_cb at h10
    split at h10
    · cases h10
    · rename_i hz
      have hcat : (u.map fun v => v.category).sum = am_cat u := by
        have := am_cat_eq E u
        rw [← this, List.map_map]
        congr 1
        exact (List.map_congr_left (fun v _ => eg_cat E v)).symm
      refine aw_copy hx hb hts hown hKS.1 k1 k2 k3 k4 hd h6 h9 (fun z => hz (Or.inr (Or.inl z))) (fun z => hz (Or.inr (Or.inr (Or.inl z)))) (fun z => hz (Or.inl z)) (Nat.le_of_not_lt fun z => hz (Or.inr (Or.inr (Or.inr (Or.inl z))))) (Nat.le_of_not_lt fun z => hz (Or.inr (Or.inr (Or.inr (Or.inr z))))) hfr ?_ (hkk _ _ _ _ h10)
      rw [hcat]
      have : nativeFrameWords "java/lang/System" "arraycopy" 5 ≤ 40 := by decide
      omega
  · obtain ⟨y, rfl⟩ : ∃ y, x = y + 1 := ⟨x - 1, by omega⟩
    dsimp only [stp] at hs
    obtain ⟨as, u, rv, h1, g1, g2, g3, g4, g5, -⟩ := am_call_inv hs
    have n1 : hNX h ≤ hNX h1 := hcn _ _ _ _ g4
    have n2 : hNX h1 ≤ hNX r.2 := hkn _ _ _ _ _ g5
    obtain ⟨hd0, hM⟩ := hcall _ _ _ _ _ k6 (by omega) g4
    have hfd := hfd hd0
    subst g1
    exact aw_callS hx hb hts hgd hown hKS k2 k3 k7 k8 ⟨k4, k5, by rw [g2]; exact k9⟩ k6 (by omega) (by omega) hd g3 hM n1 ⟨by omega, by omega⟩ (hkk _ _ _ _ g5)
theorem sp_invokespecial (hx : p.tables.exec = Jvm.exec) (hb : c.code = cc) (hkk : ∀ pc1 lv1 st1 h1, K pc1 lv1 st1 h1 = some r → am_W p l e R s m args below meth c Q E n0 pc1 lv1 st1 h1) (hts : ∀ w ∈ TB, w.before args s = true) (hgd : ∀ w ∈ TB, goodWord w = true) (hown : s.vm.findClass own = some m.cls) (hKS : am_KS E s) {idx : Nat} (hd : decode cc pc = .ok (.invokespecial idx, 3))
    (hok : (x % 8 = 5 ∧ Cond.methodLink own idx objectInit ∈ TB ∧ Cond.instanceMethod objectInit ∈ TB ∧ Cond.code objectInit ⟨#[0xb1]⟩ 1 none ∈ TB ∧ x / 256 % 64 ≠ 0) ∨
      (x % 8 ≠ 5 ∧ am_calok own TB idx x (MT (x / 16384)) ∧ (MT (x / 16384)).2.2.2 = none ∧ (MT (x / 16384)).1.name = "<init>" ∧ (Cond.methodLink own idx (MT (x / 16384)).1 ∈ TB ∨ ∃ host, Cond.methodLinkNest own idx (MT (x / 16384)).1 host ∈ am_NB) ∧ Cond.instanceMethod (MT (x / 16384)).1 ∈ TB ∧
        (parseMethodDescriptor (MT (x / 16384)).1.desc).map (fun d => d.parameters.length + 1) = some (x / 8 % 32) ∧ x / 256 % 64 ≠ 0))
    (hfr : 1 ≤ R.frames) (hlo : 64 ≤ R.locals) (hfd : d ≠ 0 → d + 1 ≤ R.frames ∧ 64 * (d + 1) ≤ R.locals) (hcall : ∀ mid as h1 rv h2, (MT mid).2.2.1 ≤ 45 → hNX h2 ≤ 1000000 → call mid as h1 = some (rv, h2) → d ≠ 0 ∧ am_Met E l (d - 1) (MT mid).1 (am_cd (MT mid) :: TB) as h1 rv h2) (hcn : ∀ mid as h1, am_nx (hNX h1) (call mid as h1)) (hkn : ∀ pc1 lv1 st1 h1, am_nx (hNX h1) (K pc1 lv1 st1 h1))
    (hrm : hNX r.2 - n0 ≤ R.cells ∧ 2048 * (hNX r.2 - n0) ≤ R.slots ∧ hNX r.2 ≤ 1000000) (hs : stp call K (pc, 3, x, .invokespecial idx) lv st h = some r) : am_W p l e R s m args below meth c Q E n0 pc lv st h := by
  dsimp only [stp] at hs
  rcases hok with ⟨k0, k1, k2, k3, k4⟩ | ⟨k0, ⟨k2, k3, k4, k5, k6⟩, kr, kn, k7, k8, k9, k10⟩
  · have hs : pR st (fun a u => am_r8 u (am_kd h a (x / 256 % 64) (K (pc + 3) lv u h))) = some r := by
      rw [k0] at hs
      exact hs
    obtain ⟨a, u, rfl, h1⟩ := pR_inv hs
    obtain ⟨h8, h1⟩ := am_r8_inv h1
    obtain ⟨h2, h3⟩ := am_kd_inv h1
    intro H locs ls hR hl hn hL hN
    have w := hkk _ _ _ _ h3 H locs ls hR hl hn hL hN
    have he := (hR.live (a := a) (by rw [h2]; exact k4)).2
    show W p l e R s m args below meth c H locs _ _ Q (F0 m pc ls (eg E (.ref a) :: u.map (eg E)))
    rw [he]
    refine W.objInit hx hb hown (hts _ k1) (hts _ k2) (hts _ k3) rfl hl.1 rfl hd hfr ?_ w
    show 2 * 0 + ((u.map (eg E)).map fun v => v.category).sum + 12 ≤ R.locals
    rw [am_cat_eq]
    omega
  · have hs : am_call call x true st h (fun r h1 => K (pc + 3) lv r h1) = some r := by
      split at hs
      · rename_i z; exact absurd z k0
      · exact hs
    obtain ⟨as, u, rv, h1, g1, g2, g3, g4, g5, g6⟩ := am_call_inv hs
    obtain ⟨a, As, rfl, g7⟩ := g6 rfl
    have n1 : hNX h ≤ hNX h1 := hcn _ _ _ _ g4
    have n2 : hNX h1 ≤ hNX r.2 := hkn _ _ _ _ _ g5
    obtain ⟨hd0, hM⟩ := hcall _ _ _ _ _ k6 (by omega) g4
    have hfd := hfd hd0
    subst g1
    rw [List.reverse_cons, List.append_assoc]
    generalize hq : MT (x / 16384) = q at k2 k3 k4 k5 k6 kr kn k7 k8 k9 hM
    obtain ⟨y, bytes, maxL, ret⟩ := q
    cases kr
    exact aw_callI hx hb hts hgd hown hKS k2 k3 k7 k8 kn ⟨k4, k5, am_par k9 (by rw [← g2]; rfl)⟩ k6 (by omega) (by omega) hd (by rw [g7]; exact k10) g3 hM n1 ⟨by omega, by omega⟩ (hkk _ _ _ _ g5)
end STEP4
