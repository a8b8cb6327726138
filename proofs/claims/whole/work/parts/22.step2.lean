/-! Steps: switches, fields, rows, new things, calls. -/
section STEP2
variable {p : Program} {l : Launch} {e : Env} {R : Room} {s : State} {m : MethodId} {args : Array Value} {below : List Frame} {meth : Method} {c : Code} {Q : State → Prop} {E : AE} {n0 : Nat} {cc : ByteArray} {lv : LV} {st : List Value} {h : AH} {pc len x : Nat}
  {call : Nat → List Value → AH → Option Res} {K : Nat → LV → List Value → AH → Option Res} {r : Res} {own : String} {TB : List Cond}
theorem am_sw_inv {v : Int} {r : Res} {f : Nat → Option Res} {d : Option Res} : ∀ (ts : List Nat) (lo : Int), am_sw v lo ts f d = some r → (∃ (k : Nat) (t : Nat), ts[k]? = some t ∧ v = lo + (k : Int) ∧ f t = some r) ∨ ((v < lo ∨ lo + (ts.length : Int) ≤ v) ∧ d = some r)
  | [], lo, h => Or.inr ⟨by simp; omega, h⟩
  | t :: ts, lo, h => by
    unfold am_sw at h
    split at h
    · rename_i h1
      exact Or.inl ⟨0, t, rfl, by simpa using h1, h⟩
    · rename_i h1
      rcases am_sw_inv ts (lo + 1) h with ⟨k, t2, g1, g2, g3⟩ | ⟨g1, g2⟩
      · exact Or.inl ⟨k + 1, t2, g1, by rw [g2]; omega, g3⟩
      · refine Or.inr ⟨?_, g2⟩
        simp only [List.length_cons]
        omega
theorem sp_tableswitch (hx : p.tables.exec = Jvm.exec) (hb : c.code = cc) (hkk : ∀ pc1 lv1 st1 h1, K pc1 lv1 st1 h1 = some r → am_W p l e R s m args below meth c Q E n0 pc1 lv1 st1 h1) {d lo hi : Int} {offs : Array Int} (hd : decode cc pc = .ok (.tableswitch d lo hi offs, len))
    (hok : (pc : Int) + d = (x : Int) ∧ hi = lo + (offs.toList.length : Int) - 1 ∧ ∀ o ∈ offs.toList, 0 ≤ (pc : Int) + o) (hs : stp call K (pc, len, x, .tableswitch d lo hi offs) lv st h = some r) : am_W p l e R s m args below meth c Q E n0 pc lv st h := by
  dsimp only [stp] at hs
  obtain ⟨a, t, rfl, h1⟩ := pI_inv hs
  rcases am_sw_inv _ _ h1 with ⟨k, tg, g1, g2, g3⟩ | ⟨g1, g2⟩
  · rw [List.getElem?_map] at g1
    cases ho : offs.toList[k]? with
    | none => rw [ho] at g1; cases g1
    | some o =>
      rw [ho] at g1
      have g1 : ((pc : Int) + o).toNat = tg := Option.some.inj g1
      have hk : k < offs.toList.length := (List.getElem?_eq_some_iff.mp ho).1
      have h0 := hok.2.2 o (List.mem_of_getElem? ho)
      refine am_W.go (fun H locs ls _ _ _ _ w => lv_tableIn (off := o) hx hb hd (by rw [g2]; omega) (by rw [g2, hok.2.1]; omega) ?_ (by rw [← g1]; omega) w) (hkk _ _ _ _ g3)
      rw [g2, show (lo + (k : Int) - lo).toNat = k by omega, ← Array.getElem?_toList]
      exact ho
  · rw [List.length_map] at g1
    exact am_W.go (fun H locs ls _ _ _ _ w => lv_tableOut hx hb hd (by rw [hok.2.1]; omega) hok.1 w) (hkk _ _ _ _ g2)
theorem am_get_fv {ci k a : Nat} {f : Value → Option Res} (hh : am_get h (am_tyc ci k) (100 * ci + k) a f = some r) : f (am_fv h ci k a) = some r := by
  unfold am_fv
  generalize am_tyc ci k = t at hh
  match t, hh with
  | 0, hh => exact hh
  | 1, hh => exact hh
  | 2, hh =>
    obtain ⟨b, g1, g2⟩ := bR_inv (show bR (hFR h (100 * ci + k) a) (fun b => f (.ref b)) = some r from hh)
    show f (.ref ((hFR h (100 * ci + k) a).getD nul)) = some r
    rw [g1]; exact g2
  | 3, hh => exact hh
  | _ + 4, hh => exact hh
theorem sp_getfield (hx : p.tables.exec = Jvm.exec) (hb : c.code = cc) (hkk : ∀ pc1 lv1 st1 h1, K pc1 lv1 st1 h1 = some r → am_W p l e R s m args below meth c Q E n0 pc1 lv1 st1 h1) (hts : ∀ w ∈ TB, w.before args s = true) (hown : s.vm.findClass own = some m.cls) (hKS : am_KS E s) (hCL : am_cok TB) {idx : Nat} (hd : decode cc pc = .ok (.getfield idx, 3))
    (hok : (∃ ci k, am_fldok own TB idx x ci k) ∨ (x = 8001 ∧ Cond.fieldLink own idx RX10 "spelt" "J" ∈ TB) ∨ (x = 8012 ∧ ∃ host, Cond.fieldLinkNest own idx RX10 "kept" "Z" host ∈ am_NB)) (hs : stp call K (pc, 3, x, .getfield idx) lv st h = some r) : am_W p l e R s m args below meth c Q E n0 pc lv st h := by
  dsimp only [stp] at hs
  obtain ⟨a, t, rfl, h1⟩ := pR_inv hs
  obtain ⟨h2, h3⟩ := am_kd_inv h1
  rcases hok with ⟨ci, k, C, T, N, f1, f2, f3, f4, f5, f6, f7, f8⟩ | ⟨rfl, hlk⟩ | ⟨rfl, hlk⟩
  · refine aw_get (k := k) hx hb hts hown hKS.1 f1 ((hCL ci C T N f1).2.2.1) f4 f5 hd (by rw [h2, f7]) f2 f3 ?_
    apply hkk
    rw [← f8, f6] at h3
    exact am_get_fv h3
  · have hk11 : hK h a = 11 := h2
    refine aw_wordf (v := .long (hFJ h 1000 a)) hx hb hts hown (Or.inl hlk) hk11 (fun H hR => ?_) rfl hd (hkk _ _ _ _ h3)
    obtain ⟨w1, w2, w3, -⟩ := hR.2.2.2.2.2.2.2 a hk11
    rw [w3]
    exact (hKS.2.1 (a - 1000000) (by omega)).1
  · have hk11 : hK h a = 11 := h2
    refine aw_wordf (v := .int (hFI h 1001 a)) hx hb hts hown (Or.inr (hlk.imp fun host q => am_nsw_use q (hKS.2.2.2.2.1 _ q))) hk11 (fun H hR => ?_) rfl hd (hkk _ _ _ _ h3)
    obtain ⟨w1, w2, -, w3⟩ := hR.2.2.2.2.2.2.2 a hk11
    rw [w3]
    exact (hKS.2.1 (a - 1000000) (by omega)).2.1
theorem am_fitR {ty : FieldType} (ht : (∃ n, ty = .object n) ∨ ∃ n, ty = .array n) (a : Nat) : am_fit ty (eg E (.ref a)) := by
  have h1 : eg E (.ref a) = .null ∨ ∃ b, eg E (.ref a) = .ref b := by
    show (if a = nul then Value.null else Value.ref (ea E a)) = .null ∨ _
    by_cases hz : a = nul
    · exact Or.inl (if_pos hz)
    · exact Or.inr ⟨ea E a, by show (if a = nul then Value.null else Value.ref (ea E a)) = _; rw [if_neg hz]⟩
  rcases ht with ⟨n, rfl⟩ | ⟨n, rfl⟩ <;> rcases h1 with h1 | ⟨b, h1⟩ <;> rw [h1] <;> exact ⟨rfl, rfl⟩
theorem am_nar_inv {t : Nat} {v : Int32} {k : Option Res} (hh : am_nar t v k = some r) : k = some r ∧ (t = 4 → v = 0 ∨ v = 1) ∧ (t = 5 → ¬ (v < 0 ∨ 65535 < v)) := by
  unfold am_nar at hh
  split at hh
  · split at hh
    · rename_i h1; exact ⟨hh, fun _ => h1, (fun q => by cases q)⟩
    · cases hh
  · split at hh
    · cases hh
    · rename_i h1; exact ⟨hh, (fun q => by cases q), fun _ => h1⟩
  · rename_i h1 h2; exact ⟨hh, fun q => absurd q h1, fun q => absurd q h2⟩
theorem sp_putfield (hx : p.tables.exec = Jvm.exec) (hb : c.code = cc) (hkk : ∀ pc1 lv1 st1 h1, K pc1 lv1 st1 h1 = some r → am_W p l e R s m args below meth c Q E n0 pc1 lv1 st1 h1) (hts : ∀ w ∈ TB, w.before args s = true) (hown : s.vm.findClass own = some m.cls) (hKS : am_KS E s) (hCL : am_cok TB) {ini : Bool} (hini : ini = true → meth.name = "<init>") {idx : Nat} (hd : decode cc pc = .ok (.putfield idx, 3))
    (hok : ∃ ci k, am_fldok own TB idx x ci k ∧ am_tok (x % 8) (am_ft ci k) ∧ ∀ C T N, am_cls[ci]? = some (C, T, N) → (T k).2.2.2 = false ∨ (ini = true ∧ (T k).1 = own)) (hs : stp call K (pc, 3, x, .putfield idx) lv st h = some r) : am_W p l e R s m args below meth c Q E n0 pc lv st h := by
  dsimp only [stp] at hs
  obtain ⟨ci, k, ⟨C, T, N, f1, f2, f3, f4, f5, f6, f7, f8⟩, ft, ff⟩ := hok
  obtain ⟨c1, c2, c3, -⟩ := hCL ci C T N f1
  have hfin : (T k).2.2.2 = false ∨ (meth.name = "<init>" ∧ (T k).1 = own) := (ff C T N f1).imp id (fun q => ⟨hini q.1, q.2⟩)
  rw [f6, f7] at hs
  generalize hty : x % 8 = ty at hs ft f8
  unfold am_put at hs
  split at hs
  · obtain ⟨v, t, rfl, h1⟩ := pJ_inv hs
    obtain ⟨a, u, rfl, h2⟩ := pR_inv h1
    obtain ⟨h3, h4⟩ := am_kd_inv h2
    exact aw_put (h1 := sFJ h (100 * ci + k) a v) hx hb hts hown hKS.1 f1 c3 (am_ft ci) c1 c2 f4 f5 hd hfin h3 f2 f3 (v := .long v) (by rw [show am_ft ci k = .long from ft]; exact ⟨rfl, rfl⟩) rfl rfl rfl sFJ_off.1 sFJ_off.2 (am_fvJ f8) (hkk _ _ _ _ h4)
  · obtain ⟨v, t, rfl, h1⟩ := pR_inv hs
    obtain ⟨a, u, rfl, h2⟩ := pR_inv h1
    obtain ⟨h3, h4⟩ := am_kd_inv h2
    exact aw_put (h1 := sFR h (100 * ci + k) a (some v)) hx hb hts hown hKS.1 f1 c3 (am_ft ci) c1 c2 f4 f5 hd hfin h3 f2 f3 (v := .ref v) (am_fitR ft v) rfl rfl rfl sFR_off.1 sFR_off.2 (am_fvR (v := some v) (Or.inl f8)) (hkk _ _ _ _ h4)
  · obtain ⟨v, t, rfl, h1⟩ := pR_inv hs
    obtain ⟨a, u, rfl, h2⟩ := pR_inv h1
    obtain ⟨h3, h4⟩ := am_kd_inv h2
    have hon : (am_on v).getD nul = v := by
      unfold am_on
      by_cases hz : v = nul
      · rw [if_pos hz, hz]; rfl
      · rw [if_neg hz]; rfl
    exact aw_put (h1 := sFR h (100 * ci + k) a (am_on v)) hx hb hts hown hKS.1 f1 c3 (am_ft ci) c1 c2 f4 f5 hd hfin h3 f2 f3 (v := .ref v) (am_fitR ft v) rfl rfl rfl sFR_off.1 sFR_off.2 (fun j => by rw [am_fvR (v := am_on v) (Or.inr f8), hon]) (hkk _ _ _ _ h4)
  · rename_i n1 n2 n3
    obtain ⟨v, t, rfl, h1⟩ := pI_inv hs
    obtain ⟨a, u, rfl, h2⟩ := pR_inv h1
    obtain ⟨h3, h4⟩ := am_kd_inv h2
    obtain ⟨h5, h6, h7⟩ := am_nar_inv h4
    refine aw_put (h1 := sFI h (100 * ci + k) a v) hx hb hts hown hKS.1 f1 c3 (am_ft ci) c1 c2 f4 f5 hd hfin h3 f2 f3 (v := .int v) ?_ rfl rfl rfl sFI_off.1 sFI_off.2 (am_fvI ⟨fun q => n1 (f8.symm.trans q), fun q => n2 (f8.symm.trans q), fun q => n3 (f8.symm.trans q)⟩) (hkk _ _ _ _ h5)
    match ty, ft, n1, n2, n3, h6, h7 with
    | 0, ft, _, _, _, _, _ => rw [show am_ft ci k = .int from ft]; exact ⟨rfl, rfl⟩
    | 1, _, n1, _, _, _, _ => exact absurd rfl n1
    | 2, _, _, n2, _, _, _ => exact absurd rfl n2
    | 3, _, _, _, n3, _, _ => exact absurd rfl n3
    | 4, ft, _, _, _, h6, _ => rw [show am_ft ci k = .boolean from ft]; exact narrow_bool_in (h6 rfl)
    | 5, ft, _, _, _, _, h7 => rw [show am_ft ci k = .char from ft]; exact narrow_char_in (h7 rfl)
    | _ + 6, ft, _, _, _, _, _ => exact absurd ft id
end STEP2
