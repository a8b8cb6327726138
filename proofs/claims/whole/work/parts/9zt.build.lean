/-! Things made by constructors: rows one after the other. -/
/-- a row of kind kd, length n, into field f of t, for each of a list -/
def xbl (t : Nat) : List (Nat × Nat × Nat) → AH → AH
  | [], h => h
  | x :: L, h => xbl t L (sFR (nArr h x.1 x.2.1) x.2.2 t (some (hNX h)))
noncomputable def xbR (t K : Nat) (F : AH → Option Res) : List (Nat × Nat × Nat) → AH → Option Res
  | [], h => F h
  | x :: L, h => am_nw (nI x.2.1) (am_let (nArr h x.1 (Int32.toNatClampNeg (nI x.2.1))) fun h1 => am_kd h1 t K (am_let (sFR h1 x.2.2 t (some (hNX h))) fun h2 => xbR t K F L h2))
/-- all of a is as it was -/
def Sa (h g : AH) (a : Nat) : Prop := hK g a = hK h a ∧ hLN g a = hLN h a ∧ hAI g a = hAI h a ∧ hAJ g a = hAJ h a ∧ hAR g a = hAR h a ∧ (∀ k, hFI g k a = hFI h k a) ∧ (∀ k, hFJ g k a = hFJ h k a) ∧ ∀ k, hFR g k a = hFR h k a
theorem Sa.rfl' (h : AH) (a : Nat) : Sa h h a := ⟨rfl, rfl, rfl, rfl, rfl, fun _ => rfl, fun _ => rfl, fun _ => rfl⟩
theorem Sa.tr {h g k : AH} {a : Nat} (x : Sa h g a) (y : Sa g k a) : Sa h k a := by
  obtain ⟨a1, a2, a3, a4, a5, a6, a7, a8⟩ := x
  obtain ⟨b1, b2, b3, b4, b5, b6, b7, b8⟩ := y
  exact ⟨b1.trans a1, b2.trans a2, b3.trans a3, b4.trans a4, b5.trans a5, fun k => (b6 k).trans (a6 k), fun k => (b7 k).trans (a7 k), fun k => (b8 k).trans (a8 k)⟩
theorem nArr_sa (h : AH) (kd n : Nat) {a : Nat} (e : a ≠ hNX h) : Sa h (nArr h kd n) a := ⟨am_up_ne e, am_up_ne e, am_up_ne e, am_up_ne e, am_up_ne e, fun _ => rfl, fun _ => rfl, fun _ => rfl⟩
theorem sFR_sa (h : AH) (f t : Nat) (v : Option Nat) {a : Nat} (e : a ≠ t) : Sa h (sFR h f t v) a := ⟨rfl, rfl, rfl, rfl, rfl, fun _ => rfl, fun _ => rfl, fun _ => am_up2_ne e⟩
theorem sFI_sa (h : AH) (f t : Nat) (v : Int32) {a : Nat} (e : a ≠ t) : Sa h (sFI h f t v) a := ⟨rfl, rfl, rfl, rfl, rfl, fun _ => am_up2_ne e, fun _ => rfl, fun _ => rfl⟩
theorem sEI_sa (h : AH) (t i : Nat) (v : Int32) {a : Nat} (e : a ≠ t) : Sa h (sEI h t i v) a := ⟨rfl, rfl, am_up_ne e, rfl, rfl, fun _ => rfl, fun _ => rfl, fun _ => rfl⟩
theorem sER_sa (h : AH) (t i : Nat) (v : Option Nat) {a : Nat} (e : a ≠ t) : Sa h (sER h t i v) a := ⟨rfl, rfl, rfl, rfl, am_up_ne e, fun _ => rfl, fun _ => rfl, fun _ => rfl⟩
theorem nObj_sa (h : AH) (kd : Nat) {a : Nat} (e : a ≠ hNX h) : Sa h (nObj h kd) a := ⟨am_up_ne e, rfl, rfl, rfl, rfl, fun _ => if_neg e, fun _ => if_neg e, fun _ => if_neg e⟩
theorem nObj_k (h : AH) (kd : Nat) : hK (nObj h kd) (hNX h) = kd := am_up_eq
theorem nObj_f (h : AH) (kd k : Nat) : hFI (nObj h kd) k (hNX h) = 0 := if_pos rfl
theorem nObj_n (h : AH) (kd : Nat) : hNX (nObj h kd) = hNX h + 1 := rfl
theorem nArr_n (h : AH) (kd n : Nat) : hNX (nArr h kd n) = hNX h + 1 := rfl
theorem nArr_k (h : AH) (kd n : Nat) : hK (nArr h kd n) (hNX h) = kd := am_up_eq
theorem nArr_l (h : AH) (kd n : Nat) : hLN (nArr h kd n) (hNX h) = n := am_up_eq
theorem nArr_i (h : AH) (kd n : Nat) : hAI (nArr h kd n) (hNX h) = fun _ => 0 := am_up_eq
theorem nArr_j (h : AH) (kd n : Nat) : hAJ (nArr h kd n) (hNX h) = fun _ => 0 := am_up_eq
theorem am_nwN {n : Nat} (hn : n ≤ 2048) (x : Option Res) : am_nw (nI n) x = x := by
  refine if_neg (fun z => ?_)
  rcases z with z | z
  · exact nI_pos (show n < 2 ^ 31 by omega) z
  · rw [nI_clamp (by omega)] at z
    omega
/-- one row more -/
theorem xb_NX (t : Nat) : ∀ (L : List (Nat × Nat × Nat)) (h : AH), hNX (xbl t L h) = hNX h + L.length
  | [], h => rfl
  | x :: L, h => by
    have ih := xb_NX t L (sFR (nArr h x.1 x.2.1) x.2.2 t (some (hNX h)))
    rw [rd_hNX_sFR, nArr_n] at ih
    show hNX (xbl t L (sFR (nArr h x.1 x.2.1) x.2.2 t (some (hNX h)))) = hNX h + (L.length + 1)
    omega
theorem xb_sa (t : Nat) : ∀ (L : List (Nat × Nat × Nat)) (h : AH) (a : Nat), a ≠ t → (a < hNX h ∨ hNX h + L.length ≤ a) → Sa h (xbl t L h) a
  | [], h, a, _, _ => Sa.rfl' h a
  | x :: L, h, a, e, e2 => by
    have e2 : a < hNX h ∨ hNX h + (L.length + 1) ≤ a := e2
    have ih := xb_sa t L (sFR (nArr h x.1 x.2.1) x.2.2 t (some (hNX h))) a e (by rw [rd_hNX_sFR, nArr_n]; omega)
    exact ((nArr_sa h x.1 x.2.1 (by omega)).tr (sFR_sa _ _ _ _ e)).tr ih
/-- what of t itself stays -/
theorem xb_t (t : Nat) : ∀ (L : List (Nat × Nat × Nat)) (h : AH), t < hNX h → hK (xbl t L h) t = hK h t ∧ hLN (xbl t L h) t = hLN h t ∧ (∀ k, hFI (xbl t L h) k t = hFI h k t) ∧ ∀ k, k ∉ L.map (fun x => x.2.2) → hFR (xbl t L h) k t = hFR h k t
  | [], h, _ => ⟨rfl, rfl, fun _ => rfl, fun _ _ => rfl⟩
  | x :: L, h, e => by
    obtain ⟨i1, i2, i3, i4⟩ := xb_t t L (sFR (nArr h x.1 x.2.1) x.2.2 t (some (hNX h))) (by rw [rd_hNX_sFR, nArr_n]; omega)
    obtain ⟨a1, a2, a3, a4, a5, a6, a7, a8⟩ := nArr_sa h x.1 x.2.1 (show t ≠ hNX h by omega)
    refine ⟨i1.trans a1, i2.trans a2, fun k => (i3 k).trans (a6 k), fun k hk => ?_⟩
    have hk' : k ∉ x.2.2 :: L.map (fun x => x.2.2) := hk
    have h1 : k ≠ x.2.2 := fun z => hk' (z ▸ List.mem_cons_self ..)
    have h2 : k ∉ L.map (fun x => x.2.2) := fun z => hk' (List.mem_cons_of_mem _ z)
    exact ((i4 k h2).trans (sFR_o _ _ (Or.inl h1))).trans (a8 k)
theorem xb_new (t : Nat) : ∀ (L : List (Nat × Nat × Nat)) (h : AH), t < hNX h → (L.map (fun x => x.2.2)).Nodup → ∀ i, i < L.length → hK (xbl t L h) (hNX h + i) = (L.getD i (0, 0, 0)).1 ∧ hLN (xbl t L h) (hNX h + i) = (L.getD i (0, 0, 0)).2.1 ∧ hFR (xbl t L h) (L.getD i (0, 0, 0)).2.2 t = some (hNX h + i) ∧ hAI (xbl t L h) (hNX h + i) = (fun _ => 0) ∧ hAJ (xbl t L h) (hNX h + i) = (fun _ => 0)
  | [], h, _, _, i, hi => absurd hi (Nat.not_lt_zero _)
  | x :: L, h, e, nd, i, hi => by
    have nd' : (x.2.2 :: L.map (fun x => x.2.2)).Nodup := nd
    obtain ⟨n1, n2⟩ := List.nodup_cons.mp nd'
    have hn : hNX (sFR (nArr h x.1 x.2.1) x.2.2 t (some (hNX h))) = hNX h + 1 := by rw [rd_hNX_sFR, nArr_n]
    cases i with
    | zero =>
      show hK (xbl t L _) (hNX h) = x.1 ∧ hLN (xbl t L _) (hNX h) = x.2.1 ∧ hFR (xbl t L _) x.2.2 t = some (hNX h) ∧ hAI (xbl t L _) (hNX h) = (fun _ => 0) ∧ hAJ (xbl t L _) (hNX h) = (fun _ => 0)
      obtain ⟨a1, a2, a3, a4, a5, a6, a7, a8⟩ := (sFR_sa (nArr h x.1 x.2.1) x.2.2 t (some (hNX h)) (show hNX h ≠ t by omega)).tr (xb_sa t L (sFR (nArr h x.1 x.2.1) x.2.2 t (some (hNX h))) (hNX h) (by omega) (by omega))
      refine ⟨a1.trans (nArr_k _ _ _), a2.trans (nArr_l _ _ _), ?_, a3.trans (nArr_i _ _ _), a4.trans (nArr_j _ _ _)⟩
      rw [(xb_t t L (sFR (nArr h x.1 x.2.1) x.2.2 t (some (hNX h))) (by omega)).2.2.2 _ n1, sFR_at]
    | succ i =>
      have hi' : i < L.length := Nat.lt_of_succ_lt_succ hi
      have ih := xb_new t L (sFR (nArr h x.1 x.2.1) x.2.2 t (some (hNX h))) (by omega) n2 i hi'
      rw [hn, show hNX h + 1 + i = hNX h + (i + 1) by omega] at ih
      exact ih
theorem xbR_e {t K : Nat} {F : AH → Option Res} : ∀ (L : List (Nat × Nat × Nat)) (h : AH), hK h t = K → t < hNX h → (∀ x, x ∈ L → x.2.1 ≤ 2048) → xbR t K F L h = F (xbl t L h)
  | [], h, _, _, _ => rfl
  | x :: L, h, hk, ht, hl => by
    have h1 := hl x (List.mem_cons_self ..)
    have ek : hK (nArr h x.1 x.2.1) t = K := (nArr_sa h x.1 x.2.1 (show t ≠ hNX h by omega)).1.trans hk
    have ih := xbR_e (t := t) (K := K) (F := F) L (sFR (nArr h x.1 x.2.1) x.2.2 t (some (hNX h))) (by rw [rd_hK_sFR]; exact ek) (by rw [rd_hNX_sFR, nArr_n]; omega) (fun y hy => hl y (List.mem_cons_of_mem _ hy))
    show am_nw (nI x.2.1) (am_let (nArr h x.1 (Int32.toNatClampNeg (nI x.2.1))) fun h1 => am_kd h1 t K (am_let (sFR h1 x.2.2 t (some (hNX h))) fun h2 => xbR t K F L h2)) = F (xbl t L (sFR (nArr h x.1 x.2.1) x.2.2 t (some (hNX h))))
    rw [am_nwN h1, nI_clamp (by omega), am_let_e, am_kd_t ek, am_let_e]
    exact ih
/-- a new object in a field -/
theorem n_fld {d t K kd id f n : Nat} {h g : AH} {X : AH → Option Res} (hn : hNX h = n) (ht : hK g t = K) (c : am_C PG d id [.ref n] (nObj h kd) = some (none, g)) : am_let (nObj h kd) (fun h1 => am_kd h1 (hNX h) kd (bV (am_C PG d id [.ref (hNX h)] h1) fun h2 => am_kd h2 t K (am_let (sFR h2 f t (some (hNX h))) X))) = X (sFR g f t (some n)) := by
  rw [am_let_e, am_kd_t (nObj_k h kd), hn, c, bV_s, am_kd_t ht, am_let_e]
