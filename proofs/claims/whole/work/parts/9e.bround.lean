/-! A round: deadlines, the class's answer. -/
def fsO (B : Nat → Bool) : Nat → Option Nat
  | 0 => none
  | n + 1 => match fsO B n with
    | some k => some k
    | none => if B n = true then some n else none
theorem fsO_sp (B : Nat → Bool) : ∀ n, (∀ k, fsO B n = some k → k < n ∧ B k = true ∧ ∀ i, i < k → B i = false) ∧ (fsO B n = none → ∀ i, i < n → B i = false)
  | 0 => ⟨fun k h => (by cases h), fun _ i hi => (by omega)⟩
  | n + 1 => by
    obtain ⟨h1, h2⟩ := fsO_sp B n
    unfold fsO
    cases e : fsO B n with
    | some k =>
      refine ⟨fun j hj => ?_, fun z => by cases z⟩
      cases hj
      obtain ⟨q1, q2, q3⟩ := h1 k e
      exact ⟨by omega, q2, q3⟩
    | none =>
      have h3 := h2 e
      dsimp only
      by_cases c : B n = true
      · rw [if_pos c]
        refine ⟨fun j hj => ?_, fun z => by cases z⟩
        cases hj
        exact ⟨by omega, c, h3⟩
      · rw [if_neg c]
        refine ⟨fun j hj => (by cases hj), fun _ i hi => ?_⟩
        by_cases q : i = n
        · subst q
          exact Bool.eq_false_iff.2 c
        · exact h3 i (by omega)
theorem fsO_eq {B : Nat → Bool} {n : Nat} {r : Int32} (h : LeastB B 0 n r) : r = oC (fsO B n) := by
  refine LeastB.uniq h ?_
  obtain ⟨h1, h2⟩ := fsO_sp B n
  cases e : fsO B n with
  | none => exact Or.inl ⟨rfl, fun j _ hj => h2 e j hj⟩
  | some k =>
    obtain ⟨q1, q2, q3⟩ := h1 k e
    exact Or.inr ⟨k, Nat.zero_le _, q1, q2, fun i _ hi => q3 i hi, rfl⟩
/-- one clock more -/
def dlU (p : Nat) (r : Option Nat) (dl : Nat → Option Nat) (j : Nat) : Option Nat := if p = j then (match r with
    | none => dl j
    | some h => match dl j with
      | none => some h
      | some k => some (Nat.min k h)) else dl j
theorem dlF_s (S : Nat → Nat) (R : Nat → Option Nat) (n : Nat) : dlF S R (n + 1) = dlU (S n) (R n) (dlF S R n) := by
  funext j
  rfl
theorem c_setDl {d p : Nat} {g h : AH} {r : Option Nat} {dl : Nat → Option Nat} (hc : ChoSh g) (q : Qt g h) (hp : p < 5) (hr : ∀ k, r = some k → k ≤ 240) (hd : ∀ j k, dl j = some k → k ≤ 240) (h116 : ∀ j, j < 5 → hAI h 116 j = oC (dl j)) (h108 : hFI h 108 112 = nI (cntB (fun j => isS (dl j)) 5)) :
    ∃ h2, Qt g h2 ∧ (∀ j, j < 5 → hAI h2 116 j = oC (dlU p r dl j)) ∧ hFI h2 108 112 = nI (cntB (fun j => isS (dlU p r dl j)) 5) ∧ am_C PG (d + 2) 20 [.ref 112, .int (nI p), .int (oC r)] h = some (none, h2) := by
  obtain ⟨c0, -, cs⟩ := q.cho hc
  obtain ⟨r2, k2, l2⟩ := cs 3 (by decide)
  have r2 : hFR h 105 112 = some 116 := r2
  have k2 : hK h 116 = 50 := k2
  have l2 : hLN h 116 = 5 := l2
  have ep : ∀ x, am_in (nI p) 5 x = x := am_inN hp (by decide)
  have tp : Int32.toNatClampNeg (nI p) = p := nI_clamp (by omega)
  have hpp := h116 p hp
  cases r with
  | none =>
    have e : dlU p none dl = dl := by
      funext j
      unfold dlU
      split <;> rfl
    rw [e]
    refine ⟨h, q, h116, h108, ?_⟩
    have d1 : ((-1 : Int32) < 0) = True := eq_true (by decide)
    show am_C PG (d + 2) 20 [.ref 112, .int (nI p), .int (-1)] h = _
    rw [q_X1_setDeadline]
    simp only [d1, if_true]
  | some x =>
    have hx := hr x rfl
    have d0 : (nI x < 0) = False := eq_false (nI_pos (by omega))
    show ∃ h2, Qt g h2 ∧ _ ∧ _ ∧ am_C PG (d + 2) 20 [.ref 112, .int (nI p), .int (nI x)] h = _
    cases e : dl p with
    | none =>
      rw [e] at hpp
      have hpp : hAI h 116 p = -1 := hpp
      have d1 : ((-1 : Int32) < 0) = True := eq_true (by decide)
      have hu : dlU p (some x) dl p = some x := by
        unfold dlU
        rw [if_pos rfl, e]
      have ho : ∀ j, j ≠ p → dlU p (some x) dl j = dl j := fun j hj => if_neg (fun z => hj z.symm)
      have hcnt := cntB_rm (P := fun j => isS (dlU p (some x) dl j)) (j := p) (by rw [hu]; rfl) 5 hp
      have hsame : cntB (fun k => !decide (k = p) && isS (dlU p (some x) dl k)) 5 = cntB (fun j => isS (dl j)) 5 := cntB_congr 5 (fun j _ => by
        by_cases z : j = p
        · subst z
          rw [decide_eq_true rfl, e]
          rfl
        · rw [decide_eq_false z, ho j z]
          rfl)
      rw [hsame] at hcnt
      refine ⟨sEI (sFI h 108 112 (nI (cntB (fun j => isS (dl j)) 5 + 1))) 116 p (nI x), (q.fih 108 112 _ (by unfold cFld; omega)).eih _ _ _ (by omega), fun j hj => ?_, ?_, ?_⟩
      · rw [sEI_at, rd_hAI_sFI]
        by_cases z : j = p
        · subst z
          rw [pk_us, hu]
          rfl
        · rw [pk_un z, ho j z]
          exact h116 j hj
      · rw [rd_hFI_sEI, sFI_at, hcnt]
      · rw [q_X1_setDeadline]
        simp only [d0, if_false, am_kd, c0, r2, k2, l2, if_true, bR_s, ep, tp, hpp, d1, h108, am_let_e, rd_hK_sFI, rd_hFR_sFI, rd_hLN_sFI, nI_1]
    | some k =>
      rw [e] at hpp
      have hpp : hAI h 116 p = nI k := hpp
      have hk := hd p k e
      have d1 : (nI k < 0) = False := eq_false (nI_pos (by omega))
      have hu : dlU p (some x) dl p = some (Nat.min k x) := by
        unfold dlU
        rw [if_pos rfl, e]
      have ho : ∀ j, j ≠ p → dlU p (some x) dl j = dl j := fun j hj => if_neg (fun z => hj z.symm)
      have hsame : cntB (fun j => isS (dlU p (some x) dl j)) 5 = cntB (fun j => isS (dl j)) 5 := cntB_congr 5 (fun j _ => by
        by_cases z : j = p
        · subst z
          rw [hu, e]
          rfl
        · rw [ho j z])
      have km := am_min d k x h (by omega) (by omega)
      refine ⟨sEI h 116 p (nI (Nat.min k x)), q.eih _ _ _ (by omega), fun j hj => ?_, ?_, ?_⟩
      · rw [sEI_at]
        by_cases z : j = p
        · subst z
          rw [pk_us, hu]
          rfl
        · rw [pk_un z, ho j z]
          exact h116 j hj
      · rw [rd_hFI_sEI, hsame]
        exact h108
      · rw [q_X1_setDeadline]
        simp only [d0, if_false, am_kd, c0, r2, k2, l2, if_true, bR_s, ep, tp, hpp, d1, km, bI_s, am_let_e]
theorem c_bestRound {d p np nc ne nw len n hr e q0 a : Nat} {W : Int32 → Int32 → Int32 → Int32 → Int32} {g : AH} {dm : Nat → Nat → Option Nat} {S : Nat → Nat} (L : Lk g g p np nc ne nw len n W) (hp4 : p = 4 ∨ p = 30) (hc : ChoSh g) (hA : AhSh g 93 94) (h62 : StSh g 62) (hdm : ∀ a b, a < np → b < np → hAI g (p + 3) (5 * a + b) = oC (dm a b) ∧ ∀ k, dm a b = some k → k ≤ 9999) (hS : ∀ c, c < nc → hAI g (p + 5) c = nI (S c) ∧ S c < np) (hR : (getS g 62).1 = nI hr) (hh : hr + 241 < 2 ^ 31) (he : e < 4) (hq : hAI g 66 e = nI q0) (hq2 : q0 < np) (ha : a ≤ 5) :
    ∃ g1, Qt g g1 ∧ am_C PG (d + 12) 19 [.ref 112, .ref p, .ref 62, .int (nI e), .int (nI a)] g = some (some (.int (rdA (cntB (fun j => isS (dlF S (fun c => fsO (xstb W (hAI g (p + 4)) (hAI g (p + 6)) (hAI g (p + 7)) (hAI g (p + 13)) hr c (getc (getS g 62) c)) 241) nc j)) 5) (rdF dm (dlF S (fun c => fsO (xstb W (hAI g (p + 4)) (hAI g (p + 6)) (hAI g (p + 7)) (hAI g (p + 13)) hr c (getc (getS g 62) c)) 241) nc) np (cntB (fun j => isS (dlF S (fun c => fsO (xstb W (hAI g (p + 4)) (hAI g (p + 6)) (hAI g (p + 7)) (hAI g (p + 13)) hr c (getc (getS g 62) c)) 241) nc j)) 5) (fun _ => false) (fun _ => 0) 0 q0 0 none) a)), g1) := by
  have hn5 : np ≤ 5 := L.1.2.2.2.2.2.1
  have hn6 : nc ≤ 6 := L.1.2.2.2.2.2.2.1
  have kst : ∀ h c, Qt g h → c < nc → ∃ h2, Qt g h2 ∧ hAI h2 116 = hAI h 116 ∧ hFI h2 108 112 = hFI h 108 112 ∧ am_C PG (d + 11) 3 [.ref 93, .ref p, .ref 62, .int (nI c)] h = some (some (.int (oC (fsO (xstb W (hAI g (p + 4)) (hAI g (p + 6)) (hAI g (p + 7)) (hAI g (p + 13)) hr c (getc (getS g 62) c)) 241))), h2) := by
    intro h c q hc
    have L1 := L.qt q hp4
    obtain ⟨a1, a2, a3⟩ := hA
    obtain ⟨f, T, r, r1, r2⟩ := c_still (d := d + 7) (c := c) (hr := hr) L1.1 L1.2.1 (⟨by rw [q.1]; exact a1, by rw [q.2.1]; exact a2, q.sta a3⟩ : AhSh h 93 94) (q.sta h62) (Or.inr (by decide)) (Or.inr (by omega)) (by omega) hh (by rw [q.get62]; exact hR)
    rw [q.get62, q.row (a := p + 4) (by unfold cRow; omega), q.row (a := p + 6) (by unfold cRow; omega), q.row (a := p + 7) (by unfold cRow; omega), q.row (a := p + 13) (by unfold cRow; omega)] at r1
    rw [← fsO_eq r1]
    refine ⟨_, (q.aih _ _ (by omega)).tr (Qt.st _ 94 T (by omega)), ?_, ?_, r2⟩
    · rw [pS_far _ _ (by omega), sAI_ne _ _ (by omega)]
    · rw [pS_fi _ _ (Or.inl (by decide)), rd_hFI_sAI]
  generalize hRR : (fun c => fsO (xstb W (hAI g (p + 4)) (hAI g (p + 6)) (hAI g (p + 7)) (hAI g (p + 13)) hr c (getc (getS g 62) c)) 241) = R
  have kst : ∀ h c, Qt g h → c < nc → ∃ h2, Qt g h2 ∧ hAI h2 116 = hAI h 116 ∧ hFI h2 108 112 = hFI h 108 112 ∧ am_C PG (d + 11) 3 [.ref 93, .ref p, .ref 62, .int (nI c)] h = some (some (.int (oC (R c))), h2) := by
    rw [← hRR]
    exact kst
  have hRb : ∀ i k, R i = some k → k ≤ 240 := fun i k z => by
    rw [← hRR] at z
    have := ((fsO_sp _ 241).1 k z).1
    omega
  have hdb : ∀ m j k, dlF S R m j = some k → k ≤ 240 := fun m j k z => dlF_le hRb m j k z
  generalize hQ : am_C PG (d + 12) 19 [.ref 112, .ref p, .ref 62, .int (nI e), .int (nI a)] g = Q
  have c0 := hc.1
  have lp1 : ∀ i, i ≤ 5 → ∃ h, Qt g h ∧ (∀ j, j < i → hAI h 116 j = -1) ∧ hFI h 108 112 = 0 ∧ Q = am_R PG (d + 12) 19 8 [some (.ref 112), some (.ref p), some (.ref 62), some (.int (nI e)), some (.int (nI a)), some (.int (nI i))] [] h := by
    intro i
    induction i with
    | zero =>
      intro _
      refine ⟨sFI g 108 112 0, Qt.fi _ _ _ _ (by unfold cFld; omega), fun j hj => by omega, sFI_at _ _ _ _, ?_⟩
      rw [← hQ, q_X1_bestRound, am_kd_t c0, am_let_e]
      rfl
    | succ i ih =>
      intro hi
      obtain ⟨h, q, b1, b2, b3⟩ := ih (by omega)
      obtain ⟨c1, -, cs⟩ := q.cho hc
      obtain ⟨r2, k2, l2⟩ := cs 3 (by decide)
      have r2 : hFR h 105 112 = some 116 := r2
      have k2 : hK h 116 = 50 := k2
      have l2 : hLN h 116 = 5 := l2
      have e5 : (nI i < (5 : Int32)) = True := eq_true (nI_lt (b := 5) (by omega) (by decide))
      have e1 : ∀ x, am_in (nI i) 5 x = x := am_inN (by omega) (by decide)
      have t1 : Int32.toNatClampNeg (nI i) = i := nI_clamp (by omega)
      refine ⟨sEI h 116 i (-1), q.eih _ _ _ (by omega), fun j hj => ?_, by rw [rd_hFI_sEI]; exact b2, ?_⟩
      · rw [sEI_at]
        by_cases z : j = i
        · subst z; rw [pk_us]
        · rw [pk_un z]; exact b1 j (by omega)
      · rw [b3, q_X1_bestRound_8]
        simp only [am_kd, c1, r2, k2, l2, if_true, bR_s, e5, e1, t1, am_let_e, nI_1]
  have lp2 : ∀ i, i ≤ nc → ∃ h, Qt g h ∧ (∀ j, j < 5 → hAI h 116 j = oC (dlF S R i j)) ∧ hFI h 108 112 = nI (cntB (fun j => isS (dlF S R i j)) 5) ∧ Q = am_R PG (d + 12) 19 31 [some (.ref 112), some (.ref p), some (.ref 62), some (.int (nI e)), some (.int (nI a)), some (.int (nI i))] [] h := by
    intro i
    induction i with
    | zero =>
      intro _
      obtain ⟨h, q, b1, b2, b3⟩ := lp1 5 (Nat.le_refl _)
      refine ⟨h, q, b1, b2, ?_⟩
      rw [b3, q_X1_bestRound_8, if_neg (show ¬ nI 5 < (5 : Int32) by decide)]
      rfl
    | succ i ih =>
      intro hi
      obtain ⟨h, q, b1, b2, b3⟩ := ih (by omega)
      obtain ⟨h2, q2, d1, d2, d3⟩ := kst h i q (by omega)
      obtain ⟨s1, s2⟩ := hS i (by omega)
      obtain ⟨h3, q3, f1, f2, f3⟩ := c_setDl (d := d + 9) (p := S i) (r := R i) (dl := dlF S R i) hc q2 (by omega) (hRb i) (hdb i) (fun j hj => by rw [d1]; exact b1 j hj) (by rw [d2]; exact b2)
      have L1 := L.qt q hp4
      have p0 := L1.1.1.1.1
      have f503 := L1.1.2.2.1
      obtain ⟨⟨⟨p0, pf1, pf2, pf3, pf4, pf5, pf6, pf7, pf8, pf9, pf10, pf11, pf12, pf13, pf14, pf17, pk1, pk2, pk3, pk4, pk5, pk6, pk7, pk8, pk9, pk10, pk11, pk12, pk13, pn1, pn2, pn3, pn4, pn5, pn6, pn7, pn8, pn9, pn10, pn11, pn12, pn13⟩, -, -⟩, -⟩ := L1.1
      obtain ⟨c1, rA, -⟩ := q.cho hc
      have c2 := (q2.cho hc).1
      have kA : hK h 93 = 1 := by rw [q.1]; exact hA.1
      have w5 : hAI h (p + 5) i = nI (S i) := by rw [q.row (by unfold cRow; omega)]; exact s1
      have e5 : (nI i < nI nc) = True := eq_true (nI_lt (by omega) (by omega))
      have e1 : ∀ x, am_in (nI i) 6 x = x := am_inN (by omega) (by decide)
      have t1 : Int32.toNatClampNeg (nI i) = i := nI_clamp (by omega)
      refine ⟨h3, q3, fun j hj => by rw [dlF_s]; exact f1 j hj, by rw [dlF_s]; exact f2, ?_⟩
      rw [b3, q_X1_bestRound_31]
      simp only [am_kd, p0, pf1, pf2, pf3, pf4, pf5, pf6, pf7, pf8, pf9, pf10, pf11, pf12, pf13, pf14, pf17, pk1, pk2, pk3, pk4, pk5, pk6, pk7, pk8, pk9, pk10, pk11, pk12, pk13, pn1, pn2, pn3, pn4, pn5, pn6, pn7, pn8, pn9, pn10, pn11, pn12, pn13, f503, c1, c2, rA, kA, if_true, bR_s, e5, e1, t1, d3, bI_s, w5, f3, bV_s, nI_1]
  obtain ⟨h, q, b1, b2, b3⟩ := lp2 nc (Nat.le_refl _)
  have hdb2 := hdb nc
  generalize dlF S R nc = dl at b1 b2 hdb2 ⊢
  have hs5 := cntB_le (fun j => isS (dl j)) 5
  generalize cntB (fun j => isS (dl j)) 5 = s at b2 hs5 ⊢
  have q2 : Qt g (sFI h 109 112 (-1)) := q.fih _ _ _ (by unfold cFld; omega)
  obtain ⟨h2, q3, f1, f2, f3, f4, f5⟩ := c_goOn L hp4 hc hdm hdb2 hs5 s (d + (9 - s)) (fun _ => false) (fun _ => 0) 0 q0 0 none (sFI h 109 112 (-1)) (by omega) hq2 (by omega) q2 (fun j hj => by rw [rd_hAI_sFI]; exact b1 j hj) (by rw [sFI_o _ _ (Or.inl (by decide))]; exact b2) (fun i hi => by omega) (sFI_at _ _ _ _)
  have kd : d + (9 - s) + s + 2 = d + 11 := by omega
  have z6 : bitN (fun _ => false) 6 = 0 := rfl
  rw [kd, z6, nI_0] at f5
  refine ⟨h2, q3, ?_⟩
  have L1 := L.qt q hp4
  have p0 := L1.1.1.1.1
  have f503 := L1.1.2.2.1
  have c1 := (q.cho hc).1
  obtain ⟨c2, -, cs⟩ := q3.cho hc
  obtain ⟨r2, k2, l2⟩ := cs 5 (by decide)
  have r2 : hFR h2 107 112 = some 118 := r2
  have k2 : hK h2 118 = 50 := k2
  have l2 : hLN h2 118 = 5 := l2
  have hs62 := q.sta h62
  have k62 := hs62.1
  have r704 : hFR h 704 62 = some 66 := hs62.2.2.2.2.1
  have k66 : hK h 66 = 50 := by rw [q.1]; exact h62.2.2.2.2.2.2.2.2.2.2.2.2.1
  have l66 : hLN h 66 = 4 := by rw [q.2.2.1]; exact h62.2.2.2.2.2.2.2.2.2.2.2.2.2.2.2.2.2.2.2.2.1
  have w66 : hAI h 66 e = nI q0 := by rw [q.row (by unfold cRow; omega)]; exact hq
  have e5 : (nI nc < nI nc) = False := eq_false (nI_nlt (Nat.le_refl _) (by omega))
  have e1 : ∀ x, am_in (nI e) 4 x = x := am_inN he (by decide)
  have t1 : Int32.toNatClampNeg (nI e) = e := nI_clamp (by omega)
  have hd : Q = (if hFI h2 109 112 < 0 then some (some (.int (-1)), h2) else (if nI s < nI a then some (some (.int (-1)), h2) else (if nI a < (1 : Int32) then some (some (.int (hFI h2 109 112)), h2) else am_in (nI a - 1) 5 (some (some (.int (hAI h2 118 (Int32.toNatClampNeg (nI a - 1)))), h2))))) := by
    rw [b3, q_X1_bestRound_31]
    simp only [am_kd, p0, f503, e5, if_false, if_true, c1, am_let_e, rd_hK_sFI, rd_hFR_sFI, rd_hLN_sFI, rd_hAI_sFI, k62, r704, k66, l66, bR_s, e1, t1, w66, f5, bV_s, c2, f3, r2, k2, l2]
  rw [hd]
  generalize rdF dm dl np s (fun _ => false) (fun _ => 0) 0 q0 0 none = b at f4 ⊢
  cases b with
  | none =>
    have he : hFI h2 109 112 = -1 := f4
    rw [he, if_pos (show (-1 : Int32) < 0 by decide)]
    rfl
  | some bb =>
    obtain ⟨t, O⟩ := bb
    obtain ⟨he, ht, hO⟩ := f4
    rw [he, if_neg (nI_pos (by omega))]
    have hra : rdA s (some (t, O)) a = (if s < a then -1 else if a = 0 then nI t else nI (O (a - 1))) := rfl
    rw [hra]
    by_cases c3 : s < a
    · rw [if_pos (nI_lt c3 (by omega)), if_pos c3]
    · rw [if_neg (nI_nlt (by omega) (by omega)), if_neg c3]
      by_cases c4 : a = 0
      · rw [if_pos (show nI a < (1 : Int32) by rw [c4]; decide), if_pos c4]
      · obtain ⟨y, rfl⟩ : ∃ y, a = y + 1 := ⟨a - 1, by omega⟩
        rw [if_neg (show ¬ nI (y + 1) < (1 : Int32) from nI_nlt (a := y + 1) (b := 1) (by omega) (by omega)), if_neg c4, nI_pred, am_inN (by omega) (by decide), nI_clamp (by omega), Nat.add_sub_cancel, hO y (by omega)]
