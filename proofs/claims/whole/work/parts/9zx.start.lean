/-! The heap in which the law begins to read its script. -/
theorem ChoSh.sa {h g : AH} (e : ∀ x, 112 ≤ x → x < 124 → Sa h g x) (s : ChoSh h) : ChoSh g := by
  obtain ⟨a1, a2, a3⟩ := s
  have y := e 112 (by decide) (by decide)
  refine ⟨y.1.trans a1, (y.2.2.2.2.2.2.2 _).trans a2, fun i hi => ?_⟩
  have r : 113 ≤ (chF.getD i (0, 0, 0)).2.1 ∧ (chF.getD i (0, 0, 0)).2.1 < 124 := (show ∀ i, i < 11 → 113 ≤ (chF.getD i (0, 0, 0)).2.1 ∧ (chF.getD i (0, 0, 0)).2.1 < 124 by decide) i hi
  obtain ⟨b1, b2, b3⟩ := a3 i hi
  have yr := e (chF.getD i (0, 0, 0)).2.1 (by omega) (by omega)
  exact ⟨(y.2.2.2.2.2.2.2 _).trans b1, yr.1.trans b2, yr.2.1.trans b3⟩
theorem MSh.sa {h g : AH} (e : ∀ x, 348 ≤ x → x < 410 → Sa h g x) (s : MSh h) : MSh g := ⟨(e 348 (by decide) (by decide)).1.trans s.1, fun i hi => by
  obtain ⟨a, b, c⟩ := s.2 i hi
  exact ⟨((e 348 (by decide) (by decide)).2.2.2.2.2.2.2 _).trans a, (e (349 + i) (by omega) (by omega)).1.trans b, (e (349 + i) (by omega) (by omega)).2.1.trans c⟩⟩
theorem WdSh.sa {h g : AH} (e : ∀ x, 1000000 ≤ x → Sa h g x) (s : WdSh h) : WdSh g := by
  obtain ⟨s1, s2, s3⟩ := s
  have y := e 1000100 (by decide)
  refine ⟨y.1.trans s1, y.2.1.trans s2, fun i hi => ?_⟩
  obtain ⟨t1, t2, t3, t4⟩ := s3 i hi
  have z := e (1000000 + i) (by omega)
  exact ⟨by rw [y.2.2.2.2.1]; exact t1, z.1.trans t2, (z.2.2.2.2.2.2.1 _).trans t3, (z.fi _).trans t4⟩
theorem wd_sp : ∀ i, i < 31 → w_sp i = lN (wsp.getD i 0) := by decide +kernel
theorem wd_kp : ∀ i, i < 31 → w_kp i = (if i < 27 then (1 : Int32) else 0) := by decide +kernel
theorem wd_ini (L : Nat) (xs : Nat → Int32) : WdSh (h_ini L xs) := by
  refine ⟨?_, ?_, fun i hi => ⟨?_, ?_, ?_, ?_⟩⟩
  · show (if 1000000 ≤ 1000100 ∧ 1000100 < 1000031 then 11 else if 1000100 = 1000100 then 56 else if 1000100 = 1000101 then 57 else 0) = 56
    rw [if_neg (by omega), if_pos rfl]
  · show (if 1000100 = 1000100 then 31 else if 1000100 = 1000101 then L else 0) = 31
    rw [if_pos rfl]
  · show (if 1000100 = 1000100 ∧ i < 31 then some (1000000 + i) else none) = some (1000000 + i)
    rw [if_pos ⟨rfl, hi⟩]
  · show (if 1000000 ≤ 1000000 + i ∧ 1000000 + i < 1000031 then 11 else if 1000000 + i = 1000100 then 56 else if 1000000 + i = 1000101 then 57 else 0) = 11
    rw [if_pos (by omega)]
  · show (if 1000 = 1000 ∧ 1000000 ≤ 1000000 + i ∧ 1000000 + i < 1000031 then w_sp (1000000 + i - 1000000) else 0) = _
    rw [if_pos ⟨rfl, by omega, by omega⟩, Nat.add_sub_cancel_left]
    exact wd_sp i hi
  · show (if 1001 = 1001 ∧ 1000000 ≤ 1000000 + i ∧ 1000000 + i < 1000031 then w_kp (1000000 + i - 1000000) else 0) = _
    rw [if_pos ⟨rfl, by omega, by omega⟩, Nat.add_sub_cancel_left]
    exact wd_kp i hi
theorem scr_ini (L : Nat) (xs : Nat → Int32) : hK (h_ini L xs) 1000101 = 57 ∧ hLN (h_ini L xs) 1000101 = L ∧ hAI (h_ini L xs) 1000101 = xs ∧ hNX (h_ini L xs) = 0 := by
  refine ⟨?_, ?_, ?_, rfl⟩
  · show (if 1000000 ≤ 1000101 ∧ 1000101 < 1000031 then 11 else if 1000101 = 1000100 then 56 else if 1000101 = 1000101 then 57 else 0) = 57
    rw [if_neg (by omega), if_neg (by omega), if_pos rfl]
  · show (if 1000101 = 1000100 then 31 else if 1000101 = 1000101 then L else 0) = L
    rw [if_neg (by omega), if_pos rfl]
  · show (if 1000101 = 1000101 then xs else fun _ => 0) = xs
    rw [if_pos rfl]
theorem SR_0 {M : Nat → Nat → Int32} {R : SV} {Q : MQv} (h1 : R.1 = 0) (h2 : Q.1.1 = 0) (h3 : Q.2 42 = 0) (h4 : ∀ c, c < 6 → getc Q.1 c = (0, 0, 0)) (h5 : ∀ e, e < 4 → Q.1.2.2.2.2.1 e = 0 ∧ Q.1.2.2.2.2.2.1 e = 0 ∧ Q.1.2.2.2.2.2.2.1 e = 0) (h6 : ∀ p, p < 5 → Q.1.2.2.2.2.2.2.2.1 p = 0) (h7 : ∀ w, w < 6 → dn Q.1 w = 0) : SR M 0 0 0 0 0 R Q :=
  ⟨h1.trans nI_0.symm, h2.trans nI_0.symm, fun c h => absurd h (Nat.not_lt_zero _), fun c h => absurd h (Nat.not_lt_zero _), fun c h => absurd h (Nat.not_lt_zero _), fun c h => absurd h (Nat.not_lt_zero _), h3, fun c h => absurd h (Nat.not_lt_zero _), fun c h => absurd h (Nat.not_lt_zero _), fun c h => absurd h (Nat.not_lt_zero _), fun c h => absurd h (Nat.not_lt_zero _), fun c _ h => h4 c h, fun c _ h => h5 c h, fun c _ h => h6 c h, fun c _ h => h7 c h⟩
theorem start_inv (d L : Nat) (xs : Nat → Int32) : ∃ F, am_C PG (d + 5) 274 [.ref 1000101] (h_ini L xs) = am_R PG (d + 5) 274 23 [some (.ref 1000101), some (.ref 0), some (.ref 348), some (.ref 410), some (.int (0 : Int32)), none, none] [] F ∧ hNX F = 411 ∧ Inv 0 L xs F := by
  obtain ⟨i1, i2, i3, hn⟩ := scr_ini L xs
  have wd := wd_ini L xs
  generalize h_ini L xs = h at i1 i2 i3 hn wd
  obtain ⟨G, c1, X⟩ := n_Thirst (d := d) hn
  obtain ⟨g, c2, x2, f2, ms, mz, zf⟩ := n_Model (d := d + 3) X.1
  obtain ⟨F, eF⟩ : ∃ F, nArr g 53 1 = F := ⟨_, rfl⟩
  have sF : ∀ x, x ≠ 410 → Sa g F x := fun x e => by rw [← eF]; exact nArr_sa g 53 1 (by omega)
  have oF : ∀ x, (x < 348 ∨ 411 ≤ x) → Sa G F x := fun x e => (f2 x (by omega)).tr (sF x (by omega))
  obtain ⟨xn, xo, xi, xk, x1100, x1101, x1102, x1103, x1104, x1105, x1106, x1107, x1108, x1111, x1112, x1113, ⟨t1, t2, t3, t4⟩, ti, ⟨r1, r2⟩, p4, p30, d56, s61, ⟨m1, m2, m3⟩, ⟨l1, l2, l3⟩, ⟨u1, u2, u3⟩, s84, ⟨ah, ah1, s103⟩, ch, ⟨v1, v2, v3, v4, v5, v6⟩, ⟨w1, w2⟩, ⟨y1, y2⟩, ⟨z1, z2, z3, z4⟩⟩ := X
  have wF : ∀ x, 1000000 ≤ x → Sa h F x := fun x e => (xo x (by omega)).tr (oF x (by omega))
  have F0 := oF 0 (by decide)
  have fr : ∀ k, hFR F k 0 = hFR G k 0 := F0.2.2.2.2.2.2.2
  have rz : ∀ x, 349 ≤ x → x < 410 → hAI F x = fun _ => 0 := fun x e1 e2 => (sF x (by omega)).row.trans (mz x e1 e2).1
  have rf : ∀ k, hFI F k 348 = 0 := fun k => ((sF 348 (by decide)).fi k).trans (zf k)
  have r0 : ∀ x i, 349 ≤ x → x < 410 → hAI F x i = 0 := fun x i e1 e2 => by rw [rz x e1 e2]
  have k410 : hK F 410 = 53 ∧ hLN F 410 = 1 := by rw [← eF, ← x2]; exact ⟨nArr_k _ _ _, nArr_l _ _ _⟩
  have W0 := wF 1000101 (by decide)
  have F4 := oF 4 (by decide)
  have F19 := oF 19 (by decide)
  have P4 : PoSh F 4 := PoSh.sa (fun x h1 h2 => oF x (by omega)) p4
  have MS : MSh F := MSh.sa (fun x h1 h2 => sF x (by omega)) ms
  have f4 : ∀ k, hFI F k 4 = nI 0 := fun k => ((F4.fi k).trans (v2 k)).trans nI_0.symm
  have r4 : ∀ x i, 2 ≤ x → x ≤ 13 → hAI F (4 + x) i = 0 := fun x i e1 e2 => by rw [(oF (4 + x) (by omega)).row, v1 x e1 e2]
  refine ⟨F, ?_, by rw [← eF, nArr_n, x2], ?_, WdSh.sa wF wd, W0.row.trans i3, ?_, ?_, ?_, 4, 30, 0, 0, 0, 0, 3, 0, fun b o _ _ => b + o, Or.inl ⟨rfl, rfl⟩, (fr _).trans x1102, (fr _).trans x1103, ?_, ?_, ?_, ?_, ?_, ?_⟩
  · -- the run so far
    have n1 : ∀ x, am_nw (1 : Int32) x = x := am_nwN (n := 1) (by decide)
    have t1' : Int32.toNatClampNeg (1 : Int32) = 1 := by decide
    have kh := nObj_k h 12
    rw [hn] at kh
    have kG := nObj_k G 13
    rw [xn] at kG
    rw [q_L_law, am_let_e, hn, am_kd_t kh, c1, bV_s, am_let_e, xn, am_kd_t kG, c2, bV_s, n1, t1', am_let_e, eF, x2]
  · -- shapes
    have y1' := oF 1 (by decide)
    have y2' := oF 2 (by decide)
    have y3' := oF 3 (by decide)
    have y81 := oF 81 (by decide)
    have y82 := oF 82 (by decide)
    have y83 := oF 83 (by decide)
    have y93 := oF 93 (by decide)
    refine ⟨F0.1.trans xk, (fr _).trans x1100, (fr _).trans x1101, (fr _).trans x1104, (fr _).trans x1105, (fr _).trans x1106, (fr _).trans x1107, (fr _).trans x1112, (fr _).trans x1113, ⟨y1'.1.trans t1, (y1'.2.2.2.2.2.2.2 _).trans t2, y2'.1.trans t3, y2'.2.1.trans t4⟩, ⟨y3'.1.trans r1, (y3'.2.2.2.2.2.2.2 _).trans r2⟩, P4, PoSh.sa (fun x h1 h2 => oF x (by omega)) p30, DaSh.sa (fun x h1 h2 => oF x (by omega)) d56, StoSh.sa (fun x h1 h2 => oF x (by omega)) s61, ⟨y81.1.trans m1, y81.2.1.trans m2, fun k hk => ⟨by rw [y81.2.2.2.2.1]; exact (m3 k hk).1, StoSh.sa (fun x h1 h2 => oF x (by omega)) (m3 k hk).2⟩⟩, ⟨y82.1.trans l1, y82.2.1.trans l2⟩, ⟨F0.1.trans xk, (fr _).trans x1108, (fr _).trans x1111, y83.1.trans u1, y83.2.1.trans u2, fun j hj => by rw [y83.2.2.2.2.1]; exact (u3 j hj).1, fun j hj => StSh.sa (fun x h1 h2 => oF x (by omega)) (u3 j hj).2, StSh.sa (fun x h1 h2 => oF x (by omega)) s84⟩, ⟨y93.1.trans ah.1, (y93.2.2.2.2.2.2.2 _).trans ah.2.1, StSh.sa (fun x h1 h2 => oF x (by omega)) ah.2.2⟩, (y93.2.2.2.2.2.2.2 _).trans ah1, StSh.sa (fun x h1 h2 => oF x (by omega)) s103, ChoSh.sa (fun x h1 h2 => oF x (by omega)) ch, MS, k410, W0.1.trans i1, W0.2.1.trans i2⟩
  · refine ⟨((oF 21 (by decide)).fi _).trans (w2 _), fun i hi => ⟨?_, ?_, ?_⟩, fun i hi => ?_⟩
    · exact congrFun ((oF 23 (by decide)).row.trans (w1 2 (by decide) (by decide))) i
    · exact congrFun ((oF 24 (by decide)).row.trans (w1 3 (by decide) (by decide))) i
    · exact congrFun ((oF 29 (by decide)).row.trans (w1 8 (by decide) (by decide))) i
    · exact congrFun ((oF 27 (by decide)).row.trans (w1 6 (by decide) (by decide))) i
  · refine ⟨((oF 47 (by decide)).fi _).trans (y2 _), fun i hi => ⟨?_, ?_, ?_⟩, fun i hi => ?_⟩
    · exact congrFun ((oF 49 (by decide)).row.trans (y1 2 (by decide) (by decide))) i
    · exact congrFun ((oF 50 (by decide)).row.trans (y1 3 (by decide) (by decide))) i
    · exact congrFun ((oF 55 (by decide)).row.trans (y1 8 (by decide) (by decide))) i
    · exact congrFun ((oF 53 (by decide)).row.trans (y1 6 (by decide) (by decide))) i
  · exact ⟨0, by decide, (((oF 1 (by decide)).fi _).trans (ti _)).trans nI_0.symm, (rf _).trans nI_0.symm, fun i hi => absurd hi (Nat.not_lt_zero _)⟩
  · -- the post told
    refine ⟨⟨⟨P4, f4 _, f4 _, f4 _, f4 _, by decide, by decide, by decide, by decide⟩, ⟨((oF 18 (by decide)).fi _).trans v3, by decide, fun f b o k s => lwv_usual ((congrFun F19.row 0).trans v4) ((congrFun F19.row 1).trans v5) ((congrFun F19.row 2).trans v6) f b o k s⟩, fun w hw => absurd hw (Nat.not_lt_zero _), MS, ⟨r0 370 0 (by decide) (by decide), (r0 371 0 (by decide) (by decide)).trans nI_0.symm, by decide, fun _ _ _ _ _ => rfl, fun z => absurd z (Nat.lt_irrefl _)⟩, ⟨(r0 350 2 (by decide) (by decide)).trans nI_0.symm, (r0 350 3 (by decide) (by decide)).trans nI_0.symm, (r0 350 4 (by decide) (by decide)).trans nI_0.symm, by decide, by decide, by decide⟩, (r0 350 0 (by decide) (by decide)).trans nI_0.symm, ⟨fun c h => absurd h (Nat.not_lt_zero _), fun c h => absurd h (Nat.not_lt_zero _), fun c h => absurd h (Nat.not_lt_zero _), fun j hj => (r4 13 j (by decide) (by decide)).trans (r0 369 j (by decide) (by decide)).symm, fun c h => absurd h (Nat.not_lt_zero _), fun c h => absurd h (Nat.not_lt_zero _), fun c h => absurd h (Nat.not_lt_zero _), by decide, by decide, by decide, by decide⟩, fun a b ha hb => ⟨(r4 2 _ (by decide) (by decide)).trans (r0 356 _ (by decide) (by decide)).symm, 0, by decide, (r0 356 _ (by decide) (by decide)).trans nI_0.symm⟩⟩, fun a b ha => absurd ha (Nat.not_lt_zero _), ⟨fun i h => absurd h (Nat.not_lt_zero _), fun i h => absurd h (Nat.not_lt_zero _), fun i h => absurd h (Nat.not_lt_zero _)⟩, fun f => ?_, ?_⟩
    · refine SR_0 (((oF 21 (by decide)).fi _).trans (w2 _)) rfl rfl (fun c hc => ?_) (fun e he => ⟨?_, ?_, rfl⟩) (fun p hp => ?_) (fun w hw => rfl)
      · show (cp 0 (hAI F 360) zN c, zN c, zN c) = (0, 0, 0)
        rw [cp_ge _ _ (Nat.zero_le _)]
        rfl
      · show cp 0 (hAI F 362) zN e = 0
        rw [cp_ge _ _ (Nat.zero_le _)]
        rfl
      · show cp 0 (hAI F 364) zN e = 0
        rw [cp_ge _ _ (Nat.zero_le _)]
        rfl
      · show cp 0 (hAI F 355) zN p = 0
        rw [cp_ge _ _ (Nat.zero_le _)]
        rfl
    · exact (f4 502).trans (nI_0.trans (r0 350 1 (by decide) (by decide)).symm)
  · refine ⟨0, Nat.le_refl _, ?_⟩
    rw [rz 397 (by decide) (by decide)]
    exact SR_0 (((oF 62 (by decide)).fi _).trans (z2 _)) rfl rfl (fun _ _ => rfl) (fun _ _ => ⟨rfl, rfl, rfl⟩) (fun _ _ => rfl) (fun _ _ => rfl)
  · exact ⟨0, by decide, (((oF 71 (by decide)).fi _).trans (z3 _)).trans nI_0.symm, (r0 386 0 (by decide) (by decide)).trans nI_0.symm, fun i hi => absurd hi (Nat.not_lt_zero _)⟩
  · exact ⟨⟨0, by decide, (((oF 76 (by decide)).fi _).trans (z4 _)).trans nI_0.symm, (r0 391 0 (by decide) (by decide)).trans nI_0.symm, fun i hi => absurd hi (Nat.not_lt_zero _)⟩, ⟨0, by decide, (((oF 76 (by decide)).fi _).trans (z4 _)).trans nI_0.symm, (r0 394 0 (by decide) (by decide)).trans nI_0.symm, fun i hi => absurd hi (Nat.not_lt_zero _)⟩⟩
  · intro k hk
    have e := r0 401 k (by decide) (by decide)
    refine ⟨(congrFun ((oF 82 (by decide)).row.trans l3) k).trans e.symm, Or.inl e, fun z => ?_⟩
    rw [e] at z
    exact absurd z (by decide)
  · exact ⟨0, 0, by decide, by decide, ((F0.fi _).trans (xi _)).trans nI_0.symm, ((F0.fi _).trans (xi _)).trans nI_0.symm, (rf _).trans nI_0.symm, fun j hj => absurd hj (Nat.not_lt_zero _)⟩
