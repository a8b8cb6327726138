/-! The reference's thirst; a clock that goes on. -/
/-- scratch of the reference: rows 375 to 384; one, oneShows, oneStill, dryNow -/
abbrev M4 : Type := Int32 × Int32 × Int32 × Int32
def m4 (w : M4) (k : Nat) : Int32 := match k with
  | 1265 => w.1
  | 1266 => w.2.1
  | 1267 => w.2.2.1
  | _ => w.2.2.2
def mV (h : AH) (ρ : Nat → Nat → Int32) : AH := (hK h, hFI h, hFJ h, hFR h, hLN h, fun a => if 375 ≤ a ∧ a ≤ 384 then ρ a else hAI h a, hAJ h, hAR h, hNX h)
def mF (h : AH) (w : M4) : AH := (hK h, fun k a => if a = 348 ∧ 1265 ≤ k ∧ k ≤ 1268 then m4 w k else hFI h k a, hFJ h, hFR h, hLN h, hAI h, hAJ h, hAR h, hNX h)
theorem rd_hK_mV (h : AH) (ρ : Nat → Nat → Int32) : hK (mV h ρ) = hK h := rfl
theorem rd_hFI_mV (h : AH) (ρ : Nat → Nat → Int32) : hFI (mV h ρ) = hFI h := rfl
theorem rd_hFJ_mV (h : AH) (ρ : Nat → Nat → Int32) : hFJ (mV h ρ) = hFJ h := rfl
theorem rd_hFR_mV (h : AH) (ρ : Nat → Nat → Int32) : hFR (mV h ρ) = hFR h := rfl
theorem rd_hLN_mV (h : AH) (ρ : Nat → Nat → Int32) : hLN (mV h ρ) = hLN h := rfl
theorem rd_hAI_mV (h : AH) (ρ : Nat → Nat → Int32) : hAI (mV h ρ) = fun a => if 375 ≤ a ∧ a ≤ 384 then ρ a else hAI h a := rfl
theorem rd_hAJ_mV (h : AH) (ρ : Nat → Nat → Int32) : hAJ (mV h ρ) = hAJ h := rfl
theorem rd_hAR_mV (h : AH) (ρ : Nat → Nat → Int32) : hAR (mV h ρ) = hAR h := rfl
theorem rd_hNX_mV (h : AH) (ρ : Nat → Nat → Int32) : hNX (mV h ρ) = hNX h := rfl
theorem rd_hK_mF (h : AH) (w : M4) : hK (mF h w) = hK h := rfl
theorem rd_hFI_mF (h : AH) (w : M4) : hFI (mF h w) = fun k a => if a = 348 ∧ 1265 ≤ k ∧ k ≤ 1268 then m4 w k else hFI h k a := rfl
theorem rd_hFJ_mF (h : AH) (w : M4) : hFJ (mF h w) = hFJ h := rfl
theorem rd_hFR_mF (h : AH) (w : M4) : hFR (mF h w) = hFR h := rfl
theorem rd_hLN_mF (h : AH) (w : M4) : hLN (mF h w) = hLN h := rfl
theorem rd_hAI_mF (h : AH) (w : M4) : hAI (mF h w) = hAI h := rfl
theorem rd_hAJ_mF (h : AH) (w : M4) : hAJ (mF h w) = hAJ h := rfl
theorem rd_hAR_mF (h : AH) (w : M4) : hAR (mF h w) = hAR h := rfl
theorem rd_hNX_mF (h : AH) (w : M4) : hNX (mF h w) = hNX h := rfl
theorem mV_out (h : AH) (ρ : Nat → Nat → Int32) {a : Nat} (e : a < 375 ∨ 384 < a) : hAI (mV h ρ) a = hAI h a := by
  rw [rd_hAI_mV]
  dsimp only
  rw [if_neg (by omega)]
theorem mV_in (h : AH) (ρ : Nat → Nat → Int32) {a : Nat} (e1 : 375 ≤ a) (e2 : a ≤ 384) : hAI (mV h ρ) a = ρ a := by
  rw [rd_hAI_mV]
  dsimp only
  rw [if_pos ⟨e1, e2⟩]
theorem mV_mV (h : AH) (ρ τ : Nat → Nat → Int32) : mV (mV h ρ) τ = mV h τ := by
  apply AH_ext
  all_goals (try simp only [rd_hK_mV, rd_hFI_mV, rd_hFJ_mV, rd_hFR_mV, rd_hLN_mV, rd_hAJ_mV, rd_hAR_mV, rd_hNX_mV])
  funext b
  by_cases e : 375 ≤ b ∧ b ≤ 384
  · rw [mV_in _ _ e.1 e.2, mV_in _ _ e.1 e.2]
  · rw [mV_out _ _ (by omega), mV_out _ _ (by omega), mV_out _ _ (by omega)]
theorem mV_self (h : AH) : mV h (hAI h) = h := by
  apply AH_ext
  all_goals (try simp only [rd_hK_mV, rd_hFI_mV, rd_hFJ_mV, rd_hFR_mV, rd_hLN_mV, rd_hAJ_mV, rd_hAR_mV, rd_hNX_mV])
  funext b
  by_cases e : 375 ≤ b ∧ b ≤ 384
  · rw [mV_in _ _ e.1 e.2]
  · rw [mV_out _ _ (by omega)]
theorem mV_mS (h : AH) (σ : Nat → Nat → Int32) : ∃ ρ, mS h σ = mV h ρ := by
  refine ⟨hAI (mS h σ), ?_⟩
  apply AH_ext
  all_goals (try simp only [rd_hK_mV, rd_hFI_mV, rd_hFJ_mV, rd_hFR_mV, rd_hLN_mV, rd_hAJ_mV, rd_hAR_mV, rd_hNX_mV, rd_hK_mS, rd_hFI_mS, rd_hFJ_mS, rd_hFR_mS, rd_hLN_mS, rd_hAJ_mS, rd_hAR_mS, rd_hNX_mS])
  funext b
  by_cases e : 375 ≤ b ∧ b ≤ 384
  · rw [mV_in _ _ e.1 e.2]
  · rw [mV_out _ _ (by omega), mS_out _ _ (by omega)]
theorem mV_E (h : AH) (ρ : Nat → Nat → Int32) {a : Nat} (e1 : 375 ≤ a) (e2 : a ≤ 384) (i : Nat) (v : Int32) : sEI (mV h ρ) a i v = mV h (am_up ρ a (upd (ρ a) i v)) := by
  apply AH_ext
  all_goals (try simp only [rd_hK_mV, rd_hFI_mV, rd_hFJ_mV, rd_hFR_mV, rd_hLN_mV, rd_hAJ_mV, rd_hAR_mV, rd_hNX_mV, rd_hK_sFI, rd_hFI_sFI, rd_hFJ_sFI, rd_hFR_sFI, rd_hLN_sFI, rd_hAI_sFI, rd_hAJ_sFI, rd_hAR_sFI, rd_hNX_sFI, rd_hK_sEI, rd_hFI_sEI, rd_hFJ_sEI, rd_hFR_sEI, rd_hLN_sEI, rd_hAI_sEI, rd_hAJ_sEI, rd_hAR_sEI, rd_hNX_sEI, rd_hK_sAI, rd_hFI_sAI, rd_hFJ_sAI, rd_hFR_sAI, rd_hLN_sAI, rd_hAI_sAI, rd_hAJ_sAI, rd_hAR_sAI, rd_hNX_sAI, rd_hK_sCP, rd_hFI_sCP, rd_hFJ_sCP, rd_hFR_sCP, rd_hLN_sCP, rd_hAI_sCP, rd_hAJ_sCP, rd_hAR_sCP, rd_hNX_sCP])
  funext b
  unfold am_up
  by_cases e : b = a
  · subst e
    rw [if_pos rfl, mV_in _ _ e1 e2, mV_in _ _ e1 e2, if_pos rfl]
  · rw [if_neg e]
    by_cases e3 : 375 ≤ b ∧ b ≤ 384
    · rw [mV_in _ _ e3.1 e3.2, mV_in _ _ e3.1 e3.2, if_neg e]
    · rw [mV_out _ _ (by omega), mV_out _ _ (by omega)]
theorem mF_5 (h : AH) (w : M4) : hFI (mF h w) 1265 348 = w.1 := by
  rw [rd_hFI_mF]
  dsimp only
  rw [if_pos (by decide)]
  rfl
theorem mF_6 (h : AH) (w : M4) : hFI (mF h w) 1266 348 = w.2.1 := by
  rw [rd_hFI_mF]
  dsimp only
  rw [if_pos (by decide)]
  rfl
theorem mF_7 (h : AH) (w : M4) : hFI (mF h w) 1267 348 = w.2.2.1 := by
  rw [rd_hFI_mF]
  dsimp only
  rw [if_pos (by decide)]
  rfl
theorem mF_8 (h : AH) (w : M4) : hFI (mF h w) 1268 348 = w.2.2.2 := by
  rw [rd_hFI_mF]
  dsimp only
  rw [if_pos (by decide)]
  rfl
theorem mF_out (h : AH) (w : M4) {k a : Nat} (e : a ≠ 348 ∨ k < 1265 ∨ 1268 < k) : hFI (mF h w) k a = hFI h k a := by
  rw [rd_hFI_mF]
  dsimp only
  rw [if_neg (by omega)]
theorem mF_mF (h : AH) (w x : M4) : mF (mF h w) x = mF h x := by
  apply AH_ext
  all_goals (try simp only [rd_hK_mF, rd_hFJ_mF, rd_hFR_mF, rd_hLN_mF, rd_hAI_mF, rd_hAJ_mF, rd_hAR_mF, rd_hNX_mF])
  funext k a
  simp only [rd_hFI_mF]
  by_cases e : a = 348 ∧ 1265 ≤ k ∧ k ≤ 1268
  · rw [if_pos e, if_pos e]
  · rw [if_neg e, if_neg e, if_neg e]
theorem mF_self (h : AH) : mF h (hFI h 1265 348, hFI h 1266 348, hFI h 1267 348, hFI h 1268 348) = h := by
  apply AH_ext
  all_goals (try simp only [rd_hK_mF, rd_hFJ_mF, rd_hFR_mF, rd_hLN_mF, rd_hAI_mF, rd_hAJ_mF, rd_hAR_mF, rd_hNX_mF])
  funext k a
  rw [rd_hFI_mF]
  dsimp only
  split
  · rename_i e
    obtain ⟨rfl, e1, e2⟩ := e
    rcases (show k = 1265 ∨ k = 1266 ∨ k = 1267 ∨ k = 1268 by omega) with rfl | rfl | rfl | rfl <;> rfl
  · rfl
theorem mF_set (h : AH) (w x : M4) {k : Nat} (v : Int32) (e1 : 1265 ≤ k) (e2 : k ≤ 1268) (e3 : m4 x k = v) (e4 : ∀ j, 1265 ≤ j → j ≤ 1268 → j ≠ k → m4 x j = m4 w j) : sFI (mF h w) k 348 v = mF h x := by
  apply AH_ext
  all_goals (try simp only [rd_hK_mF, rd_hFJ_mF, rd_hFR_mF, rd_hLN_mF, rd_hAI_mF, rd_hAJ_mF, rd_hAR_mF, rd_hNX_mF, rd_hK_sFI, rd_hFJ_sFI, rd_hFR_sFI, rd_hLN_sFI, rd_hAI_sFI, rd_hAJ_sFI, rd_hAR_sFI, rd_hNX_sFI])
  funext j a
  rw [rd_hFI_sFI, rd_hFI_mF, rd_hFI_mF]
  unfold am_up2
  dsimp only
  by_cases e : j = k ∧ a = 348
  · rw [if_pos e, if_pos ⟨e.2, by omega, by omega⟩, e.1, e3]
  · rw [if_neg e]
    by_cases e5 : a = 348 ∧ 1265 ≤ j ∧ j ≤ 1268
    · rw [if_pos e5, if_pos e5, e4 j e5.2.1 e5.2.2 (fun z => e ⟨z, e5.1⟩)]
    · rw [if_neg e5, if_neg e5]
theorem m4_c {w x : M4} {k : Nat} (h : (k = 1265 ∨ x.1 = w.1) ∧ (k = 1266 ∨ x.2.1 = w.2.1) ∧ (k = 1267 ∨ x.2.2.1 = w.2.2.1) ∧ (k = 1268 ∨ x.2.2.2 = w.2.2.2)) : ∀ j, 1265 ≤ j → j ≤ 1268 → j ≠ k → m4 x j = m4 w j := by
  intro j h1 h2 h3
  obtain ⟨a1, a2, a3, a4⟩ := h
  rcases (show j = 1265 ∨ j = 1266 ∨ j = 1267 ∨ j = 1268 by omega) with rfl | rfl | rfl | rfl
  · exact a1.resolve_left (Ne.symm h3)
  · exact a2.resolve_left (Ne.symm h3)
  · exact a3.resolve_left (Ne.symm h3)
  · exact a4.resolve_left (Ne.symm h3)
theorem mF_s5 (h : AH) (w : M4) (v : Int32) : sFI (mF h w) 1265 348 v = mF h (v, w.2) := mF_set h w _ v (by decide) (by decide) rfl (m4_c (by simp))
theorem mF_s6 (h : AH) (w : M4) (v : Int32) : sFI (mF h w) 1266 348 v = mF h (w.1, v, w.2.2) := mF_set h w _ v (by decide) (by decide) rfl (m4_c (by simp))
theorem mF_s7 (h : AH) (w : M4) (v : Int32) : sFI (mF h w) 1267 348 v = mF h (w.1, w.2.1, v, w.2.2.2) := mF_set h w _ v (by decide) (by decide) rfl (m4_c (by simp))
theorem mF_s8 (h : AH) (w : M4) (v : Int32) : sFI (mF h w) 1268 348 v = mF h (w.1, w.2.1, w.2.2.1, v) := mF_set h w _ v (by decide) (by decide) rfl (m4_c (by simp))
theorem mF_mV (h : AH) (w : M4) (ρ : Nat → Nat → Int32) : mF (mV h ρ) w = mV (mF h w) ρ := rfl
theorem MSh.mV {h : AH} {ρ : Nat → Nat → Int32} (s : MSh h) : MSh (mV h ρ) := s.to (rd_hK_mV _ _) (fun k => by rw [rd_hFR_mV]) (rd_hLN_mV _ _)
theorem MSh.mF {h : AH} {w : M4} (s : MSh h) : MSh (mF h w) := s.to (rd_hK_mF _ _) (fun k => by rw [rd_hFR_mF]) (rd_hLN_mF _ _)
/-- what the reference's law is worth -/
def MoL (h : AH) (n : Nat) (W : Int32 → Int32 → Int32 → Int32 → Int32) : Prop := hAI h 370 0 = 0 ∧ hAI h 371 0 = nI n ∧ n ≤ 1000 ∧ (n = 0 → ∀ b o k s, W b o k s = b + o) ∧
  (0 < n → ∀ (b o k s : Int32) (vs : Nat → Int32) (σ : Nat → Nat → Int32), vs 1 = b → vs 2 = o → vs 3 = k → vs 4 = s → (∀ i, i < n → (mkN vs (hAI h 372) σ i).1 < 7 ∧ mok1 (hAI h 372 i) (mkN vs (hAI h 372) σ i).1) ∧ mwv vs (hAI h 372) n σ = W b o k s)
theorem MoL.to {h g : AH} {n : Nat} {W : Int32 → Int32 → Int32 → Int32 → Int32} (e0 : hAI g 370 = hAI h 370) (e1 : hAI g 371 = hAI h 371) (e2 : hAI g 372 = hAI h 372) (l : MoL h n W) : MoL g n W := by
  unfold MoL at l ⊢
  rw [e0, e1, e2]
  exact l
theorem btw_eq (w : Int32) : (if w < 0 then (0 : Int32) else if 99 < w then 99 else w) = (if 0 < (if 99 < w then (99 : Int32) else w) then (if 99 < w then (99 : Int32) else w) else 0) := by
  by_cases c1 : w < 0
  · have c2 : ¬ 99 < w := by
      rw [Int32.lt_iff_toInt_lt] at c1 ⊢
      have e0 : Int32.toInt 0 = 0 := rfl
      have e9 : Int32.toInt 99 = 99 := rfl
      omega
    have c3 : ¬ 0 < w := by
      rw [Int32.lt_iff_toInt_lt] at c1 ⊢
      omega
    rw [if_pos c1, if_neg c2, if_neg c3]
  · rw [if_neg c1]
    by_cases c2 : 99 < w
    · rw [if_pos c2, if_pos (by decide)]
    · rw [if_neg c2]
      by_cases c3 : 0 < w
      · rw [if_pos c3]
      · rw [if_neg c3]
        rw [Int32.lt_iff_toInt_lt] at c1 c3
        apply Int32.toInt_inj.mp
        have e0 : Int32.toInt 0 = 0 := rfl
        omega
theorem c_btw (d : Nat) (w : Int32) (h : AH) : am_C PG (d + 1) 162 [.int w, .int 0, .int 99] h = some (some (.int (if 0 < (if 99 < w then (99 : Int32) else w) then (if 99 < w then (99 : Int32) else w) else 0)), h) := by
  rw [q_X12_between, ← btw_eq]
  split
  · rfl
  · split <;> rfl
theorem c_mthirst {dp n c hr : Nat} {W : Int32 → Int32 → Int32 → Int32 → Int32} {h : AH} (hm : MSh h) (hl : MoL h n W) (hc : c < 12) (hh : hr < 2 ^ 31) (s : Int32) :
    ∃ ρ, am_C PG (dp + 4) 212 [.ref 348, .int (nI c), .int (nI hr), .int s] h = some (some (.int (xth W (hAI h 357) (hAI h 361) (hAI h 369) c hr s)), mV h ρ) := by
  obtain ⟨l0, l1, l2, l3, l4⟩ := hl
  have hm0 := hm
  have m0 := hm0.1
  have f1217 : hFR _ 1217 348 = some 357 := (hm0.2 8 (by decide)).1
  have k357 : hK _ 357 = 50 := (hm0.2 8 (by decide)).2.1
  have n357 : hLN _ 357 = 12 := (hm0.2 8 (by decide)).2.2
  have f1221 : hFR _ 1221 348 = some 361 := (hm0.2 12 (by decide)).1
  have k361 : hK _ 361 = 50 := (hm0.2 12 (by decide)).2.1
  have n361 : hLN _ 361 = 12 := (hm0.2 12 (by decide)).2.2
  have f1229 : hFR _ 1229 348 = some 369 := (hm0.2 20 (by decide)).1
  have k369 : hK _ 369 = 50 := (hm0.2 20 (by decide)).2.1
  have n369 : hLN _ 369 = 48 := (hm0.2 20 (by decide)).2.2
  have f1230 : hFR _ 1230 348 = some 370 := (hm0.2 21 (by decide)).1
  have k370 : hK _ 370 = 50 := (hm0.2 21 (by decide)).2.1
  have n370 : hLN _ 370 = 2 := (hm0.2 21 (by decide)).2.2
  have f1231 : hFR _ 1231 348 = some 371 := (hm0.2 22 (by decide)).1
  have k371 : hK _ 371 = 50 := (hm0.2 22 (by decide)).2.1
  have n371 : hLN _ 371 = 2 := (hm0.2 22 (by decide)).2.2
  have f1245 : hFR _ 1245 348 = some 384 := (hm0.2 35 (by decide)).1
  have k384 : hK _ 384 = 50 := (hm0.2 35 (by decide)).2.1
  have n384 : hLN _ 384 = 20 := (hm0.2 35 (by decide)).2.2
  have e0 : ∀ x, am_in (0 : Int32) 2 x = x := am_inN (i := 0) (by decide) (by decide)
  have e1 : ∀ x, am_in (1 : Int32) 20 x = x := am_inN (i := 1) (by decide) (by decide)
  have e2 : ∀ x, am_in (2 : Int32) 20 x = x := am_inN (i := 2) (by decide) (by decide)
  have e3 : ∀ x, am_in (3 : Int32) 20 x = x := am_inN (i := 3) (by decide) (by decide)
  have e4 : ∀ x, am_in (4 : Int32) 20 x = x := am_inN (i := 4) (by decide) (by decide)
  have i1 : Int32.toNatClampNeg 1 = 1 := by decide
  have i2 : Int32.toNatClampNeg 2 = 2 := by decide
  have i3 : Int32.toNatClampNeg 3 = 3 := by decide
  have i4 : Int32.toNatClampNeg 4 = 4 := by decide
  have c1 : ∀ x, am_in (nI c) 12 x = x := am_inN hc (by decide)
  have c2 : Int32.toNatClampNeg (nI c) = c := nI_clamp (by omega)
  have hmod : hr % 24 < 24 := Nat.mod_lt _ (by decide)
  have r1 : am_rem (nI hr) 24 = nI (hr % 24) := rem_nI hh (by decide) (by decide)
  have r2 : ∀ x, am_in (nI (hr % 24)) 48 x = x := am_inN (by omega) (by decide)
  have r3 : Int32.toNatClampNeg (nI (hr % 24)) = hr % 24 := nI_clamp (by omega)
  rcases Nat.eq_zero_or_pos n with rfl | hn
  · refine ⟨hAI h, ?_⟩
    rw [q_X12_thirstOf, mV_self]
    have z : ((0 : Int32) < nI 0) = False := eq_false (by decide)
    simp only [am_kd, m0, f1217, k357, n357, f1221, k361, n361, f1229, k369, n369, f1230, k370, n370, f1231, k371, n371, f1245, k384, n384, if_true, bR_s, e0, c1, c2, r1, r2, r3, nI_cl0, l0, l1, z, if_false, c_btw, bI_s, am_dz_t (show (24 : Int32) ≠ 0 by decide), am_dz_t (show (2 : Int32) ≠ 0 by decide), xth, l3 rfl]
    by_cases q : hAI h 357 c = 2
    · simp only [q, if_true]
    · simp only [q, if_false]
  · have z : ((0 : Int32) < nI n) = True := eq_true (nI_lt (a := 0) hn (by omega))
    generalize hg : sAI h 384 (upd (upd (upd (upd (hAI h 384) 1 (hAI h 361 c)) 2 (hAI h 369 (hr % 24))) 3 (hAI h 357 c)) 4 s) = g
    have g384 : hAI g 384 = upd (upd (upd (upd (hAI h 384) 1 (hAI h 361 c)) 2 (hAI h 369 (hr % 24))) 3 (hAI h 357 c)) 4 s := by rw [← hg]; exact sAI_at _ _ _
    have gne : ∀ a, a ≠ 384 → hAI g a = hAI h a := fun a ha => by rw [← hg]; exact sAI_ne _ _ ha
    have gK : hK g = hK h := by rw [← hg]; exact rd_hK_sAI _ _ _
    have gR : hFR g = hFR h := by rw [← hg]; exact rd_hFR_sAI _ _ _
    have gL : hLN g = hLN h := by rw [← hg]; exact rd_hLN_sAI _ _ _
    have gm : MSh g := by rw [← hg]; exact hm.to (rd_hK_sAI _ _ _) (fun k => by rw [rd_hFR_sAI]) (rd_hLN_sAI _ _ _)
    have key := l4 hn (hAI h 361 c) (hAI h 369 (hr % 24)) (hAI h 357 c) s (hAI g 384) (fun k => hAI g (375 + k)) (by rw [g384]; rfl) (by rw [g384]; rfl) (by rw [g384]; rfl) (by rw [g384]; rfl)
    obtain ⟨σ, kw⟩ := c_worked (dp := dp) gm (by rw [gne _ (by decide)]; exact l0) (by rw [gne _ (by decide)]; exact l1) l2 (by rw [gne 372 (by decide)]; exact key.1)
    rw [gne 372 (by decide), key.2] at kw
    obtain ⟨ρ, hρ⟩ := mV_mS g σ
    rw [hρ] at kw
    have hV : mV g ρ = mV h ρ := by
      rw [← hg]
      apply AH_ext
      all_goals (try simp only [rd_hK_mV, rd_hFI_mV, rd_hFJ_mV, rd_hFR_mV, rd_hLN_mV, rd_hAJ_mV, rd_hAR_mV, rd_hNX_mV, rd_hK_sFI, rd_hFI_sFI, rd_hFJ_sFI, rd_hFR_sFI, rd_hLN_sFI, rd_hAI_sFI, rd_hAJ_sFI, rd_hAR_sFI, rd_hNX_sFI, rd_hK_sEI, rd_hFI_sEI, rd_hFJ_sEI, rd_hFR_sEI, rd_hLN_sEI, rd_hAI_sEI, rd_hAJ_sEI, rd_hAR_sEI, rd_hNX_sEI, rd_hK_sAI, rd_hFI_sAI, rd_hFJ_sAI, rd_hFR_sAI, rd_hLN_sAI, rd_hAI_sAI, rd_hAJ_sAI, rd_hAR_sAI, rd_hNX_sAI, rd_hK_sCP, rd_hFI_sCP, rd_hFJ_sCP, rd_hFR_sCP, rd_hLN_sCP, rd_hAI_sCP, rd_hAJ_sCP, rd_hAR_sCP, rd_hNX_sCP])
      funext b
      by_cases e : 375 ≤ b ∧ b ≤ 384
      · rw [mV_in _ _ e.1 e.2, mV_in _ _ e.1 e.2]
      · rw [mV_out _ _ (by omega), mV_out _ _ (by omega), sAI_ne _ _ (by omega)]
    rw [hV] at kw
    refine ⟨ρ, ?_⟩
    have w384 : ∀ f, sEI (sAI h 384 f) 384 = fun i v => sAI h 384 (upd f i v) := fun f => by
      funext i v
      exact sEI_sAI h 384 i f v
    have w0 : ∀ i v, sEI h 384 i v = sAI h 384 (upd (hAI h 384) i v) := fun i v => rfl
    have o369 : ∀ f, hAI (sAI h 384 f) 369 = hAI h 369 := fun f => sAI_ne _ _ (by decide)
    have o357 : ∀ f, hAI (sAI h 384 f) 357 = hAI h 357 := fun f => sAI_ne _ _ (by decide)
    have v357 : hAI (mV h ρ) 357 = hAI h 357 := mV_out _ _ (by decide)
    rw [q_X12_thirstOf]
    simp only [rd_hK_mV, rd_hFI_mV, rd_hFJ_mV, rd_hFR_mV, rd_hLN_mV, rd_hAJ_mV, rd_hAR_mV, rd_hNX_mV, rd_hK_sAI, rd_hFR_sAI, rd_hLN_sAI, am_kd, m0, f1217, k357, n357, f1221, k361, n361, f1229, k369, n369, f1230, k370, n370, f1231, k371, n371, f1245, k384, n384, if_true, bR_s, e0, e1, e2, e3, e4, i1, i2, i3, i4, c1, c2, r1, r2, r3, nI_cl0, l0, l1, z, am_let_e, w0, w384, o369, o357, hg, gK, gR, gL, kw, bI_s, c_btw, v357, am_dz_t (show (24 : Int32) ≠ 0 by decide), am_dz_t (show (2 : Int32) ≠ 0 by decide), xth]
    by_cases q : hAI h 357 c = 2
    · simp only [q, if_true]
    · simp only [q, if_false]
theorem i_lt {a b : Int32} : a < b ↔ a.toInt < b.toInt := Int32.lt_iff_toInt_lt
theorem mdew_eq {kd ho o : Int32} {hr : Nat} (h1 : ¬ ho < o) (h2 : ho < 1000) (hr1 : am_rem (nI hr) 24 < 6) (hk : kd = 3) : (if o + 1 < ho then o + 1 else ho) = xdew kd ho (nI hr) o := by
  unfold xdew
  rw [i_lt] at h1 h2
  have e1 : Int32.toInt 1000 = 1000 := rfl
  have e2 : Int32.toInt 1 = 1 := rfl
  have lo := Int32.le_toInt o
  have hi := Int32.toInt_lt o
  have es : (o + 1).toInt = o.toInt + 1 := by
    rw [Int32.toInt_add, e2]
    exact Int.bmod_eq_of_le (by omega) (by omega)
  by_cases c1 : o < ho
  · rw [if_pos (show kd = 3 ∧ am_rem (nI hr) 24 < 6 ∧ o < ho from ⟨hk, hr1, c1⟩)]
    rw [i_lt] at c1
    by_cases c2 : o + 1 < ho
    · rw [if_pos c2]
    · rw [if_neg c2]
      rw [i_lt, es] at c2
      apply Int32.toInt_inj.mp
      omega
  · rw [if_neg (show ¬ (kd = 3 ∧ am_rem (nI hr) 24 < 6 ∧ o < ho) from fun z => c1 z.2.2)]
    rw [i_lt] at c1
    have c2 : ¬ o + 1 < ho := by
      rw [i_lt, es]
      omega
    rw [if_neg c2]
    apply Int32.toInt_inj.mp
    omega
theorem c_goes {dp n c hr : Nat} {W : Int32 → Int32 → Int32 → Int32 → Int32} {h : AH} (hm : MSh h) (hl : MoL h n W) (hc : c < 12) (hh : hr < 2 ^ 31) (w : M4) (h1 : ¬ hAI h 359 c < w.1) (h2 : hAI h 359 c < 1000) :
    ∃ ρ, am_C PG (dp + 5) 213 [.ref 348, .int (nI c), .int (nI hr)] (mF h w) = some (none, mV (mF h ((xclk W (hAI h 357) (hAI h 359) (hAI h 361) (hAI h 369) hr c (w.1, w.2.1, w.2.2.1)).1, (xclk W (hAI h 357) (hAI h 359) (hAI h 361) (hAI h 369) hr c (w.1, w.2.1, w.2.2.1)).2.1, (xclk W (hAI h 357) (hAI h 359) (hAI h 361) (hAI h 369) hr c (w.1, w.2.1, w.2.2.1)).2.2, w.2.2.2)) ρ) := by
  have hm0 := hm
  have m0 := hm0.1
  have f1217 : hFR _ 1217 348 = some 357 := (hm0.2 8 (by decide)).1
  have k357 : hK _ 357 = 50 := (hm0.2 8 (by decide)).2.1
  have n357 : hLN _ 357 = 12 := (hm0.2 8 (by decide)).2.2
  have f1219 : hFR _ 1219 348 = some 359 := (hm0.2 10 (by decide)).1
  have k359 : hK _ 359 = 50 := (hm0.2 10 (by decide)).2.1
  have n359 : hLN _ 359 = 12 := (hm0.2 10 (by decide)).2.2
  have c1 : ∀ x, am_in (nI c) 12 x = x := am_inN hc (by decide)
  have c2 : Int32.toNatClampNeg (nI c) = c := nI_clamp (by omega)
  have kt := fun (x : M4) (s : Int32) => c_mthirst (dp := dp) (hm.mF (w := x)) (hl.to (g := mF h x) rfl rfl rfl) hc hh s
  simp only [rd_hAI_mF] at kt
  have v357 : ∀ ρ, hAI (mV h ρ) 357 = hAI h 357 := fun ρ => mV_out _ _ (by decide)
  have fin : ∀ (ρ : Nat → Nat → Int32) (x : M4) (v : Int32), am_R PG (dp + 5) 213 63 [some (.ref 348), some (.int (nI c)), some (.int (nI hr)), some (.int v)] [.int (if x.1 < v then 1 else 0), .ref 348] (mF (mV h ρ) x) = some (none, mF (mV h ρ) ((xdrk (hAI h 357 c) (nI hr) v (x.1, x.2.1, x.2.2.1)).1, (xdrk (hAI h 357 c) (nI hr) v (x.1, x.2.1, x.2.2.1)).2.1, (xdrk (hAI h 357 c) (nI hr) v (x.1, x.2.1, x.2.2.1)).2.2, x.2.2.2)) := by
    intro ρ x v
    rw [q_X12_goesOn_63]
    unfold xdrk xnext
    dsimp only
    have z1 : ((1 : Int32) = 0) = False := eq_false (by decide)
    by_cases q1 : x.1 < v
    · by_cases q2 : hAI h 357 c = 1
      · by_cases q3 : 0 < x.1
        · simp only [rd_hK_mV, rd_hFI_mV, rd_hFJ_mV, rd_hFR_mV, rd_hLN_mV, rd_hAJ_mV, rd_hAR_mV, rd_hNX_mV, rd_hK_mF, rd_hFJ_mF, rd_hFR_mF, rd_hLN_mF, rd_hAI_mF, rd_hAJ_mF, rd_hAR_mF, rd_hNX_mF, mF_5, mF_6, mF_7, mF_8, mF_s5, mF_s6, mF_s7, mF_s8, v357, am_kd, m0, f1217, k357, n357, f1219, k359, n359, if_true, bR_s, c1, c2, am_let_e, q1, q2, q3, z1, if_false, and_self]
        · simp only [rd_hK_mV, rd_hFI_mV, rd_hFJ_mV, rd_hFR_mV, rd_hLN_mV, rd_hAJ_mV, rd_hAR_mV, rd_hNX_mV, rd_hK_mF, rd_hFJ_mF, rd_hFR_mF, rd_hLN_mF, rd_hAI_mF, rd_hAJ_mF, rd_hAR_mF, rd_hNX_mF, mF_5, mF_6, mF_7, mF_8, mF_s5, mF_s6, mF_s7, mF_s8, v357, am_kd, m0, f1217, k357, n357, f1219, k359, n359, if_true, bR_s, c1, c2, am_let_e, q1, q2, q3, z1, if_false, and_false]
      · simp only [rd_hK_mV, rd_hFI_mV, rd_hFJ_mV, rd_hFR_mV, rd_hLN_mV, rd_hAJ_mV, rd_hAR_mV, rd_hNX_mV, rd_hK_mF, rd_hFJ_mF, rd_hFR_mF, rd_hLN_mF, rd_hAI_mF, rd_hAJ_mF, rd_hAR_mF, rd_hNX_mF, mF_5, mF_6, mF_7, mF_8, mF_s5, mF_s6, mF_s7, mF_s8, v357, am_kd, m0, f1217, k357, n357, f1219, k359, n359, if_true, bR_s, c1, c2, am_let_e, q1, q2, z1, if_false, false_and]
    · by_cases q2 : hAI h 357 c = 2
      · have z2 : ((2 : Int32) = 1) = False := eq_false (by decide)
        by_cases q4 : am_rem (nI hr) 2 = 0
        · simp only [rd_hK_mV, rd_hFI_mV, rd_hFJ_mV, rd_hFR_mV, rd_hLN_mV, rd_hAJ_mV, rd_hAR_mV, rd_hNX_mV, rd_hK_mF, rd_hFJ_mF, rd_hFR_mF, rd_hLN_mF, rd_hAI_mF, rd_hAJ_mF, rd_hAR_mF, rd_hNX_mF, mF_5, mF_6, mF_7, mF_8, mF_s5, mF_s6, mF_s7, mF_s8, v357, am_kd, m0, f1217, k357, n357, f1219, k359, n359, if_true, bR_s, c1, c2, am_let_e, q1, q2, q4, z1, z2, if_false, false_and, am_dz_t (show (2 : Int32) ≠ 0 by decide), add0]
        · simp only [rd_hK_mV, rd_hFI_mV, rd_hFJ_mV, rd_hFR_mV, rd_hLN_mV, rd_hAJ_mV, rd_hAR_mV, rd_hNX_mV, rd_hK_mF, rd_hFJ_mF, rd_hFR_mF, rd_hLN_mF, rd_hAI_mF, rd_hAJ_mF, rd_hAR_mF, rd_hNX_mF, mF_5, mF_6, mF_7, mF_8, mF_s5, mF_s6, mF_s7, mF_s8, v357, am_kd, m0, f1217, k357, n357, f1219, k359, n359, if_true, bR_s, c1, c2, am_let_e, q1, q2, q4, z1, z2, if_false, false_and, am_dz_t (show (2 : Int32) ≠ 0 by decide)]
      · by_cases q3 : hAI h 357 c = 1
        · have z2 : ((1 : Int32) = 2) = False := eq_false (by decide)
          by_cases q5 : 0 < x.1 - v
          · simp only [rd_hK_mV, rd_hFI_mV, rd_hFJ_mV, rd_hFR_mV, rd_hLN_mV, rd_hAJ_mV, rd_hAR_mV, rd_hNX_mV, rd_hK_mF, rd_hFJ_mF, rd_hFR_mF, rd_hLN_mF, rd_hAI_mF, rd_hAJ_mF, rd_hAR_mF, rd_hNX_mF, mF_5, mF_6, mF_7, mF_8, mF_s5, mF_s6, mF_s7, mF_s8, v357, am_kd, m0, f1217, k357, n357, f1219, k359, n359, if_true, bR_s, c1, c2, am_let_e, q1, q3, q5, z1, z2, if_false, and_self]
          · simp only [rd_hK_mV, rd_hFI_mV, rd_hFJ_mV, rd_hFR_mV, rd_hLN_mV, rd_hAJ_mV, rd_hAR_mV, rd_hNX_mV, rd_hK_mF, rd_hFJ_mF, rd_hFR_mF, rd_hLN_mF, rd_hAI_mF, rd_hAJ_mF, rd_hAR_mF, rd_hNX_mF, mF_5, mF_6, mF_7, mF_8, mF_s5, mF_s6, mF_s7, mF_s8, v357, am_kd, m0, f1217, k357, n357, f1219, k359, n359, if_true, bR_s, c1, c2, am_let_e, q1, q3, q5, z1, z2, if_false, and_false]
        · simp only [rd_hK_mV, rd_hFI_mV, rd_hFJ_mV, rd_hFR_mV, rd_hLN_mV, rd_hAJ_mV, rd_hAR_mV, rd_hNX_mV, rd_hK_mF, rd_hFJ_mF, rd_hFR_mF, rd_hLN_mF, rd_hAI_mF, rd_hAJ_mF, rd_hAR_mF, rd_hNX_mF, mF_5, mF_6, mF_7, mF_8, mF_s5, mF_s6, mF_s7, mF_s8, v357, am_kd, m0, f1217, k357, n357, f1219, k359, n359, if_true, bR_s, c1, c2, am_let_e, q1, q2, q3, z1, if_false, false_and]
  unfold xclk
  dsimp only
  by_cases q0 : hAI h 357 c = 3 ∧ am_rem (nI hr) 24 < 6
  · obtain ⟨q1, q2⟩ := q0
    have hdw := mdew_eq h1 h2 q2 q1
    obtain ⟨ρ, k2⟩ := kt (xdew (hAI h 357 c) (hAI h 359 c) (nI hr) w.1, w.2) w.2.1
    refine ⟨ρ, ?_⟩
    rw [← mF_mV] at k2
    rw [q_X12_goesOn]
    have o1 : ∀ x, hAI (mF h x) 359 = hAI h 359 := fun x => rfl
    simp only [rd_hK_mV, rd_hFI_mV, rd_hFJ_mV, rd_hFR_mV, rd_hLN_mV, rd_hAJ_mV, rd_hAR_mV, rd_hNX_mV, rd_hK_mF, rd_hFJ_mF, rd_hFR_mF, rd_hLN_mF, rd_hAI_mF, rd_hAJ_mF, rd_hAR_mF, rd_hNX_mF, am_kd, m0, f1217, k357, n357, f1219, k359, n359, if_true, bR_s, c1, c2, q1, q2, am_dz_t (show (24 : Int32) ≠ 0 by decide), c_min, bI_s, mF_5, mF_6, am_let_e, mF_s5]
    rw [q1] at hdw k2
    rw [hdw]
    simp only [k2, bI_s, rd_hK_mV, rd_hFI_mV, rd_hFJ_mV, rd_hFR_mV, rd_hLN_mV, rd_hAJ_mV, rd_hAR_mV, rd_hNX_mV, rd_hK_mF, rd_hFJ_mF, rd_hFR_mF, rd_hLN_mF, rd_hAI_mF, rd_hAJ_mF, rd_hAR_mF, rd_hNX_mF, am_kd, m0, f1217, k357, n357, f1219, k359, n359, if_true, mF_5]
    have ff := fin ρ (xdew 3 (hAI h 359 c) (nI hr) w.1, w.2) (xth W (hAI h 357) (hAI h 361) (hAI h 369) c hr w.2.1)
    rw [q1] at ff
    rw [← mF_mV]
    by_cases qq : xdew 3 (hAI h 359 c) (nI hr) w.1 < xth W (hAI h 357) (hAI h 361) (hAI h 369) c hr w.2.1
    · rw [if_pos qq] at ff ⊢
      exact ff
    · rw [if_neg qq] at ff ⊢
      exact ff
  · obtain ⟨ρ, k2⟩ := kt w w.2.1
    rw [← mF_mV] at k2
    have hdw : xdew (hAI h 357 c) (hAI h 359 c) (nI hr) w.1 = w.1 := by
      unfold xdew
      rw [if_neg (fun z => q0 ⟨z.1, z.2.1⟩)]
    refine ⟨ρ, ?_⟩
    rw [hdw, q_X12_goesOn]
    by_cases q1 : hAI h 357 c = 3
    · have q2 : ¬ am_rem (nI hr) 24 < 6 := fun z => q0 ⟨q1, z⟩
      simp only [rd_hK_mV, rd_hFI_mV, rd_hFJ_mV, rd_hFR_mV, rd_hLN_mV, rd_hAJ_mV, rd_hAR_mV, rd_hNX_mV, rd_hK_mF, rd_hFJ_mF, rd_hFR_mF, rd_hLN_mF, rd_hAI_mF, rd_hAJ_mF, rd_hAR_mF, rd_hNX_mF, am_kd, m0, f1217, k357, n357, f1219, k359, n359, if_true, bR_s, c1, c2, q1, q2, if_false, am_dz_t (show (24 : Int32) ≠ 0 by decide), bI_s, mF_5, mF_6]
      simp only [k2, bI_s, rd_hK_mV, rd_hFI_mV, rd_hFJ_mV, rd_hFR_mV, rd_hLN_mV, rd_hAJ_mV, rd_hAR_mV, rd_hNX_mV, rd_hK_mF, rd_hFJ_mF, rd_hFR_mF, rd_hLN_mF, rd_hAI_mF, rd_hAJ_mF, rd_hAR_mF, rd_hNX_mF, am_kd, m0, f1217, k357, n357, f1219, k359, n359, if_true, mF_5]
      have ff := fin ρ (w) (xth W (hAI h 357) (hAI h 361) (hAI h 369) c hr w.2.1)
      rw [q1] at ff
      rw [← mF_mV]
      by_cases qq : (w).1 < xth W (hAI h 357) (hAI h 361) (hAI h 369) c hr w.2.1
      · rw [if_pos qq] at ff ⊢
        exact ff
      · rw [if_neg qq] at ff ⊢
        exact ff
    · simp only [rd_hK_mV, rd_hFI_mV, rd_hFJ_mV, rd_hFR_mV, rd_hLN_mV, rd_hAJ_mV, rd_hAR_mV, rd_hNX_mV, rd_hK_mF, rd_hFJ_mF, rd_hFR_mF, rd_hLN_mF, rd_hAI_mF, rd_hAJ_mF, rd_hAR_mF, rd_hNX_mF, am_kd, m0, f1217, k357, n357, f1219, k359, n359, if_true, bR_s, c1, c2, q1, if_false, bI_s, mF_5, mF_6]
      simp only [k2, bI_s, rd_hK_mV, rd_hFI_mV, rd_hFJ_mV, rd_hFR_mV, rd_hLN_mV, rd_hAJ_mV, rd_hAR_mV, rd_hNX_mV, rd_hK_mF, rd_hFJ_mF, rd_hFR_mF, rd_hLN_mF, rd_hAI_mF, rd_hAJ_mF, rd_hAR_mF, rd_hNX_mF, am_kd, m0, f1217, k357, n357, f1219, k359, n359, if_true, mF_5]
      have ff := fin ρ (w) (xth W (hAI h 357) (hAI h 361) (hAI h 369) c hr w.2.1)
      rw [← mF_mV]
      by_cases qq : (w).1 < xth W (hAI h 357) (hAI h 361) (hAI h 369) c hr w.2.1
      · rw [if_pos qq] at ff ⊢
        exact ff
      · rw [if_neg qq] at ff ⊢
        exact ff
