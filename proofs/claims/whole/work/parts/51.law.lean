/-! The law's worth; Math. -/
theorem sEI_sAI (h : AH) (a i : Nat) (f : Nat → Int32) (v : Int32) : sEI (sAI h a f) a i v = sAI h a (upd f i v) := by
  unfold sEI
  rw [sAI_at, sAI_sAI]
def jn (c l r : Int32) : Int32 := if c.toInt = -11 then l - r else if c.toInt = -10 then l + r else if c.toInt = -9 then (if l = r then 1 else 0) else if c.toInt = -8 then (if l < r then 1 else 0) else if c.toInt = -7 then (if l = 0 then (if r = 0 then 0 else 1) else 1) else if c.toInt = -6 then (if l = 0 then 0 else (if r = 0 then 0 else 1)) else l * r
def ev0 (b o k s c : Int32) : Int32 := if c < 0 then (if c = -1 then b else if c = -2 then o else if c = -3 then k else s) else c
def ev1 (b o k s c : Int32) (q : Nat × (Nat → Int32)) : Nat × (Nat → Int32) :=
  if c < -4 then (if c = -5 then (if q.1 < 1 then q else (q.1, upd q.2 (q.1 - 1) (if q.2 (q.1 - 1) = 0 then 1 else 0)))
    else (if q.1 < 2 then q else (q.1 - 1, upd q.2 (q.1 - 2) (jn c (q.2 (q.1 - 2)) (q.2 (q.1 - 1))))))
  else (if q.1 < 32 then (q.1 + 1, upd q.2 q.1 (ev0 b o k s c)) else q)
def evN (b o k s : Int32) (cs f : Nat → Int32) : Nat → Nat × (Nat → Int32)
  | 0 => (0, f)
  | n + 1 => ev1 b o k s (cs n) (evN b o k s cs f n)
theorem ev1_le {b o k s c : Int32} {q : Nat × (Nat → Int32)} (h : q.1 ≤ 32) : (ev1 b o k s c q).1 ≤ 32 := by
  unfold ev1
  split
  · split
    · split
      · exact h
      · exact h
    · split
      · exact h
      · show q.1 - 1 ≤ 32; omega
  · split
    · show q.1 + 1 ≤ 32; omega
    · exact h
theorem evN_le {b o k s : Int32} {cs f : Nat → Int32} : ∀ n, (evN b o k s cs f n).1 ≤ 32
  | 0 => Nat.zero_le _
  | n + 1 => ev1_le (evN_le n)
/-- a Law at la -/
def LwSh (h : AH) (la : Nat) : Prop := hK h la = 5 ∧ hFR h 400 la = some (la + 1) ∧ hFR h 402 la = some (la + 2) ∧ hK h (la + 1) = 50 ∧ hLN h (la + 1) = 1000 ∧ hK h (la + 2) = 50 ∧ hLN h (la + 2) = 32
theorem wo_step {h : AH} {la len d : Nat} (hs : LwSh h la) (hl : hFI h 401 la = nI len) (hn : len ≤ 1000) {b o k s : Int32} {i : Nat} (hi : i < len) {q : Nat × (Nat → Int32)} (hq : q.1 ≤ 32) :
    am_R PG (d + 1) 45 6 [some (.ref la), some (.int b), some (.int o), some (.int k), some (.int s), some (.int (nI q.1)), some (.int (nI i)), none, none, none, none] [] (sAI h (la + 2) q.2) =
    am_R PG (d + 1) 45 6 [some (.ref la), some (.int b), some (.int o), some (.int k), some (.int s), some (.int (nI (ev1 b o k s (hAI h (la + 1) i) q).1)), some (.int (nI (i + 1))), none, none, none, none] [] (sAI h (la + 2) (ev1 b o k s (hAI h (la + 1) i) q).2) := by
  obtain ⟨s1, s2, s3, s4, s5, s6, s7⟩ := hs
  obtain ⟨top, f⟩ := q
  dsimp only at hq ⊢
  have e1 : am_up (hAI h) (la + 2) f (la + 1) = hAI h (la + 1) := am_up_ne (by omega)
  have e2 : am_up (hAI h) (la + 2) f (la + 2) = f := am_up_eq
  have e3 : ∀ x, am_in (nI i) 1000 x = x := am_inN (by omega) (by decide)
  have e4 : Int32.toNatClampNeg (nI i) = i := nI_clamp (by omega)
  have e5 : (nI i < nI len) = True := eq_true (nI_lt hi (by omega))
  have t1 : (1 : Int32) = nI 1 := rfl
  have t2 : (2 : Int32) = nI 2 := rfl
  have t32 : (32 : Int32) = nI 32 := rfl
  rw [q_X4_worth_6]
  simp only [rd_hK_sFI, rd_hFI_sFI, rd_hFJ_sFI, rd_hFR_sFI, rd_hLN_sFI, rd_hAI_sFI, rd_hAJ_sFI, rd_hAR_sFI, rd_hNX_sFI, rd_hK_sEI, rd_hFI_sEI, rd_hFJ_sEI, rd_hFR_sEI, rd_hLN_sEI, rd_hAI_sEI, rd_hAJ_sEI, rd_hAR_sEI, rd_hNX_sEI, rd_hK_sAI, rd_hFI_sAI, rd_hFJ_sAI, rd_hFR_sAI, rd_hLN_sAI, rd_hAI_sAI, rd_hAJ_sAI, rd_hAR_sAI, rd_hNX_sAI, rd_hK_sCP, rd_hFI_sCP, rd_hFJ_sCP, rd_hFR_sCP, rd_hLN_sCP, rd_hAI_sCP, rd_hAJ_sCP, rd_hAR_sCP, rd_hNX_sCP, am_kd, am_let_e, bR_s, s1, s2, s3, s4, s5, s6, s7, hl, e1, e2, e3, e4, e5, if_true, sEI_sAI, nI_1]
  unfold ev1
  dsimp only
  by_cases c1 : hAI h (la + 1) i < -4
  · simp only [c1, if_true]
    by_cases c2 : hAI h (la + 1) i = -5
    · simp only [c2, if_true]
      rcases Nat.eq_zero_or_pos top with rfl | ht
      · simp only [show (nI 0 < (1 : Int32)) = True from eq_true (by decide), show (0 < 1) = True from eq_true (by decide), if_true]
      · obtain ⟨t, rfl⟩ : ∃ t, top = t + 1 := ⟨top - 1, by omega⟩
        have g1 : (nI (t + 1) < (1 : Int32)) = False := eq_false (by rw [t1]; exact nI_nlt (by omega) (by omega))
        have g2 : (t + 1 < 1) = False := eq_false (by omega)
        have g3 : ∀ x, am_in (nI t) 32 x = x := am_inN (by omega) (by decide)
        have g4 : Int32.toNatClampNeg (nI t) = t := nI_clamp (by omega)
        simp only [g1, g2, if_false, nI_pred, g3, g4, Nat.add_sub_cancel]
        split <;> rfl
    · simp only [c2, if_false]
      rcases (show top = 0 ∨ top = 1 ∨ ∃ t, top = t + 2 from by
        rcases top with _ | _ | t
        · exact Or.inl rfl
        · exact Or.inr (Or.inl rfl)
        · exact Or.inr (Or.inr ⟨t, rfl⟩)) with rfl | rfl | ⟨t, rfl⟩
      · simp only [show (nI 0 < (2 : Int32)) = True from eq_true (by decide), show (0 < 2) = True from eq_true (by decide), if_true]
      · simp only [show (nI 1 < (2 : Int32)) = True from eq_true (by decide), show (1 < 2) = True from eq_true (by decide), if_true]
      · have g1 : (nI (t + 2) < (2 : Int32)) = False := eq_false (by rw [t2]; exact nI_nlt (by omega) (by omega))
        have g2 : (t + 2 < 2) = False := eq_false (by omega)
        have g3 : ∀ x, am_in (nI t) 32 x = x := am_inN (by omega) (by decide)
        have g4 : Int32.toNatClampNeg (nI t) = t := nI_clamp (by omega)
        have g5 : ∀ x, am_in (nI (t + 1)) 32 x = x := am_inN (by omega) (by decide)
        have g6 : Int32.toNatClampNeg (nI (t + 1)) = t + 1 := nI_clamp (by omega)
        have g7 : nI (t + 2) + (-1 : Int32) = nI (t + 1) := pk_m1 _
        have g8 : t + 2 - 1 = t + 1 := rfl
        have g9 : t + 2 - 2 = t := rfl
        simp only [g1, g2, if_false, g7, nI_pred, g3, g4, g5, g6, g8, g9]
        unfold jn
        repeat' split
        all_goals first | rfl | simp_all
  · simp only [c1, if_false]
    by_cases c3 : top < 32
    · have g1 : (nI top < (32 : Int32)) = True := eq_true (by rw [t32]; exact nI_lt c3 (by decide))
      have g3 : ∀ x, am_in (nI top) 32 x = x := am_inN c3 (by decide)
      have g4 : Int32.toNatClampNeg (nI top) = top := nI_clamp (by omega)
      simp only [g1, c3, if_true, g3, g4]
      unfold ev0
      repeat' split
      all_goals first | rfl | simp_all
    · have g1 : (nI top < (32 : Int32)) = False := eq_false (by rw [t32]; exact nI_nlt (by omega) (by omega))
      simp only [g1, c3, if_false]
theorem wo_loop {h : AH} {la len d : Nat} (hs : LwSh h la) (hl : hFI h 401 la = nI len) (hn : len ≤ 1000) {b o k s : Int32} : ∀ i, i ≤ len →
    am_C PG (d + 1) 45 [.ref la, .int b, .int o, .int k, .int s] h = am_R PG (d + 1) 45 6 [some (.ref la), some (.int b), some (.int o), some (.int k), some (.int s), some (.int (nI (evN b o k s (hAI h (la + 1)) (hAI h (la + 2)) i).1)), some (.int (nI i)), none, none, none, none] [] (sAI h (la + 2) (evN b o k s (hAI h (la + 1)) (hAI h (la + 2)) i).2)
  | 0, _ => by
    rw [q_X4_worth]
    show _ = am_R PG (d + 1) 45 6 [some (.ref la), some (.int b), some (.int o), some (.int k), some (.int s), some (.int (nI 0)), some (.int (nI 0)), none, none, none, none] [] (sAI h (la + 2) (hAI h (la + 2)))
    rw [sAI_self, nI_0]
  | i + 1, hi => by
    rw [wo_loop hs hl hn i (by omega)]
    exact wo_step hs hl hn (by omega) (evN_le i)
/-- what the law is worth, its stack left as it comes -/
def lwv (cs : Nat → Int32) (len : Nat) (f : Nat → Int32) (b o k s : Int32) : Int32 := (evN b o k s cs f len).2 0
theorem c_worth {h : AH} {la len d : Nat} (hs : LwSh h la) (hl : hFI h 401 la = nI len) (hn : len ≤ 1000) (b o k s : Int32) :
    am_C PG (d + 1) 45 [.ref la, .int b, .int o, .int k, .int s] h = some (some (.int (lwv (hAI h (la + 1)) len (hAI h (la + 2)) b o k s)), sAI h (la + 2) (evN b o k s (hAI h (la + 1)) (hAI h (la + 2)) len).2) := by
  rw [wo_loop hs hl hn len (Nat.le_refl _), q_X4_worth_6]
  obtain ⟨s1, s2, s3, s4, s5, s6, s7⟩ := hs
  have e2 : am_up (hAI h) (la + 2) (evN b o k s (hAI h (la + 1)) (hAI h (la + 2)) len).2 (la + 2) = (evN b o k s (hAI h (la + 1)) (hAI h (la + 2)) len).2 := am_up_eq
  have e5 : (nI len < nI len) = False := eq_false (nI_nlt (Nat.le_refl _) (by omega))
  have e6 : ∀ x, am_in (0 : Int32) 32 x = x := am_inN (i := 0) (by decide) (by decide)
  simp only [rd_hK_sFI, rd_hFI_sFI, rd_hFJ_sFI, rd_hFR_sFI, rd_hLN_sFI, rd_hAI_sFI, rd_hAJ_sFI, rd_hAR_sFI, rd_hNX_sFI, rd_hK_sEI, rd_hFI_sEI, rd_hFJ_sEI, rd_hFR_sEI, rd_hLN_sEI, rd_hAI_sEI, rd_hAJ_sEI, rd_hAR_sEI, rd_hNX_sEI, rd_hK_sAI, rd_hFI_sAI, rd_hFJ_sAI, rd_hFR_sAI, rd_hLN_sAI, rd_hAI_sAI, rd_hAJ_sAI, rd_hAR_sAI, rd_hNX_sAI, rd_hK_sCP, rd_hFI_sCP, rd_hFJ_sCP, rd_hFR_sCP, rd_hLN_sCP, rd_hAI_sCP, rd_hAJ_sCP, rd_hAR_sCP, rd_hNX_sCP, am_kd, am_let_e, bR_s, s1, s2, s3, s4, s5, s6, s7, hl, e2, e5, e6, if_true, if_false, nI_cl0, lwv]
theorem c_max (d : Nat) (a b : Int32) (h : AH) : am_C PG (d + 1) 271 [.int a, .int b] h = some (some (.int (if a < b then b else a)), h) := by
  rw [q_J9_max_7cf53]
  split <;> rfl
theorem c_min (d : Nat) (a b : Int32) (h : AH) : am_C PG (d + 1) 272 [.int a, .int b] h = some (some (.int (if b < a then b else a)), h) := by
  rw [q_J9_min_7cf53]
  split <;> rfl
theorem c_abs (d : Nat) (a : Int32) (h : AH) : am_C PG (d + 1) 270 [.int a] h = some (some (.int (if a < 0 then -a else a)), h) := by
  rw [q_J9_abs_0f7a4]
  split <;> rfl
theorem xor_pos {a b : Int32} (ha : ¬ a < 0) (hb : ¬ b < 0) : ¬ (a ^^^ b) < 0 := by
  rw [Int32.lt_iff_toInt_lt] at *
  have e : (a ^^^ b).toInt = (a.toBitVec ^^^ b.toBitVec).toInt := rfl
  have e0 : Int32.toInt 0 = 0 := rfl
  rw [e0] at ha hb ⊢
  have h1 : a.toBitVec.msb = false := by
    rw [BitVec.msb_eq_toInt]; simpa using ha
  have h2 : b.toBitVec.msb = false := by
    rw [BitVec.msb_eq_toInt]; simpa using hb
  rw [e]
  have h3 : (a.toBitVec ^^^ b.toBitVec).msb = false := by
    rw [BitVec.msb_xor, h1, h2]; rfl
  rw [BitVec.msb_eq_toInt] at h3
  simpa using h3
theorem c_fmod {d a n : Nat} (ha : a < 2 ^ 31) (h0 : 0 < n) (hn : n < 2 ^ 31) (h : AH) : am_C PG (d + 1) 269 [.int (nI a), .int (nI n)] h = some (some (.int (nI (a % n))), h) := by
  have e1 : ((nI a ^^^ nI n) < 0) = False := eq_false (xor_pos (nI_pos ha) (nI_pos hn))
  rw [q_J9_floorMod_7cf53, am_dz_t (nI_ne0 h0 hn)]
  simp only [e1, if_false, rem_nI ha h0 hn]
