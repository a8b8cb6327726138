/-! The reference: its shape; what its law is worth (worked). -/
def m_fl : List Nat := [1202, 1210, 1211, 1212, 1213, 1214, 1215, 1216, 1217, 1218, 1219, 1220, 1221, 1222, 1223, 1224, 1225, 1226, 1227, 1228, 1229, 1230, 1231, 1232, 1234, 1235, 1236, 1237, 1238, 1239, 1240, 1241, 1242, 1243, 1244, 1245, 1247, 1248, 1249, 1250, 1251, 1252, 1253, 1254, 1255, 1256, 1257, 1258, 1259, 1260, 1261, 1262, 1263, 1269, 1270, 1271, 1272, 1275, 1276, 1277, 1278]
def m_kl : List Nat := [50, 50, 53, 53, 53, 53, 50, 50, 50, 50, 50, 50, 50, 50, 50, 50, 50, 50, 50, 50, 50, 50, 50, 50, 50, 52, 50, 50, 50, 50, 50, 50, 50, 50, 50, 50, 50, 50, 50, 50, 50, 50, 50, 50, 50, 50, 50, 50, 50, 50, 50, 50, 52, 50, 50, 50, 50, 50, 50, 50, 50]
def m_nl : List Nat := [1000, 10, 10, 12, 8, 12, 10, 50, 12, 12, 12, 12, 12, 8, 8, 8, 12, 12, 12, 12, 48, 2, 2, 2000, 7, 7, 7, 7, 7, 7, 7, 7, 7, 7, 7, 20, 25, 6, 240, 240, 240, 240, 5, 50, 50, 5, 60, 60, 43, 43, 172, 688, 4, 600, 5, 5, 5, 91, 6, 6, 6]
def MSh (h : AH) : Prop := hK h 348 = 13 ∧ ∀ i, i < 61 → hFR h (m_fl.getD i 0) 348 = some (349 + i) ∧ hK h (349 + i) = m_kl.getD i 0 ∧ hLN h (349 + i) = m_nl.getD i 0
theorem MSh.to {h g : AH} (e1 : hK g = hK h) (e2 : ∀ k, hFR g k 348 = hFR h k 348) (e3 : hLN g = hLN h) (s : MSh h) : MSh g := by
  unfold MSh at s ⊢
  rw [e1, e3]
  refine ⟨s.1, fun i hi => ?_⟩
  rw [e2]
  exact s.2 i hi
/-- the nine rows of the working: kept, keptBy, ahead, against, sum, sumBy, term, termBy, byNot -/
def mS (h : AH) (σ : Nat → Nat → Int32) : AH := (hK h, hFI h, hFJ h, hFR h, hLN h, fun a => if 375 ≤ a ∧ a ≤ 383 then σ (a - 375) else hAI h a, hAJ h, hAR h, hNX h)
theorem rd_hK_mS (h : AH) (σ : Nat → Nat → Int32) : hK (mS h σ) = hK h := rfl
theorem rd_hFI_mS (h : AH) (σ : Nat → Nat → Int32) : hFI (mS h σ) = hFI h := rfl
theorem rd_hFJ_mS (h : AH) (σ : Nat → Nat → Int32) : hFJ (mS h σ) = hFJ h := rfl
theorem rd_hFR_mS (h : AH) (σ : Nat → Nat → Int32) : hFR (mS h σ) = hFR h := rfl
theorem rd_hLN_mS (h : AH) (σ : Nat → Nat → Int32) : hLN (mS h σ) = hLN h := rfl
theorem rd_hAJ_mS (h : AH) (σ : Nat → Nat → Int32) : hAJ (mS h σ) = hAJ h := rfl
theorem rd_hAR_mS (h : AH) (σ : Nat → Nat → Int32) : hAR (mS h σ) = hAR h := rfl
theorem rd_hNX_mS (h : AH) (σ : Nat → Nat → Int32) : hNX (mS h σ) = hNX h := rfl
theorem rd_hAI_mS (h : AH) (σ : Nat → Nat → Int32) : hAI (mS h σ) = fun a => if 375 ≤ a ∧ a ≤ 383 then σ (a - 375) else hAI h a := rfl
theorem mS_in (h : AH) (σ : Nat → Nat → Int32) {a : Nat} (h1 : 375 ≤ a) (h2 : a ≤ 383) : hAI (mS h σ) a = σ (a - 375) := by
  rw [rd_hAI_mS]
  dsimp only
  rw [if_pos ⟨h1, h2⟩]
theorem mS_out (h : AH) (σ : Nat → Nat → Int32) {a : Nat} (h1 : a < 375 ∨ 383 < a) : hAI (mS h σ) a = hAI h a := by
  rw [rd_hAI_mS]
  dsimp only
  rw [if_neg (by omega)]
theorem mS_E (h : AH) (σ : Nat → Nat → Int32) {a : Nat} (h1 : 375 ≤ a) (h2 : a ≤ 383) (i : Nat) (v : Int32) : sEI (mS h σ) a i v = mS h (am_up2 σ (a - 375) i v) := by
  apply AH_ext
  all_goals simp only [rd_hK_sFI, rd_hFI_sFI, rd_hFJ_sFI, rd_hFR_sFI, rd_hLN_sFI, rd_hAI_sFI, rd_hAJ_sFI, rd_hAR_sFI, rd_hNX_sFI, rd_hK_sEI, rd_hFI_sEI, rd_hFJ_sEI, rd_hFR_sEI, rd_hLN_sEI, rd_hAI_sEI, rd_hAJ_sEI, rd_hAR_sEI, rd_hNX_sEI, rd_hK_sAI, rd_hFI_sAI, rd_hFJ_sAI, rd_hFR_sAI, rd_hLN_sAI, rd_hAI_sAI, rd_hAJ_sAI, rd_hAR_sAI, rd_hNX_sAI, rd_hK_sCP, rd_hFI_sCP, rd_hFJ_sCP, rd_hFR_sCP, rd_hLN_sCP, rd_hAI_sCP, rd_hAJ_sCP, rd_hAR_sCP, rd_hNX_sCP, rd_hK_mS, rd_hFI_mS, rd_hFJ_mS, rd_hFR_mS, rd_hLN_mS, rd_hAJ_mS, rd_hAR_mS, rd_hNX_mS]
  funext b
  unfold am_up
  by_cases e : b = a
  · subst e
    rw [if_pos rfl, mS_in _ _ h1 h2, mS_in _ _ h1 h2]
    funext j
    unfold am_up2
    by_cases e : j = i
    · rw [if_pos ⟨rfl, e⟩, e, pk_us]
    · rw [if_neg (fun z => e z.2), pk_un e]
  · rw [if_neg e]
    by_cases h3 : 375 ≤ b ∧ b ≤ 383
    · rw [mS_in _ _ h3.1 h3.2, mS_in _ _ h3.1 h3.2]
      funext j
      unfold am_up2
      rw [if_neg (by omega)]
    · rw [mS_out _ _ (by omega), mS_out _ _ (by omega)]
theorem mS_mS (h : AH) (σ τ : Nat → Nat → Int32) : mS (mS h σ) τ = mS h τ := by
  apply AH_ext
  all_goals (try simp only [rd_hK_mS, rd_hFI_mS, rd_hFJ_mS, rd_hFR_mS, rd_hLN_mS, rd_hAJ_mS, rd_hAR_mS, rd_hNX_mS])
  funext b
  by_cases h3 : 375 ≤ b ∧ b ≤ 383
  · rw [mS_in _ _ h3.1 h3.2, mS_in _ _ h3.1 h3.2]
  · rw [mS_out _ _ (by omega), mS_out _ _ (by omega), mS_out _ _ (by omega)]
theorem mS_self (h : AH) : mS h (fun k => hAI h (375 + k)) = h := by
  apply AH_ext
  all_goals (try simp only [rd_hK_mS, rd_hFI_mS, rd_hFJ_mS, rd_hFR_mS, rd_hLN_mS, rd_hAJ_mS, rd_hAR_mS, rd_hNX_mS])
  funext b
  by_cases h3 : 375 ≤ b ∧ b ≤ 383
  · rw [mS_in _ _ h3.1 h3.2, show 375 + (b - 375) = b by omega]
  · rw [mS_out _ _ (by omega)]
theorem mE0 (h : AH) (σ : Nat → Nat → Int32) (i : Nat) (v : Int32) : sEI (mS h σ) 375 i v = mS h (am_up2 σ 0 i v) := mS_E h σ (by decide) (by decide) i v
theorem mE1 (h : AH) (σ : Nat → Nat → Int32) (i : Nat) (v : Int32) : sEI (mS h σ) 376 i v = mS h (am_up2 σ 1 i v) := mS_E h σ (by decide) (by decide) i v
theorem mE2 (h : AH) (σ : Nat → Nat → Int32) (i : Nat) (v : Int32) : sEI (mS h σ) 377 i v = mS h (am_up2 σ 2 i v) := mS_E h σ (by decide) (by decide) i v
theorem mE3 (h : AH) (σ : Nat → Nat → Int32) (i : Nat) (v : Int32) : sEI (mS h σ) 378 i v = mS h (am_up2 σ 3 i v) := mS_E h σ (by decide) (by decide) i v
theorem mE4 (h : AH) (σ : Nat → Nat → Int32) (i : Nat) (v : Int32) : sEI (mS h σ) 379 i v = mS h (am_up2 σ 4 i v) := mS_E h σ (by decide) (by decide) i v
theorem mE5 (h : AH) (σ : Nat → Nat → Int32) (i : Nat) (v : Int32) : sEI (mS h σ) 380 i v = mS h (am_up2 σ 5 i v) := mS_E h σ (by decide) (by decide) i v
theorem mE6 (h : AH) (σ : Nat → Nat → Int32) (i : Nat) (v : Int32) : sEI (mS h σ) 381 i v = mS h (am_up2 σ 6 i v) := mS_E h σ (by decide) (by decide) i v
theorem mE7 (h : AH) (σ : Nat → Nat → Int32) (i : Nat) (v : Int32) : sEI (mS h σ) 382 i v = mS h (am_up2 σ 7 i v) := mS_E h σ (by decide) (by decide) i v
theorem mE8 (h : AH) (σ : Nat → Nat → Int32) (i : Nat) (v : Int32) : sEI (mS h σ) 383 i v = mS h (am_up2 σ 8 i v) := mS_E h σ (by decide) (by decide) i v
theorem mR0 (h : AH) (σ : Nat → Nat → Int32) : hAI (mS h σ) 375 = σ 0 := mS_in h σ (by decide) (by decide)
theorem mR1 (h : AH) (σ : Nat → Nat → Int32) : hAI (mS h σ) 376 = σ 1 := mS_in h σ (by decide) (by decide)
theorem mR2 (h : AH) (σ : Nat → Nat → Int32) : hAI (mS h σ) 377 = σ 2 := mS_in h σ (by decide) (by decide)
theorem mR3 (h : AH) (σ : Nat → Nat → Int32) : hAI (mS h σ) 378 = σ 3 := mS_in h σ (by decide) (by decide)
theorem mR4 (h : AH) (σ : Nat → Nat → Int32) : hAI (mS h σ) 379 = σ 4 := mS_in h σ (by decide) (by decide)
theorem mR5 (h : AH) (σ : Nat → Nat → Int32) : hAI (mS h σ) 380 = σ 5 := mS_in h σ (by decide) (by decide)
theorem mR6 (h : AH) (σ : Nat → Nat → Int32) : hAI (mS h σ) 381 = σ 6 := mS_in h σ (by decide) (by decide)
theorem mR7 (h : AH) (σ : Nat → Nat → Int32) : hAI (mS h σ) 382 = σ 7 := mS_in h σ (by decide) (by decide)
theorem mR8 (h : AH) (σ : Nat → Nat → Int32) : hAI (mS h σ) 383 = σ 8 := mS_in h σ (by decide) (by decide)
def mop (σ : Nat → Nat → Int32) (d : Nat) : Nat → Nat → Int32 := am_up2 (am_up2 (am_up2 (am_up2 (am_up2 σ 1 d 0) 3 d 0) 4 d 0) 5 d 20) 7 d 0
def msu (σ : Nat → Nat → Int32) (d : Nat) : Nat → Nat → Int32 := am_up2 (am_up2 σ 4 d (if σ 5 d = 21 then σ 4 d - σ 6 d else σ 4 d + σ 6 d)) 7 d 0
def mtv (σ : Nat → Nat → Int32) (d : Nat) : Int32 := if σ 3 d = 24 then (if σ 2 d < σ 4 d then 1 else 0) else if σ 3 d = 25 then (if σ 2 d = σ 4 d then 1 else 0) else σ 4 d
def mtk (σ : Nat → Nat → Int32) (d : Nat) (v : Int32) : Int32 := if σ 1 d = 26 then (if σ 0 d = 0 then 0 else if v = 0 then 0 else 1) else if σ 1 d = 27 then (if σ 0 d = 0 then (if v = 0 then 0 else 1) else 1) else v
def mte (σ : Nat → Nat → Int32) (d : Nat) : Nat → Nat → Int32 :=
  am_up2 (am_up2 (am_up2 (am_up2 (msu σ d) 0 d (mtk (msu σ d) d (mtv (msu σ d) d))) 3 d 0) 4 d 0) 5 d 20
def mpop (σ : Nat → Nat → Int32) : Nat → Int32 → Nat × Int32
  | 0, v => (0, v)
  | d + 1, v => if σ 8 (d + 1) = 1 then mpop σ d (if v = 0 then 1 else 0) else (d + 1, v)
def mtm (σ : Nat → Nat → Int32) (q : Nat × Int32) : Nat → Nat → Int32 := am_up2 σ 6 q.1 (if σ 7 q.1 = 0 then q.2 else σ 6 q.1 * q.2)
def mval (vs : Nat → Int32) (c : Int32) : Int32 := if c < 100 then (if c < 20 then vs (Int32.toNatClampNeg c) else 0) else c - 100
def mk1 (vs : Nat → Int32) (c : Int32) (q : Nat × (Nat → Nat → Int32)) : Nat × (Nat → Nat → Int32) :=
  if c = 28 then (q.1 + 1, mop (am_up2 q.2 8 (q.1 + 1) 0) (q.1 + 1))
  else if c = 30 then (q.1 + 1, mop (am_up2 q.2 8 (q.1 + 1) 1) (q.1 + 1))
  else if c = 20 ∨ c = 21 then (q.1, am_up2 (msu q.2 q.1) 5 q.1 c)
  else if c = 22 then (q.1, am_up2 q.2 7 q.1 c)
  else if c = 24 ∨ c = 25 then (q.1, am_up2 (am_up2 (am_up2 (am_up2 (msu q.2 q.1) 2 q.1 (msu q.2 q.1 4 q.1)) 3 q.1 c) 4 q.1 0) 5 q.1 20)
  else if c = 26 ∨ c = 27 then (q.1, am_up2 (mte q.2 q.1) 1 q.1 c)
  else if c = 29 then ((mpop (mte q.2 q.1) (q.1 - 1) (mte q.2 q.1 0 q.1)).1, mtm (mte q.2 q.1) (mpop (mte q.2 q.1) (q.1 - 1) (mte q.2 q.1 0 q.1)))
  else ((mpop q.2 q.1 (mval vs c)).1, mtm q.2 (mpop q.2 q.1 (mval vs c)))
theorem mpop_le (σ : Nat → Nat → Int32) : ∀ (d : Nat) (v : Int32), (mpop σ d v).1 ≤ d
  | 0, v => Nat.le_refl _
  | d + 1, v => by
    unfold mpop
    split
    · exact Nat.le_succ_of_le (mpop_le σ d _)
    · exact Nat.le_refl _
theorem c_opens {dp d : Nat} {h : AH} {σ : Nat → Nat → Int32} (hm : MSh h) (hd : d < 7) : am_C PG (dp + 1) 173 [.ref 348, .int (nI d)] (mS h σ) = some (none, mS h (mop σ d)) := by
  have m0 := hm.1
  have f1237 : hFR _ 1237 348 = some 376 := (hm.2 27 (by decide)).1
  have k376 : hK _ 376 = 50 := (hm.2 27 (by decide)).2.1
  have n376 : hLN _ 376 = 7 := (hm.2 27 (by decide)).2.2
  have f1239 : hFR _ 1239 348 = some 378 := (hm.2 29 (by decide)).1
  have k378 : hK _ 378 = 50 := (hm.2 29 (by decide)).2.1
  have n378 : hLN _ 378 = 7 := (hm.2 29 (by decide)).2.2
  have f1240 : hFR _ 1240 348 = some 379 := (hm.2 30 (by decide)).1
  have k379 : hK _ 379 = 50 := (hm.2 30 (by decide)).2.1
  have n379 : hLN _ 379 = 7 := (hm.2 30 (by decide)).2.2
  have f1241 : hFR _ 1241 348 = some 380 := (hm.2 31 (by decide)).1
  have k380 : hK _ 380 = 50 := (hm.2 31 (by decide)).2.1
  have n380 : hLN _ 380 = 7 := (hm.2 31 (by decide)).2.2
  have f1243 : hFR _ 1243 348 = some 382 := (hm.2 33 (by decide)).1
  have k382 : hK _ 382 = 50 := (hm.2 33 (by decide)).2.1
  have n382 : hLN _ 382 = 7 := (hm.2 33 (by decide)).2.2
  have e3 : ∀ x, am_in (nI d) 7 x = x := am_inN hd (by decide)
  have e4 : Int32.toNatClampNeg (nI d) = d := nI_clamp (by omega)
  rw [q_X12_opens]
  simp only [rd_hK_mS, rd_hFI_mS, rd_hFJ_mS, rd_hFR_mS, rd_hLN_mS, rd_hAJ_mS, rd_hAR_mS, rd_hNX_mS, mE0, mE1, mE2, mE3, mE4, mE5, mE6, mE7, mE8, mR0, mR1, mR2, mR3, mR4, mR5, mR6, mR7, mR8, am_kd, m0, f1237, k376, n376, f1239, k378, n378, f1240, k379, n379, f1241, k380, n380, f1243, k382, n382, if_true, bR_s, e3, e4, am_let_e]
  rfl
theorem c_sums {dp d : Nat} {h : AH} {σ : Nat → Nat → Int32} (hm : MSh h) (hd : d < 7) : am_C PG (dp + 1) 174 [.ref 348, .int (nI d)] (mS h σ) = some (none, mS h (msu σ d)) := by
  have m0 := hm.1
  have f1240 : hFR _ 1240 348 = some 379 := (hm.2 30 (by decide)).1
  have k379 : hK _ 379 = 50 := (hm.2 30 (by decide)).2.1
  have n379 : hLN _ 379 = 7 := (hm.2 30 (by decide)).2.2
  have f1241 : hFR _ 1241 348 = some 380 := (hm.2 31 (by decide)).1
  have k380 : hK _ 380 = 50 := (hm.2 31 (by decide)).2.1
  have n380 : hLN _ 380 = 7 := (hm.2 31 (by decide)).2.2
  have f1242 : hFR _ 1242 348 = some 381 := (hm.2 32 (by decide)).1
  have k381 : hK _ 381 = 50 := (hm.2 32 (by decide)).2.1
  have n381 : hLN _ 381 = 7 := (hm.2 32 (by decide)).2.2
  have f1243 : hFR _ 1243 348 = some 382 := (hm.2 33 (by decide)).1
  have k382 : hK _ 382 = 50 := (hm.2 33 (by decide)).2.1
  have n382 : hLN _ 382 = 7 := (hm.2 33 (by decide)).2.2
  have e3 : ∀ x, am_in (nI d) 7 x = x := am_inN hd (by decide)
  have e4 : Int32.toNatClampNeg (nI d) = d := nI_clamp (by omega)
  rw [q_X12_sums]
  simp only [rd_hK_mS, rd_hFI_mS, rd_hFJ_mS, rd_hFR_mS, rd_hLN_mS, rd_hAJ_mS, rd_hAR_mS, rd_hNX_mS, mE0, mE1, mE2, mE3, mE4, mE5, mE6, mE7, mE8, mR0, mR1, mR2, mR3, mR4, mR5, mR6, mR7, mR8, am_kd, m0, f1240, k379, n379, f1241, k380, n380, f1242, k381, n381, f1243, k382, n382, if_true, bR_s, e3, e4, am_let_e, msu]
  by_cases c1 : σ 5 d = 21
  · simp only [c1, if_true]
  · simp only [c1, if_false]
theorem c_tests {dp d : Nat} {h : AH} {σ : Nat → Nat → Int32} (hm : MSh h) (hd : d < 7) : am_C PG (dp + 2) 175 [.ref 348, .int (nI d)] (mS h σ) = some (none, mS h (mte σ d)) := by
  have k1 := c_sums (dp := dp) (σ := σ) hm hd
  have m0 := hm.1
  have f1236 : hFR _ 1236 348 = some 375 := (hm.2 26 (by decide)).1
  have k375 : hK _ 375 = 50 := (hm.2 26 (by decide)).2.1
  have n375 : hLN _ 375 = 7 := (hm.2 26 (by decide)).2.2
  have f1237 : hFR _ 1237 348 = some 376 := (hm.2 27 (by decide)).1
  have k376 : hK _ 376 = 50 := (hm.2 27 (by decide)).2.1
  have n376 : hLN _ 376 = 7 := (hm.2 27 (by decide)).2.2
  have f1238 : hFR _ 1238 348 = some 377 := (hm.2 28 (by decide)).1
  have k377 : hK _ 377 = 50 := (hm.2 28 (by decide)).2.1
  have n377 : hLN _ 377 = 7 := (hm.2 28 (by decide)).2.2
  have f1239 : hFR _ 1239 348 = some 378 := (hm.2 29 (by decide)).1
  have k378 : hK _ 378 = 50 := (hm.2 29 (by decide)).2.1
  have n378 : hLN _ 378 = 7 := (hm.2 29 (by decide)).2.2
  have f1240 : hFR _ 1240 348 = some 379 := (hm.2 30 (by decide)).1
  have k379 : hK _ 379 = 50 := (hm.2 30 (by decide)).2.1
  have n379 : hLN _ 379 = 7 := (hm.2 30 (by decide)).2.2
  have f1241 : hFR _ 1241 348 = some 380 := (hm.2 31 (by decide)).1
  have k380 : hK _ 380 = 50 := (hm.2 31 (by decide)).2.1
  have n380 : hLN _ 380 = 7 := (hm.2 31 (by decide)).2.2
  have e3 : ∀ x, am_in (nI d) 7 x = x := am_inN hd (by decide)
  have e4 : Int32.toNatClampNeg (nI d) = d := nI_clamp (by omega)
  have step106 : ∀ (τ : Nat → Nat → Int32) (v : Int32), am_R PG (dp + 2) 175 106 [some (.ref 348), some (.int (nI d)), some (.int v)] [] (mS h τ) = some (none, mS h (am_up2 (am_up2 (am_up2 (am_up2 τ 0 d (if τ 1 d = 27 then (if τ 0 d = 0 then (if v = 0 then 0 else 1) else 1) else v)) 3 d 0) 4 d 0) 5 d 20)) := by
    intro τ v
    rw [q_X12_tests_106]
    simp only [rd_hK_mS, rd_hFI_mS, rd_hFJ_mS, rd_hFR_mS, rd_hLN_mS, rd_hAJ_mS, rd_hAR_mS, rd_hNX_mS, mE0, mE1, mE2, mE3, mE4, mE5, mE6, mE7, mE8, mR0, mR1, mR2, mR3, mR4, mR5, mR6, mR7, mR8, am_kd, m0, f1236, k375, n375, f1237, k376, n376, f1238, k377, n377, f1239, k378, n378, f1240, k379, n379, f1241, k380, n380, if_true, bR_s, e3, e4, am_let_e]
    by_cases c1 : τ 1 d = 27
    · by_cases c2 : τ 0 d = 0
      · by_cases c3 : v = 0
        · simp only [c1, c2, c3, if_true]
        · simp only [c1, c2, c3, if_true, if_false]
      · simp only [c1, c2, if_true, if_false]
    · simp only [c1, if_false]
  have step76 : ∀ (τ : Nat → Nat → Int32) (v : Int32), am_R PG (dp + 2) 175 76 [some (.ref 348), some (.int (nI d)), some (.int v)] [] (mS h τ) = some (none, mS h (am_up2 (am_up2 (am_up2 (am_up2 τ 0 d (mtk τ d v)) 3 d 0) 4 d 0) 5 d 20)) := by
    intro τ v
    rw [q_X12_tests_76]
    simp only [rd_hK_mS, rd_hFI_mS, rd_hFJ_mS, rd_hFR_mS, rd_hLN_mS, rd_hAJ_mS, rd_hAR_mS, rd_hNX_mS, mE0, mE1, mE2, mE3, mE4, mE5, mE6, mE7, mE8, mR0, mR1, mR2, mR3, mR4, mR5, mR6, mR7, mR8, am_kd, m0, f1236, k375, n375, f1237, k376, n376, f1238, k377, n377, f1239, k378, n378, f1240, k379, n379, f1241, k380, n380, if_true, bR_s, e3, e4, am_let_e, step106]
    unfold mtk
    by_cases c1 : τ 1 d = 26
    · have z : ((26 : Int32) = 27) = False := eq_false (by decide)
      by_cases c2 : τ 0 d = 0
      · simp only [c1, c2, z, if_true, if_false]
      · by_cases c3 : v = 0
        · simp only [c1, c2, c3, z, if_true, if_false]
        · simp only [c1, c2, c3, z, if_true, if_false]
    · simp only [c1, if_false]
  rw [q_X12_tests]
  simp only [rd_hK_mS, rd_hFI_mS, rd_hFJ_mS, rd_hFR_mS, rd_hLN_mS, rd_hAJ_mS, rd_hAR_mS, rd_hNX_mS, mE0, mE1, mE2, mE3, mE4, mE5, mE6, mE7, mE8, mR0, mR1, mR2, mR3, mR4, mR5, mR6, mR7, mR8, am_kd, m0, f1236, k375, n375, f1237, k376, n376, f1238, k377, n377, f1239, k378, n378, f1240, k379, n379, f1241, k380, n380, if_true, k1, bV_s, bR_s, e3, e4, step76]
  unfold mte mtv
  by_cases c1 : msu σ d 3 d = 24
  · have z : ((24 : Int32) = 25) = False := eq_false (by decide)
    by_cases c2 : msu σ d 2 d < msu σ d 4 d
    · simp only [c1, c2, z, if_true, if_false]
    · simp only [c1, c2, z, if_true, if_false]
  · by_cases c3 : msu σ d 3 d = 25
    · by_cases c4 : msu σ d 2 d = msu σ d 4 d
      · simp only [c3, c4, show ((25 : Int32) = 24) = False from eq_false (by decide), if_true, if_false]
      · simp only [c3, c4, show ((25 : Int32) = 24) = False from eq_false (by decide), if_true, if_false]
    · simp only [c1, c3, if_false]
theorem wk_pop {dp i : Nat} {h : AH} {l : Int32} {σ : Nat → Nat → Int32} (hm : MSh h) : ∀ (d : Nat) (v : Int32), d < 7 →
    am_R PG (dp + 1) 176 268 [some (.ref 348), some (.int l), some (.int (nI d)), some (.int (nI i)), none, some (.int v)] [] (mS h σ) =
    am_R PG (dp + 1) 176 14 [some (.ref 348), some (.int l), some (.int (nI (mpop σ d v).1)), some (.int (nI (i + 1))), none, none] [] (mS h (mtm σ (mpop σ d v)))
  | 0, v, hd => by
    have m0 := hm.1
    have f1242 : hFR _ 1242 348 = some 381 := (hm.2 32 (by decide)).1
    have k381 : hK _ 381 = 50 := (hm.2 32 (by decide)).2.1
    have n381 : hLN _ 381 = 7 := (hm.2 32 (by decide)).2.2
    have f1243 : hFR _ 1243 348 = some 382 := (hm.2 33 (by decide)).1
    have k382 : hK _ 382 = 50 := (hm.2 33 (by decide)).2.1
    have n382 : hLN _ 382 = 7 := (hm.2 33 (by decide)).2.2
    have e3 : ∀ x, am_in (nI 0) 7 x = x := am_inN hd (by decide)
    have e4 : Int32.toNatClampNeg (nI 0) = 0 := nI_clamp (by omega)
    rw [q_X12_worked_268]
    simp only [rd_hK_mS, rd_hFI_mS, rd_hFJ_mS, rd_hFR_mS, rd_hLN_mS, rd_hAJ_mS, rd_hAR_mS, rd_hNX_mS, mE0, mE1, mE2, mE3, mE4, mE5, mE6, mE7, mE8, mR0, mR1, mR2, mR3, mR4, mR5, mR6, mR7, mR8, am_kd, m0, f1242, k381, n381, f1243, k382, n382, if_true, bR_s, e3, e4, am_let_e, show ((0 : Int32) < nI 0) = False from eq_false (by decide), if_false, nI_1]
    unfold mtm mpop
    dsimp only
    by_cases c1 : σ 7 0 = 0
    · simp only [c1, if_true]
    · simp only [c1, if_false]
  | d + 1, v, hd => by
    have ih := wk_pop (dp := dp) (i := i) (l := l) (σ := σ) hm d
    have m0 := hm.1
    have f1242 : hFR _ 1242 348 = some 381 := (hm.2 32 (by decide)).1
    have k381 : hK _ 381 = 50 := (hm.2 32 (by decide)).2.1
    have n381 : hLN _ 381 = 7 := (hm.2 32 (by decide)).2.2
    have f1243 : hFR _ 1243 348 = some 382 := (hm.2 33 (by decide)).1
    have k382 : hK _ 382 = 50 := (hm.2 33 (by decide)).2.1
    have n382 : hLN _ 382 = 7 := (hm.2 33 (by decide)).2.2
    have f1244 : hFR _ 1244 348 = some 383 := (hm.2 34 (by decide)).1
    have k383 : hK _ 383 = 50 := (hm.2 34 (by decide)).2.1
    have n383 : hLN _ 383 = 7 := (hm.2 34 (by decide)).2.2
    have e3 : ∀ x, am_in (nI (d + 1)) 7 x = x := am_inN hd (by decide)
    have e4 : Int32.toNatClampNeg (nI (d + 1)) = d + 1 := nI_clamp (by omega)
    have e5 : ((0 : Int32) < nI (d + 1)) = True := eq_true (nI_lt (a := 0) (by omega) (by omega))
    rw [q_X12_worked_268]
    simp only [rd_hK_mS, rd_hFI_mS, rd_hFJ_mS, rd_hFR_mS, rd_hLN_mS, rd_hAJ_mS, rd_hAR_mS, rd_hNX_mS, mE0, mE1, mE2, mE3, mE4, mE5, mE6, mE7, mE8, mR0, mR1, mR2, mR3, mR4, mR5, mR6, mR7, mR8, am_kd, m0, f1242, k381, n381, f1243, k382, n382, f1244, k383, n383, if_true, bR_s, e3, e4, e5, am_let_e, pk_m1, nI_1]
    unfold mpop
    by_cases c0 : σ 8 (d + 1) = 1
    · by_cases c1 : v = 0
      · simp only [c0, c1, if_true, ih _ (by omega : d < 7)]
      · simp only [c0, c1, if_true, if_false, ih _ (by omega : d < 7)]
    · simp only [c0, if_false]
      unfold mtm
      dsimp only
      by_cases c1 : σ 7 (d + 1) = 0
      · simp only [c1, if_true]
      · simp only [c1, if_false]
/-- a code that can stand there -/
def mok1 (c : Int32) (d : Nat) : Prop := (c = 28 ∨ c = 30 → d < 6) ∧ (c = 29 → 0 < d) ∧ (c < 20 → vp_in c 20)
theorem wk_step {dp i n : Nat} {h : AH} (hm : MSh h) (hn : hAI h 371 0 = nI n) (hn2 : n ≤ 1000) (hi : i < n) {q : Nat × (Nat → Nat → Int32)} (hd : q.1 < 7) (hc : mok1 (hAI h 372 i) q.1) :
    am_R PG (dp + 3) 176 14 [some (.ref 348), some (.int 0), some (.int (nI q.1)), some (.int (nI i)), none, none] [] (mS h q.2) =
    am_R PG (dp + 3) 176 14 [some (.ref 348), some (.int 0), some (.int (nI (mk1 (hAI h 384) (hAI h 372 i) q).1)), some (.int (nI (i + 1))), none, none] [] (mS h (mk1 (hAI h 384) (hAI h 372 i) q).2) := by
  obtain ⟨d, σ⟩ := q
  dsimp only at hd hc ⊢
  obtain ⟨hc1, hc2, hc3⟩ := hc
  have ks := fun τ => c_sums (dp := dp + 1) (σ := τ) hm hd
  have kt := fun τ => c_tests (dp := dp) (σ := τ) hm hd
  have kp := fun τ e v (he : e < 7) => wk_pop (dp := dp + 2) (i := i) (l := 0) (σ := τ) hm e v he
  have hm' := hm
  have m0 := hm'.1
  have f1231 : hFR _ 1231 348 = some 371 := (hm'.2 22 (by decide)).1
  have k371 : hK _ 371 = 50 := (hm'.2 22 (by decide)).2.1
  have n371 : hLN _ 371 = 2 := (hm'.2 22 (by decide)).2.2
  have f1232 : hFR _ 1232 348 = some 372 := (hm'.2 23 (by decide)).1
  have k372 : hK _ 372 = 50 := (hm'.2 23 (by decide)).2.1
  have n372 : hLN _ 372 = 2000 := (hm'.2 23 (by decide)).2.2
  have f1236 : hFR _ 1236 348 = some 375 := (hm'.2 26 (by decide)).1
  have k375 : hK _ 375 = 50 := (hm'.2 26 (by decide)).2.1
  have n375 : hLN _ 375 = 7 := (hm'.2 26 (by decide)).2.2
  have f1237 : hFR _ 1237 348 = some 376 := (hm'.2 27 (by decide)).1
  have k376 : hK _ 376 = 50 := (hm'.2 27 (by decide)).2.1
  have n376 : hLN _ 376 = 7 := (hm'.2 27 (by decide)).2.2
  have f1238 : hFR _ 1238 348 = some 377 := (hm'.2 28 (by decide)).1
  have k377 : hK _ 377 = 50 := (hm'.2 28 (by decide)).2.1
  have n377 : hLN _ 377 = 7 := (hm'.2 28 (by decide)).2.2
  have f1239 : hFR _ 1239 348 = some 378 := (hm'.2 29 (by decide)).1
  have k378 : hK _ 378 = 50 := (hm'.2 29 (by decide)).2.1
  have n378 : hLN _ 378 = 7 := (hm'.2 29 (by decide)).2.2
  have f1240 : hFR _ 1240 348 = some 379 := (hm'.2 30 (by decide)).1
  have k379 : hK _ 379 = 50 := (hm'.2 30 (by decide)).2.1
  have n379 : hLN _ 379 = 7 := (hm'.2 30 (by decide)).2.2
  have f1241 : hFR _ 1241 348 = some 380 := (hm'.2 31 (by decide)).1
  have k380 : hK _ 380 = 50 := (hm'.2 31 (by decide)).2.1
  have n380 : hLN _ 380 = 7 := (hm'.2 31 (by decide)).2.2
  have f1243 : hFR _ 1243 348 = some 382 := (hm'.2 33 (by decide)).1
  have k382 : hK _ 382 = 50 := (hm'.2 33 (by decide)).2.1
  have n382 : hLN _ 382 = 7 := (hm'.2 33 (by decide)).2.2
  have f1244 : hFR _ 1244 348 = some 383 := (hm'.2 34 (by decide)).1
  have k383 : hK _ 383 = 50 := (hm'.2 34 (by decide)).2.1
  have n383 : hLN _ 383 = 7 := (hm'.2 34 (by decide)).2.2
  have f1245 : hFR _ 1245 348 = some 384 := (hm'.2 35 (by decide)).1
  have k384 : hK _ 384 = 50 := (hm'.2 35 (by decide)).2.1
  have n384 : hLN _ 384 = 20 := (hm'.2 35 (by decide)).2.2
  have e0 : ∀ x, am_in (0 : Int32) 2 x = x := am_inN (i := 0) (by decide) (by decide)
  have e1 : ∀ x, am_in (nI i) 2000 x = x := am_inN (by omega) (by decide)
  have e2 : Int32.toNatClampNeg (nI i) = i := nI_clamp (by omega)
  have e3 : ∀ x, am_in (nI d) 7 x = x := am_inN hd (by decide)
  have e4 : Int32.toNatClampNeg (nI d) = d := nI_clamp (by omega)
  have e5 : (nI i < nI n) = True := eq_true (nI_lt hi (by omega))
  have o1 : ∀ τ, hAI (mS h τ) 371 = hAI h 371 := fun τ => mS_out h τ (by decide)
  have o2 : ∀ τ, hAI (mS h τ) 372 = hAI h 372 := fun τ => mS_out h τ (by decide)
  have o3 : ∀ τ, hAI (mS h τ) 384 = hAI h 384 := fun τ => mS_out h τ (by decide)
  rw [q_X12_worked_14]
  generalize hcc : hAI h 372 i = c at hc1 hc2 hc3 ⊢
  by_cases q1 : c = 28
  · have hd6 := hc1 (Or.inl q1)
    have ko := fun τ => c_opens (dp := dp + 1) (d := d + 1) (σ := τ) hm (by omega)
    have g3 : ∀ x, am_in (nI (d + 1)) 7 x = x := am_inN (by omega) (by decide)
    have g4 : Int32.toNatClampNeg (nI (d + 1)) = d + 1 := nI_clamp (by omega)
    simp only [rd_hK_mS, rd_hFI_mS, rd_hFJ_mS, rd_hFR_mS, rd_hLN_mS, rd_hAJ_mS, rd_hAR_mS, rd_hNX_mS, mE0, mE1, mE2, mE3, mE4, mE5, mE6, mE7, mE8, mR0, mR1, mR2, mR3, mR4, mR5, mR6, mR7, mR8, am_kd, m0, f1231, k371, n371, f1232, k372, n372, f1236, k375, n375, f1237, k376, n376, f1238, k377, n377, f1239, k378, n378, f1240, k379, n379, f1241, k380, n380, f1243, k382, n382, f1244, k383, n383, f1245, k384, n384, if_true, bR_s, e0, e1, e2, e5, o1, o2, hn, nI_cl0, hcc, q1, show ((28 : Int32) = 30) = False from eq_false (by decide), if_false, nI_1, g3, g4, am_let_e, ko, bV_s, mk1]
  · by_cases q2 : c = 30
    · have hd6 := hc1 (Or.inr q2)
      have ko := fun τ => c_opens (dp := dp + 1) (d := d + 1) (σ := τ) hm (by omega)
      have g3 : ∀ x, am_in (nI (d + 1)) 7 x = x := am_inN (by omega) (by decide)
      have g4 : Int32.toNatClampNeg (nI (d + 1)) = d + 1 := nI_clamp (by omega)
      simp only [rd_hK_mS, rd_hFI_mS, rd_hFJ_mS, rd_hFR_mS, rd_hLN_mS, rd_hAJ_mS, rd_hAR_mS, rd_hNX_mS, mE0, mE1, mE2, mE3, mE4, mE5, mE6, mE7, mE8, mR0, mR1, mR2, mR3, mR4, mR5, mR6, mR7, mR8, am_kd, m0, f1231, k371, n371, f1232, k372, n372, f1236, k375, n375, f1237, k376, n376, f1238, k377, n377, f1239, k378, n378, f1240, k379, n379, f1241, k380, n380, f1243, k382, n382, f1244, k383, n383, f1245, k384, n384, if_true, bR_s, e0, e1, e2, e5, o1, o2, hn, nI_cl0, hcc, q2, show ((30 : Int32) = 28) = False from eq_false (by decide), if_false, nI_1, g3, g4, am_let_e, ko, bV_s, mk1]
    · by_cases q3 : c = 20
      · simp only [rd_hK_mS, rd_hFI_mS, rd_hFJ_mS, rd_hFR_mS, rd_hLN_mS, rd_hAJ_mS, rd_hAR_mS, rd_hNX_mS, mE0, mE1, mE2, mE3, mE4, mE5, mE6, mE7, mE8, mR0, mR1, mR2, mR3, mR4, mR5, mR6, mR7, mR8, am_kd, m0, f1231, k371, n371, f1232, k372, n372, f1236, k375, n375, f1237, k376, n376, f1238, k377, n377, f1239, k378, n378, f1240, k379, n379, f1241, k380, n380, f1243, k382, n382, f1244, k383, n383, f1245, k384, n384, if_true, bR_s, e0, e1, e2, e5, o1, o2, hn, nI_cl0, hcc, q3, show ((20 : Int32) = 28) = False from eq_false (by decide), show ((20 : Int32) = 30) = False from eq_false (by decide), if_false, nI_1, e3, e4, am_let_e, ks, bV_s, mk1, true_or]
      · by_cases q4 : c = 21
        · simp only [rd_hK_mS, rd_hFI_mS, rd_hFJ_mS, rd_hFR_mS, rd_hLN_mS, rd_hAJ_mS, rd_hAR_mS, rd_hNX_mS, mE0, mE1, mE2, mE3, mE4, mE5, mE6, mE7, mE8, mR0, mR1, mR2, mR3, mR4, mR5, mR6, mR7, mR8, am_kd, m0, f1231, k371, n371, f1232, k372, n372, f1236, k375, n375, f1237, k376, n376, f1238, k377, n377, f1239, k378, n378, f1240, k379, n379, f1241, k380, n380, f1243, k382, n382, f1244, k383, n383, f1245, k384, n384, if_true, bR_s, e0, e1, e2, e5, o1, o2, hn, nI_cl0, hcc, q4, show ((21 : Int32) = 28) = False from eq_false (by decide), show ((21 : Int32) = 30) = False from eq_false (by decide), show ((21 : Int32) = 20) = False from eq_false (by decide), if_false, nI_1, e3, e4, am_let_e, ks, bV_s, mk1, or_true]
        · by_cases q5 : c = 22
          · simp only [rd_hK_mS, rd_hFI_mS, rd_hFJ_mS, rd_hFR_mS, rd_hLN_mS, rd_hAJ_mS, rd_hAR_mS, rd_hNX_mS, mE0, mE1, mE2, mE3, mE4, mE5, mE6, mE7, mE8, mR0, mR1, mR2, mR3, mR4, mR5, mR6, mR7, mR8, am_kd, m0, f1231, k371, n371, f1232, k372, n372, f1236, k375, n375, f1237, k376, n376, f1238, k377, n377, f1239, k378, n378, f1240, k379, n379, f1241, k380, n380, f1243, k382, n382, f1244, k383, n383, f1245, k384, n384, if_true, bR_s, e0, e1, e2, e5, o1, o2, hn, nI_cl0, hcc, q5, show ((22 : Int32) = 28) = False from eq_false (by decide), show ((22 : Int32) = 30) = False from eq_false (by decide), show ((22 : Int32) = 20) = False from eq_false (by decide), show ((22 : Int32) = 21) = False from eq_false (by decide), if_false, nI_1, e3, e4, am_let_e, mk1, or_false]
          · by_cases q6 : c = 24
            · simp only [rd_hK_mS, rd_hFI_mS, rd_hFJ_mS, rd_hFR_mS, rd_hLN_mS, rd_hAJ_mS, rd_hAR_mS, rd_hNX_mS, mE0, mE1, mE2, mE3, mE4, mE5, mE6, mE7, mE8, mR0, mR1, mR2, mR3, mR4, mR5, mR6, mR7, mR8, am_kd, m0, f1231, k371, n371, f1232, k372, n372, f1236, k375, n375, f1237, k376, n376, f1238, k377, n377, f1239, k378, n378, f1240, k379, n379, f1241, k380, n380, f1243, k382, n382, f1244, k383, n383, f1245, k384, n384, if_true, bR_s, e0, e1, e2, e5, o1, o2, hn, nI_cl0, hcc, q6, show ((24 : Int32) = 28) = False from eq_false (by decide), show ((24 : Int32) = 30) = False from eq_false (by decide), show ((24 : Int32) = 20) = False from eq_false (by decide), show ((24 : Int32) = 21) = False from eq_false (by decide), show ((24 : Int32) = 22) = False from eq_false (by decide), if_false, nI_1, e3, e4, am_let_e, ks, bV_s, mk1, or_false, true_or]
            · by_cases q7 : c = 25
              · simp only [rd_hK_mS, rd_hFI_mS, rd_hFJ_mS, rd_hFR_mS, rd_hLN_mS, rd_hAJ_mS, rd_hAR_mS, rd_hNX_mS, mE0, mE1, mE2, mE3, mE4, mE5, mE6, mE7, mE8, mR0, mR1, mR2, mR3, mR4, mR5, mR6, mR7, mR8, am_kd, m0, f1231, k371, n371, f1232, k372, n372, f1236, k375, n375, f1237, k376, n376, f1238, k377, n377, f1239, k378, n378, f1240, k379, n379, f1241, k380, n380, f1243, k382, n382, f1244, k383, n383, f1245, k384, n384, if_true, bR_s, e0, e1, e2, e5, o1, o2, hn, nI_cl0, hcc, q7, show ((25 : Int32) = 28) = False from eq_false (by decide), show ((25 : Int32) = 30) = False from eq_false (by decide), show ((25 : Int32) = 20) = False from eq_false (by decide), show ((25 : Int32) = 21) = False from eq_false (by decide), show ((25 : Int32) = 22) = False from eq_false (by decide), show ((25 : Int32) = 24) = False from eq_false (by decide), if_false, nI_1, e3, e4, am_let_e, ks, bV_s, mk1, or_false, or_true]
              · by_cases q8 : c = 26
                · simp only [rd_hK_mS, rd_hFI_mS, rd_hFJ_mS, rd_hFR_mS, rd_hLN_mS, rd_hAJ_mS, rd_hAR_mS, rd_hNX_mS, mE0, mE1, mE2, mE3, mE4, mE5, mE6, mE7, mE8, mR0, mR1, mR2, mR3, mR4, mR5, mR6, mR7, mR8, am_kd, m0, f1231, k371, n371, f1232, k372, n372, f1236, k375, n375, f1237, k376, n376, f1238, k377, n377, f1239, k378, n378, f1240, k379, n379, f1241, k380, n380, f1243, k382, n382, f1244, k383, n383, f1245, k384, n384, if_true, bR_s, e0, e1, e2, e5, o1, o2, hn, nI_cl0, hcc, q8, show ((26 : Int32) = 28) = False from eq_false (by decide), show ((26 : Int32) = 30) = False from eq_false (by decide), show ((26 : Int32) = 20) = False from eq_false (by decide), show ((26 : Int32) = 21) = False from eq_false (by decide), show ((26 : Int32) = 22) = False from eq_false (by decide), show ((26 : Int32) = 24) = False from eq_false (by decide), show ((26 : Int32) = 25) = False from eq_false (by decide), if_false, nI_1, e3, e4, am_let_e, kt, bV_s, mk1, or_false, true_or]
                · by_cases q9 : c = 27
                  · simp only [rd_hK_mS, rd_hFI_mS, rd_hFJ_mS, rd_hFR_mS, rd_hLN_mS, rd_hAJ_mS, rd_hAR_mS, rd_hNX_mS, mE0, mE1, mE2, mE3, mE4, mE5, mE6, mE7, mE8, mR0, mR1, mR2, mR3, mR4, mR5, mR6, mR7, mR8, am_kd, m0, f1231, k371, n371, f1232, k372, n372, f1236, k375, n375, f1237, k376, n376, f1238, k377, n377, f1239, k378, n378, f1240, k379, n379, f1241, k380, n380, f1243, k382, n382, f1244, k383, n383, f1245, k384, n384, if_true, bR_s, e0, e1, e2, e5, o1, o2, hn, nI_cl0, hcc, q9, show ((27 : Int32) = 28) = False from eq_false (by decide), show ((27 : Int32) = 30) = False from eq_false (by decide), show ((27 : Int32) = 20) = False from eq_false (by decide), show ((27 : Int32) = 21) = False from eq_false (by decide), show ((27 : Int32) = 22) = False from eq_false (by decide), show ((27 : Int32) = 24) = False from eq_false (by decide), show ((27 : Int32) = 25) = False from eq_false (by decide), show ((27 : Int32) = 26) = False from eq_false (by decide), if_false, nI_1, e3, e4, am_let_e, kt, bV_s, mk1, or_false, or_true]
                  · by_cases q0 : c = 29
                    · have hd0 := hc2 q0
                      obtain ⟨e, rfl⟩ : ∃ e, d = e + 1 := ⟨d - 1, by omega⟩
                      simp only [rd_hK_mS, rd_hFI_mS, rd_hFJ_mS, rd_hFR_mS, rd_hLN_mS, rd_hAJ_mS, rd_hAR_mS, rd_hNX_mS, mE0, mE1, mE2, mE3, mE4, mE5, mE6, mE7, mE8, mR0, mR1, mR2, mR3, mR4, mR5, mR6, mR7, mR8, am_kd, m0, f1231, k371, n371, f1232, k372, n372, f1236, k375, n375, f1237, k376, n376, f1238, k377, n377, f1239, k378, n378, f1240, k379, n379, f1241, k380, n380, f1243, k382, n382, f1244, k383, n383, f1245, k384, n384, if_true, bR_s, e0, e1, e2, e5, o1, o2, hn, nI_cl0, hcc, q0, show ((29 : Int32) = 28) = False from eq_false (by decide), show ((29 : Int32) = 30) = False from eq_false (by decide), show ((29 : Int32) = 20) = False from eq_false (by decide), show ((29 : Int32) = 21) = False from eq_false (by decide), show ((29 : Int32) = 22) = False from eq_false (by decide), show ((29 : Int32) = 24) = False from eq_false (by decide), show ((29 : Int32) = 25) = False from eq_false (by decide), show ((29 : Int32) = 26) = False from eq_false (by decide), show ((29 : Int32) = 27) = False from eq_false (by decide), show ((29 : Int32) < 100) = True from eq_true (by decide), show ((29 : Int32) < 20) = False from eq_false (by decide), if_false, e3, e4, kt, bV_s, pk_m1, kp _ e _ (by omega), mk1, or_false, Nat.add_sub_cancel]
                    · simp only [rd_hK_mS, rd_hFI_mS, rd_hFJ_mS, rd_hFR_mS, rd_hLN_mS, rd_hAJ_mS, rd_hAR_mS, rd_hNX_mS, mE0, mE1, mE2, mE3, mE4, mE5, mE6, mE7, mE8, mR0, mR1, mR2, mR3, mR4, mR5, mR6, mR7, mR8, am_kd, m0, f1231, k371, n371, f1232, k372, n372, f1236, k375, n375, f1237, k376, n376, f1238, k377, n377, f1239, k378, n378, f1240, k379, n379, f1241, k380, n380, f1243, k382, n382, f1244, k383, n383, f1245, k384, n384, if_true, bR_s, e0, e1, e2, e5, o1, o2, o3, hn, nI_cl0, hcc, q1, q2, q3, q4, q5, q6, q7, q8, q9, q0, if_false, kp _ d _ hd, mk1, or_false, mval]
                      by_cases r1 : c < 100
                      · by_cases r2 : c < 20
                        · have r3 : ∀ x, am_in c 20 x = x := am_in_t (hc3 r2)
                          simp only [r1, r2, r3, if_true]
                        · simp only [r1, r2, if_true, if_false]
                      · simp only [r1, if_false]
def mkN (vs cs : Nat → Int32) (σ : Nat → Nat → Int32) : Nat → Nat × (Nat → Nat → Int32)
  | 0 => (0, mop σ 0)
  | n + 1 => mk1 vs (cs n) (mkN vs cs σ n)
def mwv (vs cs : Nat → Int32) (n : Nat) (σ : Nat → Nat → Int32) : Int32 := mte (mkN vs cs σ n).2 0 0 0
theorem c_worked {dp n : Nat} {h : AH} (hm : MSh h) (h0 : hAI h 370 0 = 0) (hn : hAI h 371 0 = nI n) (hn2 : n ≤ 1000) (hok : ∀ i, i < n → (mkN (hAI h 384) (hAI h 372) (fun k => hAI h (375 + k)) i).1 < 7 ∧ mok1 (hAI h 372 i) (mkN (hAI h 384) (hAI h 372) (fun k => hAI h (375 + k)) i).1) :
    ∃ σ, am_C PG (dp + 3) 176 [.ref 348, .int 0] h = some (some (.int (mwv (hAI h 384) (hAI h 372) n (fun k => hAI h (375 + k)))), mS h σ) := by
  have hl : ∀ i, i ≤ n → am_C PG (dp + 3) 176 [.ref 348, .int 0] h = am_R PG (dp + 3) 176 14 [some (.ref 348), some (.int 0), some (.int (nI (mkN (hAI h 384) (hAI h 372) (fun k => hAI h (375 + k)) i).1)), some (.int (nI i)), none, none] [] (mS h (mkN (hAI h 384) (hAI h 372) (fun k => hAI h (375 + k)) i).2) := by
    intro i
    induction i with
    | zero =>
      intro _
      have k0 := c_opens (dp := dp + 1) (d := 0) (σ := fun k => hAI h (375 + k)) hm (by decide)
      rw [mS_self] at k0
      have k0 : am_C PG (dp + 2) 173 [.ref 348, .int 0] h = some (none, mS h (mop (fun k => hAI h (375 + k)) 0)) := k0
      have m0 := hm.1
      have f1230 : hFR _ 1230 348 = some 370 := (hm.2 21 (by decide)).1
      have k370 : hK _ 370 = 50 := (hm.2 21 (by decide)).2.1
      have n370 : hLN _ 370 = 2 := (hm.2 21 (by decide)).2.2
      have e0 : ∀ x, am_in (0 : Int32) 2 x = x := am_inN (i := 0) (by decide) (by decide)
      have o1 : ∀ τ, hAI (mS h τ) 370 = hAI h 370 := fun τ => mS_out h τ (by decide)
      rw [q_X12_worked]
      simp only [rd_hK_mS, rd_hFI_mS, rd_hFJ_mS, rd_hFR_mS, rd_hLN_mS, rd_hAJ_mS, rd_hAR_mS, rd_hNX_mS, mE0, mE1, mE2, mE3, mE4, mE5, mE6, mE7, mE8, mR0, mR1, mR2, mR3, mR4, mR5, mR6, mR7, mR8, am_kd, m0, f1230, k370, n370, if_true, bR_s, k0, bV_s, e0, o1, nI_cl0, h0]
      rfl
    | succ i ih =>
      intro hi
      rw [ih (by omega)]
      exact wk_step hm hn hn2 (by omega) (hok i (by omega)).1 (hok i (by omega)).2
  refine ⟨mte (mkN (hAI h 384) (hAI h 372) (fun k => hAI h (375 + k)) n).2 0, ?_⟩
  rw [hl n (Nat.le_refl _), q_X12_worked_14]
  have kt := fun τ => c_tests (dp := dp) (d := 0) (σ := τ) hm (by decide)
  have kt : ∀ τ, am_C PG (dp + 2) 175 [.ref 348, .int 0] (mS h τ) = some (none, mS h (mte τ 0)) := kt
  have m0 := hm.1
  have f1231 : hFR _ 1231 348 = some 371 := (hm.2 22 (by decide)).1
  have k371 : hK _ 371 = 50 := (hm.2 22 (by decide)).2.1
  have n371 : hLN _ 371 = 2 := (hm.2 22 (by decide)).2.2
  have f1236 : hFR _ 1236 348 = some 375 := (hm.2 26 (by decide)).1
  have k375 : hK _ 375 = 50 := (hm.2 26 (by decide)).2.1
  have n375 : hLN _ 375 = 7 := (hm.2 26 (by decide)).2.2
  have e0 : ∀ x, am_in (0 : Int32) 2 x = x := am_inN (i := 0) (by decide) (by decide)
  have e7 : ∀ x, am_in (0 : Int32) 7 x = x := am_inN (i := 0) (by decide) (by decide)
  have e5 : (nI n < nI n) = False := eq_false (nI_nlt (Nat.le_refl _) (by omega))
  have o1 : ∀ τ, hAI (mS h τ) 371 = hAI h 371 := fun τ => mS_out h τ (by decide)
  simp only [rd_hK_mS, rd_hFI_mS, rd_hFJ_mS, rd_hFR_mS, rd_hLN_mS, rd_hAJ_mS, rd_hAR_mS, rd_hNX_mS, mE0, mE1, mE2, mE3, mE4, mE5, mE6, mE7, mE8, mR0, mR1, mR2, mR3, mR4, mR5, mR6, mR7, mR8, am_kd, m0, f1231, k371, n371, f1236, k375, n375, if_true, if_false, bR_s, e0, e7, e5, o1, hn, nI_cl0, kt, bV_s]
  rfl
