/-! States copied; a clock's need; what comes when hours pass (Ahead). -/
theorem pC_1 (h : AH) (a : Nat) (R : SV) {s : Nat} (n : Nat) (e : s ≤ a ∨ a + 8 < s) : sCP (putS h a R) s 0 (a + 1) 0 n = putS h a (R.1, cp n (hAI h s) R.2.1, R.2.2.1, R.2.2.2.1, R.2.2.2.2.1, R.2.2.2.2.2.1, R.2.2.2.2.2.2.1, R.2.2.2.2.2.2.2.1, R.2.2.2.2.2.2.2.2) := by
  unfold sCP
  rw [pS_far h R e, pS_1, am_cpy0]
  exact putS_sAIk h a R _ (by decide) (by decide) _ rfl rfl (rowS_ne (by simp))
theorem pC_2 (h : AH) (a : Nat) (R : SV) {s : Nat} (n : Nat) (e : s ≤ a ∨ a + 8 < s) : sCP (putS h a R) s 0 (a + 2) 0 n = putS h a (R.1, R.2.1, cp n (hAI h s) R.2.2.1, R.2.2.2.1, R.2.2.2.2.1, R.2.2.2.2.2.1, R.2.2.2.2.2.2.1, R.2.2.2.2.2.2.2.1, R.2.2.2.2.2.2.2.2) := by
  unfold sCP
  rw [pS_far h R e, pS_2, am_cpy0]
  exact putS_sAIk h a R _ (by decide) (by decide) _ rfl rfl (rowS_ne (by simp))
theorem pC_3 (h : AH) (a : Nat) (R : SV) {s : Nat} (n : Nat) (e : s ≤ a ∨ a + 8 < s) : sCP (putS h a R) s 0 (a + 3) 0 n = putS h a (R.1, R.2.1, R.2.2.1, cp n (hAI h s) R.2.2.2.1, R.2.2.2.2.1, R.2.2.2.2.2.1, R.2.2.2.2.2.2.1, R.2.2.2.2.2.2.2.1, R.2.2.2.2.2.2.2.2) := by
  unfold sCP
  rw [pS_far h R e, pS_3, am_cpy0]
  exact putS_sAIk h a R _ (by decide) (by decide) _ rfl rfl (rowS_ne (by simp))
theorem pC_4 (h : AH) (a : Nat) (R : SV) {s : Nat} (n : Nat) (e : s ≤ a ∨ a + 8 < s) : sCP (putS h a R) s 0 (a + 4) 0 n = putS h a (R.1, R.2.1, R.2.2.1, R.2.2.2.1, cp n (hAI h s) R.2.2.2.2.1, R.2.2.2.2.2.1, R.2.2.2.2.2.2.1, R.2.2.2.2.2.2.2.1, R.2.2.2.2.2.2.2.2) := by
  unfold sCP
  rw [pS_far h R e, pS_4, am_cpy0]
  exact putS_sAIk h a R _ (by decide) (by decide) _ rfl rfl (rowS_ne (by simp))
theorem pC_5 (h : AH) (a : Nat) (R : SV) {s : Nat} (n : Nat) (e : s ≤ a ∨ a + 8 < s) : sCP (putS h a R) s 0 (a + 5) 0 n = putS h a (R.1, R.2.1, R.2.2.1, R.2.2.2.1, R.2.2.2.2.1, cp n (hAI h s) R.2.2.2.2.2.1, R.2.2.2.2.2.2.1, R.2.2.2.2.2.2.2.1, R.2.2.2.2.2.2.2.2) := by
  unfold sCP
  rw [pS_far h R e, pS_5, am_cpy0]
  exact putS_sAIk h a R _ (by decide) (by decide) _ rfl rfl (rowS_ne (by simp))
theorem pC_6 (h : AH) (a : Nat) (R : SV) {s : Nat} (n : Nat) (e : s ≤ a ∨ a + 8 < s) : sCP (putS h a R) s 0 (a + 6) 0 n = putS h a (R.1, R.2.1, R.2.2.1, R.2.2.2.1, R.2.2.2.2.1, R.2.2.2.2.2.1, cp n (hAI h s) R.2.2.2.2.2.2.1, R.2.2.2.2.2.2.2.1, R.2.2.2.2.2.2.2.2) := by
  unfold sCP
  rw [pS_far h R e, pS_6, am_cpy0]
  exact putS_sAIk h a R _ (by decide) (by decide) _ rfl rfl (rowS_ne (by simp))
theorem pC_7 (h : AH) (a : Nat) (R : SV) {s : Nat} (n : Nat) (e : s ≤ a ∨ a + 8 < s) : sCP (putS h a R) s 0 (a + 7) 0 n = putS h a (R.1, R.2.1, R.2.2.1, R.2.2.2.1, R.2.2.2.2.1, R.2.2.2.2.2.1, R.2.2.2.2.2.2.1, cp n (hAI h s) R.2.2.2.2.2.2.2.1, R.2.2.2.2.2.2.2.2) := by
  unfold sCP
  rw [pS_far h R e, pS_7, am_cpy0]
  exact putS_sAIk h a R _ (by decide) (by decide) _ rfl rfl (rowS_ne (by simp))
theorem pC_8 (h : AH) (a : Nat) (R : SV) {s : Nat} (n : Nat) (e : s ≤ a ∨ a + 8 < s) : sCP (putS h a R) s 0 (a + 8) 0 n = putS h a (R.1, R.2.1, R.2.2.1, R.2.2.2.1, R.2.2.2.2.1, R.2.2.2.2.2.1, R.2.2.2.2.2.2.1, R.2.2.2.2.2.2.2.1, cp n (hAI h s) R.2.2.2.2.2.2.2.2) := by
  unfold sCP
  rw [pS_far h R e, pS_8, am_cpy0]
  exact putS_sAIk h a R _ (by decide) (by decide) _ rfl rfl (rowS_ne (by simp))
theorem am_cbT {h : AH} {s t : Nat} {n : Nat} (hn : n < 2 ^ 31) (h1 : n ≤ hLN h s) (h2 : n ≤ hLN h t) (x : Option Res) : am_cb h s 0 t 0 (nI n) x = x := by
  unfold am_cb
  rw [if_neg]
  have e : Int32.toNatClampNeg (nI n) = n := nI_clamp hn
  rw [nI_cl0, e]
  intro z
  rcases z with z | z | z | z | z
  · exact nI_pos hn z
  · exact absurd z (by decide)
  · exact absurd z (by decide)
  · omega
  · omega
theorem c_copy {d t o : Nat} {g : AH} {R : SV} (ht : StSh g t) (ho : StSh g o) (hd : t + 8 < o ∨ o + 8 < t) : am_C PG (d + 1) 107 [.ref t, .ref o] (putS g t R) = some (none, putS g t (cpS (getS g o) R)) := by
  have hh := ht
  obtain ⟨o0, of1, of2, of3, of4, of5, of6, of7, of8, ok1, ok2, ok3, ok4, ok5, ok6, ok7, ok8, on1, on2, on3, on4, on5, on6, on7, on8⟩ := ho
  obtain ⟨s0, sf1, sf2, sf3, sf4, sf5, sf6, sf7, sf8, sk1, sk2, sk3, sk4, sk5, sk6, sk7, sk8, sn1, sn2, sn3, sn4, sn5, sn6, sn7, sn8⟩ := ht
  have w0 : ∀ R, hFI (putS g t R) 700 o = hFI g 700 o := fun R => pS_fi g R (Or.inr (by omega))
  have b6 : ∀ (h : AH) (s t : Nat) (x : Option Res), 6 ≤ hLN h s → 6 ≤ hLN h t → am_cb h s 0 t 0 6 x = x := fun h s t x h1 h2 => am_cbT (n := 6) (by decide) h1 h2 x
  have b4 : ∀ (h : AH) (s t : Nat) (x : Option Res), 4 ≤ hLN h s → 4 ≤ hLN h t → am_cb h s 0 t 0 4 x = x := fun h s t x h1 h2 => am_cbT (n := 4) (by decide) h1 h2 x
  have b5 : ∀ (h : AH) (s t : Nat) (x : Option Res), 5 ≤ hLN h s → 5 ≤ hLN h t → am_cb h s 0 t 0 5 x = x := fun h s t x h1 h2 => am_cbT (n := 5) (by decide) h1 h2 x
  have i6 : Int32.toNatClampNeg 6 = 6 := by decide
  have i4 : Int32.toNatClampNeg 4 = 4 := by decide
  have i5 : Int32.toNatClampNeg 5 = 5 := by decide
  have d1 : o + 1 ≤ t ∨ t + 8 < o + 1 := by omega
  have d2 : o + 2 ≤ t ∨ t + 8 < o + 2 := by omega
  have d3 : o + 3 ≤ t ∨ t + 8 < o + 3 := by omega
  have d4 : o + 4 ≤ t ∨ t + 8 < o + 4 := by omega
  have d5 : o + 5 ≤ t ∨ t + 8 < o + 5 := by omega
  have d6 : o + 6 ≤ t ∨ t + 8 < o + 6 := by omega
  have d7 : o + 7 ≤ t ∨ t + 8 < o + 7 := by omega
  have d8 : o + 8 ≤ t ∨ t + 8 < o + 8 := by omega
  rw [q_X7_copyFrom]
  simp only [rd_hK_putS, rd_hFR_putS, rd_hLN_putS, rd_hFJ_putS, rd_hAJ_putS, rd_hAR_putS, rd_hNX_putS, pS_1, pS_2, pS_3, pS_4, pS_5, pS_6, pS_7, pS_8, pS_hr, pE_1, pE_2, pE_3, pE_4, pE_5, pE_6, pE_7, pE_8, putS_sFI, am_kd, s0, sf1, sf2, sf3, sf4, sf5, sf6, sf7, sf8, sk1, sk2, sk3, sk4, sk5, sk6, sk7, sk8, sn1, sn2, sn3, sn4, sn5, sn6, sn7, sn8, o0, of1, of2, of3, of4, of5, of6, of7, of8, ok1, ok2, ok3, ok4, ok5, ok6, ok7, ok8, w0, if_true, bR_s, am_let_e, nI_cl0, i6, i4, i5, pC_1 _ _ _ _ d1, pC_2 _ _ _ _ d2, pC_3 _ _ _ _ d3, pC_4 _ _ _ _ d4, pC_5 _ _ _ _ d5, pC_6 _ _ _ _ d6, pC_7 _ _ _ _ d7, pC_8 _ _ _ _ d8]
  rw [b6 _ _ _ _ (by rw [rd_hLN_putS, on1]; decide) (by rw [rd_hLN_putS, sn1]; decide), b6 _ _ _ _ (by rw [rd_hLN_putS, on2]; decide) (by rw [rd_hLN_putS, sn2]; decide), b6 _ _ _ _ (by rw [rd_hLN_putS, on3]; decide) (by rw [rd_hLN_putS, sn3]; decide), b4 _ _ _ _ (by rw [rd_hLN_putS, on4]; decide) (by rw [rd_hLN_putS, sn4]; decide), b4 _ _ _ _ (by rw [rd_hLN_putS, on5]; decide) (by rw [rd_hLN_putS, sn5]; decide), b4 _ _ _ _ (by rw [rd_hLN_putS, on6]; decide) (by rw [rd_hLN_putS, sn6]; decide), b5 _ _ _ _ (by rw [rd_hLN_putS, on7]; decide) (by rw [rd_hLN_putS, sn7]; decide), b6 _ _ _ _ (by rw [rd_hLN_putS, on8]; decide) (by rw [rd_hLN_putS, sn8]; decide)]
  rfl
/-- State.copyClock: hour and one clock -/
def xcpc (c : Nat) (R T : SV) : SV := setc (R.1, T.2) c (getc R c)
theorem c_copyc {d t o c : Nat} {g : AH} {R : SV} (ht : StSh g t) (ho : StSh g o) (hd : t + 8 < o ∨ o + 8 < t) (hc : c < 6) : am_C PG (d + 1) 108 [.ref t, .ref o, .int (nI c)] (putS g t R) = some (none, putS g t (xcpc c (getS g o) R)) := by
  obtain ⟨o0, of1, of2, of3, of4, of5, of6, of7, of8, ok1, ok2, ok3, ok4, ok5, ok6, ok7, ok8, on1, on2, on3, on4, on5, on6, on7, on8⟩ := ho
  obtain ⟨s0, sf1, sf2, sf3, sf4, sf5, sf6, sf7, sf8, sk1, sk2, sk3, sk4, sk5, sk6, sk7, sk8, sn1, sn2, sn3, sn4, sn5, sn6, sn7, sn8⟩ := ht
  have w0 : ∀ R, hFI (putS g t R) 700 o = hFI g 700 o := fun R => pS_fi g R (Or.inr (by omega))
  have w1 : ∀ R, hAI (putS g t R) (o + 1) = hAI g (o + 1) := fun R => pS_far g R (by omega)
  have w2 : ∀ R, hAI (putS g t R) (o + 2) = hAI g (o + 2) := fun R => pS_far g R (by omega)
  have w3 : ∀ R, hAI (putS g t R) (o + 3) = hAI g (o + 3) := fun R => pS_far g R (by omega)
  have e3 : ∀ x, am_in (nI c) 6 x = x := am_inN hc (by decide)
  have e4 : Int32.toNatClampNeg (nI c) = c := nI_clamp (by omega)
  rw [q_X7_copyClock]
  simp only [rd_hK_putS, rd_hFR_putS, rd_hLN_putS, rd_hFJ_putS, rd_hAJ_putS, rd_hAR_putS, rd_hNX_putS, pS_1, pS_2, pS_3, pS_4, pS_5, pS_6, pS_7, pS_8, pS_hr, pE_1, pE_2, pE_3, pE_4, pE_5, pE_6, pE_7, pE_8, putS_sFI, am_kd, s0, sf1, sf2, sf3, sf4, sf5, sf6, sf7, sf8, sk1, sk2, sk3, sk4, sk5, sk6, sk7, sk8, sn1, sn2, sn3, sn4, sn5, sn6, sn7, sn8, o0, of1, of2, of3, ok1, ok2, ok3, on1, on2, on3, w0, w1, w2, w3, if_true, bR_s, e3, e4, am_let_e]
  rfl
/-- what a clock needs for so many hours: sum, what it shows -/
def xneed (W : Int32 → Int32 → Int32 → Int32 → Int32) (kd sp he : Nat → Int32) (c hr : Nat) (s : Int32) : Nat → Int32 × Int32
  | 0 => (0, s)
  | n + 1 => ((xneed W kd sp he c hr s n).1 + xth W kd sp he c (hr + n) (xneed W kd sp he c hr s n).2, xnext (kd c) (nI (hr + n)) (xneed W kd sp he c hr s n).2)
theorem c_need0 {d p np nc ne nw len c hr n : Nat} {W : Int32 → Int32 → Int32 → Int32 → Int32} {h : AH} (hp : PoC h p np nc ne nw) (hl : PoL h p len W) (hc : c < 6) (hh : hr + n < 2 ^ 31) (s : Int32) : ∀ i, i ≤ n →
    ∃ f, am_C PG (d + 3) 58 [.ref p, .int (nI c), .int (nI hr), .int s, .int (nI n)] h = am_R PG (d + 3) 58 9 [some (.ref p), some (.int (nI c)), some (.int (nI hr)), none, some (.int (nI n)), some (.int (xneed W (hAI h (p + 4)) (hAI h (p + 7)) (hAI h (p + 13)) c hr s i).1), some (.int (xneed W (hAI h (p + 4)) (hAI h (p + 7)) (hAI h (p + 13)) c hr s i).2), some (.int (nI i))] [] (sAI h (p + 16) f)
  | 0, _ => ⟨hAI h (p + 16), by rw [q_X5_need, sAI_self]; rfl⟩
  | i + 1, hi => by
    obtain ⟨f, k1⟩ := c_need0 (d := d) hp hl hc hh s i (by omega)
    generalize hN : xneed W (hAI h (p + 4)) (hAI h (p + 7)) (hAI h (p + 13)) c hr s i = N at k1
    obtain ⟨f2, k2⟩ := c_thirst (d := d) (hp.scr (b := p + 16) (f := f)) (hl.scr (b := p + 16) (f := f) (by omega)) hc (show hr + i < 2 ^ 31 by omega) N.2
    rw [sAI_sAI, sAI_ne _ _ (by omega), sAI_ne _ _ (by omega), sAI_ne _ _ (by omega)] at k2
    have k3 := c_next (d := d + 1) (hp.scr (b := p + 16) (f := f2)) hc (nI (hr + i)) N.2
    rw [sAI_ne _ _ (by omega)] at k3
    refine ⟨f2, ?_⟩
    rw [k1, q_X5_need_9]
    obtain ⟨⟨⟨p0, pf1, pf2, pf3, pf4, pf5, pf6, pf7, pf8, pf9, pf10, pf11, pf12, pf13, pf14, pf17, pk1, pk2, pk3, pk4, pk5, pk6, pk7, pk8, pk9, pk10, pk11, pk12, pk13, pn1, pn2, pn3, pn4, pn5, pn6, pn7, pn8, pn9, pn10, pn11, pn12, pn13⟩, -, -⟩, h1, h2, h3, h4, h5, h6, h7, h8⟩ := hp
    have e5 : (nI i < nI n) = True := eq_true (nI_lt (by omega) (by omega))
    simp only [am_kd, p0, pf1, pf2, pf3, pf4, pf5, pf6, pf7, pf8, pf9, pf10, pf11, pf12, pf13, pf14, pf17, pk1, pk2, pk3, pk4, pk5, pk6, pk7, pk8, pk9, pk10, pk11, pk12, pk13, pn1, pn2, pn3, pn4, pn5, pn6, pn7, pn8, pn9, pn10, pn11, pn12, pn13, rd_hK_sAI, if_true, e5, nI_add, k2, k3, bI_s, nI_1, xneed, hN]
theorem c_need {d p np nc ne nw len c hr n : Nat} {W : Int32 → Int32 → Int32 → Int32 → Int32} {h : AH} (hp : PoC h p np nc ne nw) (hl : PoL h p len W) (hc : c < 6) (hh : hr + n < 2 ^ 31) (s : Int32) :
    ∃ f, am_C PG (d + 3) 58 [.ref p, .int (nI c), .int (nI hr), .int s, .int (nI n)] h = some (some (.int (xneed W (hAI h (p + 4)) (hAI h (p + 7)) (hAI h (p + 13)) c hr s n).1), sAI h (p + 16) f) := by
  obtain ⟨f, k1⟩ := c_need0 (d := d) hp hl hc hh s n (Nat.le_refl _)
  refine ⟨f, ?_⟩
  rw [k1, q_X5_need_9, if_neg (nI_nlt (Nat.le_refl _) (by omega))]
