/-! An hour; hands; counts. -/
theorem cp_0 (F f : Nat → Int32) : cp 0 F f = f := by
  funext k
  unfold cp
  rw [if_neg (by omega)]
theorem cp_at (n : Nat) (F f : Nat → Int32) : cp n F f n = f n := by
  unfold cp
  rw [if_neg (by omega)]
theorem cp_lt {n k : Nat} (F f : Nat → Int32) (h : k < n) : cp n F f k = F k := by
  unfold cp
  rw [if_pos h]
theorem cp_ge {n k : Nat} (F f : Nat → Int32) (h : n ≤ k) : cp n F f k = f k := by
  unfold cp
  rw [if_neg (by omega)]
theorem cp_succ (n : Nat) (F f : Nat → Int32) : upd (cp n F f) n (F n) = cp (n + 1) F f := by
  funext k
  by_cases e : k = n
  · subst e; rw [pk_us, cp_lt _ _ (by omega)]
  · rw [pk_un e]
    unfold cp
    by_cases h : k < n
    · rw [if_pos h, if_pos (by omega)]
    · rw [if_neg h, if_neg (by omega)]
theorem cp_succ' (n : Nat) (F f : Nat → Int32) {v : Int32} (hv : v = F n) : upd (cp n F f) n v = cp (n + 1) F f := by rw [hv]; exact cp_succ n F f
theorem cp_same (n : Nat) (F f : Nat → Int32) (hv : F n = f n) : cp (n + 1) F f = cp n F f := by
  rw [← cp_succ, hv, ← cp_at n F f, upd_self]
def sumN (f : Nat → Int32) : Nat → Int32
  | 0 => 0
  | n + 1 => sumN f n + f n
def bitN (P : Nat → Bool) : Nat → Int32
  | 0 => 0
  | n + 1 => if P n = true then bitN P n ||| (1 : Int32) <<< (nI n &&& 31) else bitN P n
theorem add0 (a : Int32) : a + 0 = a := by
  apply Int32.toBitVec_inj.mp
  simp
/-- the clocks' hour -/
def xcl (X : Nat → Int32 × Int32 × Int32) (n : Nat) (R : SV) : SV := (R.1, cp n (fun j => (X j).1) R.2.1, cp n (fun j => (X j).2.1) R.2.2.1, cp n (fun j => (X j).2.2) R.2.2.2.1, R.2.2.2.2)
theorem xcl_0 (X : Nat → Int32 × Int32 × Int32) (R : SV) : xcl X 0 R = R := by
  unfold xcl
  rw [cp_0, cp_0, cp_0]
theorem xcl_get (X : Nat → Int32 × Int32 × Int32) (n : Nat) (R : SV) : getc (xcl X n R) n = getc R n := by
  unfold xcl getc
  dsimp only
  rw [cp_at, cp_at, cp_at]
theorem xcl_succ (X : Nat → Int32 × Int32 × Int32) (n : Nat) (R : SV) : setc (xcl X n R) n (X n) = xcl X (n + 1) R := by
  unfold xcl setc
  dsimp only
  rw [cp_succ' n (fun j => (X j).1) _ rfl, cp_succ' n (fun j => (X j).2.1) _ rfl, cp_succ' n (fun j => (X j).2.2) _ rfl]
theorem c_clks {d p np nc ne nw len hr a : Nat} {W : Int32 → Int32 → Int32 → Int32 → Int32} {g : AH} {R : SV} (hp : PoC g p np nc ne nw) (hl : PoL g p len W) (hs : StSh g a) (hd : Dj p a) (hh : hr < 2 ^ 31) (hR : R.1 = nI hr) : ∀ i, i ≤ nc →
    ∃ f, am_C PG (d + 4) 60 [.ref p, .ref a] (putS g a R) = am_R PG (d + 4) 60 2 [some (.ref p), some (.ref a), some (.int (nI i))] [] (putS (sAI g (p + 16) f) a (xcl (fun j => xclk W (hAI g (p + 4)) (hAI g (p + 6)) (hAI g (p + 7)) (hAI g (p + 13)) hr j (getc R j)) i R))
  | 0, _ => ⟨hAI g (p + 16), by rw [q_X5_passHour, xcl_0, sAI_self, nI_0]⟩
  | i + 1, hi => by
    obtain ⟨f, k1⟩ := c_clks (d := d) hp hl hs hd hh hR i (by omega)
    have hd' := hd
    unfold Dj at hd'
    have hb : i < 6 := by have := hp.2.2.2.2.2.2.1; omega
    obtain ⟨f2, k2⟩ := c_pclk (d := d) (R := xcl (fun j => xclk W (hAI g (p + 4)) (hAI g (p + 6)) (hAI g (p + 7)) (hAI g (p + 13)) hr j (getc R j)) i R) (hp.scr (b := p + 16) (f := f)) (hl.scr (b := p + 16) (f := f) (by omega)) (hs.to (rd_hK_sAI g (p + 16) f) (rd_hFR_sAI g (p + 16) f) (rd_hLN_sAI g (p + 16) f)) hd hb hh hR
    rw [sAI_ne _ _ (by omega), sAI_ne _ _ (by omega), sAI_ne _ _ (by omega), sAI_ne _ _ (by omega), sAI_sAI, xcl_get, xcl_succ] at k2
    refine ⟨f2, ?_⟩
    rw [k1, q_X5_passHour_2]
    have hq := hp.scr (b := p + 16) (f := f)
    obtain ⟨⟨⟨p0, pf1, pf2, pf3, pf4, pf5, pf6, pf7, pf8, pf9, pf10, pf11, pf12, pf13, pf14, pf17, pk1, pk2, pk3, pk4, pk5, pk6, pk7, pk8, pk9, pk10, pk11, pk12, pk13, pn1, pn2, pn3, pn4, pn5, pn6, pn7, pn8, pn9, pn10, pn11, pn12, pn13⟩, -, -⟩, h1, h2, h3, h4, h5, h6, h7, h8⟩ := hp
    have w3 : ∀ g R, hFI (putS g a R) 503 p = hFI g 503 p := fun g R => pS_fi g R (Or.inl (by decide))
    have e5 : (nI i < nI nc) = True := eq_true (nI_lt (by omega) (by omega))
    simp only [rd_hK_putS, rd_hFR_putS, rd_hLN_putS, rd_hFJ_putS, rd_hAJ_putS, rd_hAR_putS, rd_hNX_putS, pS_1, pS_2, pS_3, pS_4, pS_5, pS_6, pS_7, pS_8, pS_hr, pE_1, pE_2, pE_3, pE_4, pE_5, pE_6, pE_7, pE_8, putS_sFI, am_kd, p0, pf1, pf2, pf3, pf4, pf5, pf6, pf7, pf8, pf9, pf10, pf11, pf12, pf13, pf14, pf17, pk1, pk2, pk3, pk4, pk5, pk6, pk7, pk8, pk9, pk10, pk11, pk12, pk13, pn1, pn2, pn3, pn4, pn5, pn6, pn7, pn8, pn9, pn10, pn11, pn12, pn13, rd_hK_sAI, if_true, w3, rd_hFI_sAI, h2, e5, k2, bV_s, nI_1]
theorem c_drinkAll {d p np nc ne nw a : Nat} {g : AH} {R : SV} (hp : PoC g p np nc ne nw) (hs : StSh g a) (hd : Dj p a) : ∀ i, i ≤ ne →
    am_C PG (d + 1) 64 [.ref p, .ref a] (putS g a R) = am_R PG (d + 1) 64 4 [some (.ref p), some (.ref a), some (.int (bitN (fun j => decide (R.2.2.2.2.2.1 j < hAI g (p + 8) j)) i)), some (.int (nI i))] [] (putS g a (R.1, R.2.1, R.2.2.1, R.2.2.2.1, R.2.2.2.2.1, cp i (fun j => if R.2.2.2.2.2.1 j < hAI g (p + 8) j then R.2.2.2.2.2.1 j else R.2.2.2.2.2.1 j - hAI g (p + 8) j) R.2.2.2.2.2.1, cp i (fun j => if R.2.2.2.2.2.1 j < hAI g (p + 8) j then R.2.2.2.2.2.2.1 j + 1 else R.2.2.2.2.2.2.1 j) R.2.2.2.2.2.2.1, R.2.2.2.2.2.2.2))
  | 0, _ => by rw [q_X5_drinkAll, cp_0, cp_0]; rfl
  | i + 1, hi => by
    rw [c_drinkAll hp hs hd i (by omega), q_X5_drinkAll_4]
    unfold Dj at hd
    obtain ⟨⟨⟨p0, pf1, pf2, pf3, pf4, pf5, pf6, pf7, pf8, pf9, pf10, pf11, pf12, pf13, pf14, pf17, pk1, pk2, pk3, pk4, pk5, pk6, pk7, pk8, pk9, pk10, pk11, pk12, pk13, pn1, pn2, pn3, pn4, pn5, pn6, pn7, pn8, pn9, pn10, pn11, pn12, pn13⟩, -, -⟩, h1, h2, h3, h4, h5, h6, h7, h8⟩ := hp
    obtain ⟨s0, sf1, sf2, sf3, sf4, sf5, sf6, sf7, sf8, sk1, sk2, sk3, sk4, sk5, sk6, sk7, sk8, sn1, sn2, sn3, sn4, sn5, sn6, sn7, sn8⟩ := hs
    have w3 : ∀ g R, hFI (putS g a R) 504 p = hFI g 504 p := fun g R => pS_fi g R (Or.inl (by decide))
    have w8 : ∀ R, hAI (putS g a R) (p + 8) = hAI g (p + 8) := fun R => pS_far g R (by omega)
    have e5 : (nI i < nI ne) = True := eq_true (nI_lt (by omega) (by omega))
    have e3 : ∀ x, am_in (nI i) 4 x = x := am_inN (by omega) (by decide)
    have e4 : Int32.toNatClampNeg (nI i) = i := nI_clamp (by omega)
    simp only [rd_hK_putS, rd_hFR_putS, rd_hLN_putS, rd_hFJ_putS, rd_hAJ_putS, rd_hAR_putS, rd_hNX_putS, pS_1, pS_2, pS_3, pS_4, pS_5, pS_6, pS_7, pS_8, pS_hr, pE_1, pE_2, pE_3, pE_4, pE_5, pE_6, pE_7, pE_8, putS_sFI, am_kd, p0, pf1, pf2, pf3, pf4, pf5, pf6, pf7, pf8, pf9, pf10, pf11, pf12, pf13, pf14, pf17, pk1, pk2, pk3, pk4, pk5, pk6, pk7, pk8, pk9, pk10, pk11, pk12, pk13, pn1, pn2, pn3, pn4, pn5, pn6, pn7, pn8, pn9, pn10, pn11, pn12, pn13, s0, sf1, sf2, sf3, sf4, sf5, sf6, sf7, sf8, sk1, sk2, sk3, sk4, sk5, sk6, sk7, sk8, sn1, sn2, sn3, sn4, sn5, sn6, sn7, sn8, if_true, w3, w8, h3, e5, e3, e4, bR_s, am_let_e, nI_1, cp_at]
    by_cases c1 : R.2.2.2.2.2.1 i < hAI g (p + 8) i
    · simp only [c1, if_true]
      rw [cp_succ' i (fun j => if R.2.2.2.2.2.1 j < hAI g (p + 8) j then R.2.2.2.2.2.2.1 j + 1 else R.2.2.2.2.2.2.1 j) _ (by rw [if_pos c1]), cp_same i (fun j => if R.2.2.2.2.2.1 j < hAI g (p + 8) j then R.2.2.2.2.2.1 j else R.2.2.2.2.2.1 j - hAI g (p + 8) j) _ (by rw [if_pos c1])]
      simp only [bitN, c1, decide_true, if_true]
    · simp only [c1, if_false]
      rw [cp_succ' i (fun j => if R.2.2.2.2.2.1 j < hAI g (p + 8) j then R.2.2.2.2.2.1 j else R.2.2.2.2.2.1 j - hAI g (p + 8) j) _ (by rw [if_neg c1]), cp_same i (fun j => if R.2.2.2.2.2.1 j < hAI g (p + 8) j then R.2.2.2.2.2.2.1 j + 1 else R.2.2.2.2.2.2.1 j) _ (by rw [if_neg c1])]
      simp only [bitN, c1, decide_false, if_false, Bool.false_eq_true]
def xdr (dr : Nat → Int32) (ne : Nat) (R : SV) : SV := (R.1, R.2.1, R.2.2.1, R.2.2.2.1, R.2.2.2.2.1, cp ne (fun j => if R.2.2.2.2.2.1 j < dr j then R.2.2.2.2.2.1 j else R.2.2.2.2.2.1 j - dr j) R.2.2.2.2.2.1, cp ne (fun j => if R.2.2.2.2.2.1 j < dr j then R.2.2.2.2.2.2.1 j + 1 else R.2.2.2.2.2.2.1 j) R.2.2.2.2.2.2.1, R.2.2.2.2.2.2.2)
def xbits (dr : Nat → Int32) (ne : Nat) (R : SV) : Int32 := bitN (fun j => decide (R.2.2.2.2.2.1 j < dr j)) ne
theorem c_drink {d p np nc ne nw a : Nat} {g : AH} {R : SV} (hp : PoC g p np nc ne nw) (hs : StSh g a) (hd : Dj p a) :
    am_C PG (d + 1) 64 [.ref p, .ref a] (putS g a R) = some (some (.int (xbits (hAI g (p + 8)) ne R)), putS g a (xdr (hAI g (p + 8)) ne R)) := by
  rw [c_drinkAll hp hs hd ne (Nat.le_refl _), q_X5_drinkAll_4]
  obtain ⟨⟨⟨p0, pf1, pf2, pf3, pf4, pf5, pf6, pf7, pf8, pf9, pf10, pf11, pf12, pf13, pf14, pf17, pk1, pk2, pk3, pk4, pk5, pk6, pk7, pk8, pk9, pk10, pk11, pk12, pk13, pn1, pn2, pn3, pn4, pn5, pn6, pn7, pn8, pn9, pn10, pn11, pn12, pn13⟩, -, -⟩, h1, h2, h3, h4, h5, h6, h7, h8⟩ := hp
  have w3 : ∀ g R, hFI (putS g a R) 504 p = hFI g 504 p := fun g R => pS_fi g R (Or.inl (by decide))
  have e5 : (nI ne < nI ne) = False := eq_false (nI_nlt (Nat.le_refl _) (by omega))
  simp only [rd_hK_putS, rd_hFR_putS, rd_hLN_putS, rd_hFJ_putS, rd_hAJ_putS, rd_hAR_putS, rd_hNX_putS, pS_1, pS_2, pS_3, pS_4, pS_5, pS_6, pS_7, pS_8, pS_hr, pE_1, pE_2, pE_3, pE_4, pE_5, pE_6, pE_7, pE_8, putS_sFI, am_kd, p0, pf1, pf2, pf3, pf4, pf5, pf6, pf7, pf8, pf9, pf10, pf11, pf12, pf13, pf14, pf17, pk1, pk2, pk3, pk4, pk5, pk6, pk7, pk8, pk9, pk10, pk11, pk12, pk13, pn1, pn2, pn3, pn4, pn5, pn6, pn7, pn8, pn9, pn10, pn11, pn12, pn13, if_true, if_false, w3, h3, e5]
  rfl
def xst1 (do_ ti du : Nat → Int32) (bits hr : Int32) (sh : Nat → Int32) (w : Nat) (o : Int32) : Int32 :=
  if o = 0 ∧ sh (Int32.toNatClampNeg (ti w)) = du w then (if (bits >>> (do_ w &&& 31)) &&& 1 = 1 then 3 else if hr = du w then 1 else 2) else o
def xst (do_ ti du : Nat → Int32) (bits : Int32) (n : Nat) (R : SV) : SV := (R.1, R.2.1, R.2.2.1, R.2.2.2.1, R.2.2.2.2.1, R.2.2.2.2.2.1, R.2.2.2.2.2.2.1, R.2.2.2.2.2.2.2.1, cp n (fun w => xst1 do_ ti du bits R.1 R.2.2.1 w (R.2.2.2.2.2.2.2.2 w)) R.2.2.2.2.2.2.2.2)
/-- works go by clocks that are there -/
def PoT (g : AH) (p nw : Nat) : Prop := ∀ w, w < nw → vp_in (hAI g (p + 10) w) 6
theorem c_settle0 {d p np nc ne nw a : Nat} {g : AH} {R : SV} (hp : PoC g p np nc ne nw) (ht : PoT g p nw) (hs : StSh g a) (hd : Dj p a) (bits : Int32) : ∀ i, i ≤ nw →
    am_C PG (d + 1) 65 [.ref p, .ref a, .int bits] (putS g a R) = am_R PG (d + 1) 65 2 [some (.ref p), some (.ref a), some (.int bits), some (.int (nI i)), none] [] (putS g a (xst (hAI g (p + 9)) (hAI g (p + 10)) (hAI g (p + 11)) bits i R))
  | 0, _ => by rw [q_X5_settleWorks]; unfold xst; rw [cp_0]; rfl
  | i + 1, hi => by
    rw [c_settle0 hp ht hs hd bits i (by omega), q_X5_settleWorks_2]
    have ht := ht i (by omega)
    unfold Dj at hd
    obtain ⟨⟨⟨p0, pf1, pf2, pf3, pf4, pf5, pf6, pf7, pf8, pf9, pf10, pf11, pf12, pf13, pf14, pf17, pk1, pk2, pk3, pk4, pk5, pk6, pk7, pk8, pk9, pk10, pk11, pk12, pk13, pn1, pn2, pn3, pn4, pn5, pn6, pn7, pn8, pn9, pn10, pn11, pn12, pn13⟩, -, -⟩, h1, h2, h3, h4, h5, h6, h7, h8⟩ := hp
    obtain ⟨s0, sf1, sf2, sf3, sf4, sf5, sf6, sf7, sf8, sk1, sk2, sk3, sk4, sk5, sk6, sk7, sk8, sn1, sn2, sn3, sn4, sn5, sn6, sn7, sn8⟩ := hs
    have w3 : ∀ g R, hFI (putS g a R) 505 p = hFI g 505 p := fun g R => pS_fi g R (Or.inl (by decide))
    have w9 : ∀ R, hAI (putS g a R) (p + 9) = hAI g (p + 9) := fun R => pS_far g R (by omega)
    have w10 : ∀ R, hAI (putS g a R) (p + 10) = hAI g (p + 10) := fun R => pS_far g R (by omega)
    have w11 : ∀ R, hAI (putS g a R) (p + 11) = hAI g (p + 11) := fun R => pS_far g R (by omega)
    have e5 : (nI i < nI nw) = True := eq_true (nI_lt (by omega) (by omega))
    have e3 : ∀ x, am_in (nI i) 6 x = x := am_inN (by omega) (by decide)
    have e4 : Int32.toNatClampNeg (nI i) = i := nI_clamp (by omega)
    have e6 : ∀ x, am_in (hAI g (p + 10) i) 6 x = x := am_in_t ht
    have z1 : ((1 : Int32) = 0) = False := eq_false (by decide)
    simp only [rd_hK_putS, rd_hFR_putS, rd_hLN_putS, rd_hFJ_putS, rd_hAJ_putS, rd_hAR_putS, rd_hNX_putS, pS_1, pS_2, pS_3, pS_4, pS_5, pS_6, pS_7, pS_8, pS_hr, pE_1, pE_2, pE_3, pE_4, pE_5, pE_6, pE_7, pE_8, putS_sFI, am_kd, p0, pf1, pf2, pf3, pf4, pf5, pf6, pf7, pf8, pf9, pf10, pf11, pf12, pf13, pf14, pf17, pk1, pk2, pk3, pk4, pk5, pk6, pk7, pk8, pk9, pk10, pk11, pk12, pk13, pn1, pn2, pn3, pn4, pn5, pn6, pn7, pn8, pn9, pn10, pn11, pn12, pn13, s0, sf1, sf2, sf3, sf4, sf5, sf6, sf7, sf8, sk1, sk2, sk3, sk4, sk5, sk6, sk7, sk8, sn1, sn2, sn3, sn4, sn5, sn6, sn7, sn8, if_true, w3, w9, w10, w11, h4, e5, e3, e4, e6, bR_s, am_let_e, nI_1, z1, if_false]
    unfold xst
    simp only [cp_at]
    by_cases c1 : R.2.2.2.2.2.2.2.2 i = 0
    · by_cases c2 : R.2.2.1 (Int32.toNatClampNeg (hAI g (p + 10) i)) = hAI g (p + 11) i
      · by_cases c3 : (bits >>> (hAI g (p + 9) i &&& 31)) &&& 1 = 1
        · simp only [c1, c2, c3, if_true]
          rw [cp_succ' i (fun w => xst1 (hAI g (p + 9)) (hAI g (p + 10)) (hAI g (p + 11)) bits R.1 R.2.2.1 w (R.2.2.2.2.2.2.2.2 w)) _ (by unfold xst1; rw [if_pos ⟨c1, c2⟩, if_pos c3])]
        · by_cases c4 : R.1 = hAI g (p + 11) i
          · simp only [c1, c2, c3, c4, if_true, if_false]
            rw [cp_succ' i (fun w => xst1 (hAI g (p + 9)) (hAI g (p + 10)) (hAI g (p + 11)) bits (hAI g (p + 11) i) R.2.2.1 w (R.2.2.2.2.2.2.2.2 w)) _ (by unfold xst1; rw [if_pos ⟨c1, c2⟩, if_neg c3, if_pos rfl])]
          · simp only [c1, c2, c3, c4, if_true, if_false]
            rw [cp_succ' i (fun w => xst1 (hAI g (p + 9)) (hAI g (p + 10)) (hAI g (p + 11)) bits R.1 R.2.2.1 w (R.2.2.2.2.2.2.2.2 w)) _ (by unfold xst1; rw [if_pos ⟨c1, c2⟩, if_neg c3, if_neg c4])]
      · simp only [c1, c2, if_true, if_false]
        rw [cp_same i (fun w => xst1 (hAI g (p + 9)) (hAI g (p + 10)) (hAI g (p + 11)) bits R.1 R.2.2.1 w (R.2.2.2.2.2.2.2.2 w)) _ (by unfold xst1; rw [if_neg (fun z => c2 z.2)])]
    · simp only [c1, if_false]
      rw [cp_same i (fun w => xst1 (hAI g (p + 9)) (hAI g (p + 10)) (hAI g (p + 11)) bits R.1 R.2.2.1 w (R.2.2.2.2.2.2.2.2 w)) _ (by unfold xst1; rw [if_neg (fun z => c1 z.1)])]
theorem c_settle {d p np nc ne nw a : Nat} {g : AH} {R : SV} (hp : PoC g p np nc ne nw) (ht : PoT g p nw) (hs : StSh g a) (hd : Dj p a) (bits : Int32) :
    am_C PG (d + 1) 65 [.ref p, .ref a, .int bits] (putS g a R) = some (none, putS g a (xst (hAI g (p + 9)) (hAI g (p + 10)) (hAI g (p + 11)) bits nw R)) := by
  rw [c_settle0 hp ht hs hd bits nw (Nat.le_refl _), q_X5_settleWorks_2]
  obtain ⟨⟨⟨p0, pf1, pf2, pf3, pf4, pf5, pf6, pf7, pf8, pf9, pf10, pf11, pf12, pf13, pf14, pf17, pk1, pk2, pk3, pk4, pk5, pk6, pk7, pk8, pk9, pk10, pk11, pk12, pk13, pn1, pn2, pn3, pn4, pn5, pn6, pn7, pn8, pn9, pn10, pn11, pn12, pn13⟩, -, -⟩, h1, h2, h3, h4, h5, h6, h7, h8⟩ := hp
  have w3 : ∀ g R, hFI (putS g a R) 505 p = hFI g 505 p := fun g R => pS_fi g R (Or.inl (by decide))
  have e5 : (nI nw < nI nw) = False := eq_false (nI_nlt (Nat.le_refl _) (by omega))
  simp only [rd_hK_putS, rd_hFR_putS, rd_hLN_putS, rd_hFJ_putS, rd_hAJ_putS, rd_hAR_putS, rd_hNX_putS, pS_1, pS_2, pS_3, pS_4, pS_5, pS_6, pS_7, pS_8, pS_hr, pE_1, pE_2, pE_3, pE_4, pE_5, pE_6, pE_7, pE_8, putS_sFI, am_kd, p0, pf1, pf2, pf3, pf4, pf5, pf6, pf7, pf8, pf9, pf10, pf11, pf12, pf13, pf14, pf17, pk1, pk2, pk3, pk4, pk5, pk6, pk7, pk8, pk9, pk10, pk11, pk12, pk13, pn1, pn2, pn3, pn4, pn5, pn6, pn7, pn8, pn9, pn10, pn11, pn12, pn13, if_true, if_false, w3, h4, e5]
/-- the rows of a Post that hours read: kinds, holds, sips, heats, drinks, doers, timers, dues -/
def xhour (W : Int32 → Int32 → Int32 → Int32 → Int32) (P : Nat → Nat → Int32) (nc ne nw hr : Nat) (R : SV) : SV :=
  let R1 := xcl (fun j => xclk W (P 4) (P 6) (P 7) (P 13) hr j (getc R j)) nc R
  let R2 := xdr (P 8) ne R1
  xst (P 9) (P 10) (P 11) (xbits (P 8) ne R1) nw (R2.1 + 1, R2.2)
def rowsP (g : AH) (p : Nat) : Nat → Nat → Int32 := fun k => hAI g (p + k)
theorem c_hour {d p np nc ne nw len hr a : Nat} {W : Int32 → Int32 → Int32 → Int32 → Int32} {g : AH} {R : SV} (hp : PoC g p np nc ne nw) (hl : PoL g p len W) (ht : PoT g p nw) (hs : StSh g a) (hd : Dj p a) (hh : hr < 2 ^ 31) (hR : R.1 = nI hr) :
    ∃ f, am_C PG (d + 4) 60 [.ref p, .ref a] (putS g a R) = some (none, putS (sAI g (p + 16) f) a (xhour W (rowsP g p) nc ne nw hr R)) := by
  obtain ⟨f, k1⟩ := c_clks (d := d) hp hl hs hd hh hR nc (Nat.le_refl _)
  have hd' := hd
  unfold Dj at hd'
  have hs' := hs.to (rd_hK_sAI g (p + 16) f) (rd_hFR_sAI g (p + 16) f) (rd_hLN_sAI g (p + 16) f)
  have hp' := hp.scr (b := p + 16) (f := f)
  have k2 := c_drink (d := d + 2) (R := xcl (fun j => xclk W (hAI g (p + 4)) (hAI g (p + 6)) (hAI g (p + 7)) (hAI g (p + 13)) hr j (getc R j)) nc R) hp' hs' hd
  rw [sAI_ne _ _ (by omega)] at k2
  have ht' : PoT (sAI g (p + 16) f) p nw := fun w hw => by rw [sAI_ne _ _ (by omega)]; exact ht w hw
  have k3 := fun (T : SV) (b : Int32) => c_settle (d := d + 2) (R := T) hp' ht' hs' hd b
  simp only [sAI_ne _ _ (show p + 9 ≠ p + 16 by omega), sAI_ne _ _ (show p + 10 ≠ p + 16 by omega), sAI_ne _ _ (show p + 11 ≠ p + 16 by omega)] at k3
  refine ⟨f, ?_⟩
  rw [k1, q_X5_passHour_2]
  obtain ⟨⟨⟨p0, pf1, pf2, pf3, pf4, pf5, pf6, pf7, pf8, pf9, pf10, pf11, pf12, pf13, pf14, pf17, pk1, pk2, pk3, pk4, pk5, pk6, pk7, pk8, pk9, pk10, pk11, pk12, pk13, pn1, pn2, pn3, pn4, pn5, pn6, pn7, pn8, pn9, pn10, pn11, pn12, pn13⟩, -, -⟩, h1, h2, h3, h4, h5, h6, h7, h8⟩ := hp
  obtain ⟨s0, sf1, sf2, sf3, sf4, sf5, sf6, sf7, sf8, sk1, sk2, sk3, sk4, sk5, sk6, sk7, sk8, sn1, sn2, sn3, sn4, sn5, sn6, sn7, sn8⟩ := hs
  have w3 : ∀ g R, hFI (putS g a R) 503 p = hFI g 503 p := fun g R => pS_fi g R (Or.inl (by decide))
  have e5 : (nI nc < nI nc) = False := eq_false (nI_nlt (Nat.le_refl _) (by omega))
  simp only [rd_hK_putS, rd_hFR_putS, rd_hLN_putS, rd_hFJ_putS, rd_hAJ_putS, rd_hAR_putS, rd_hNX_putS, pS_1, pS_2, pS_3, pS_4, pS_5, pS_6, pS_7, pS_8, pS_hr, pE_1, pE_2, pE_3, pE_4, pE_5, pE_6, pE_7, pE_8, putS_sFI, am_kd, p0, pf1, pf2, pf3, pf4, pf5, pf6, pf7, pf8, pf9, pf10, pf11, pf12, pf13, pf14, pf17, pk1, pk2, pk3, pk4, pk5, pk6, pk7, pk8, pk9, pk10, pk11, pk12, pk13, pn1, pn2, pn3, pn4, pn5, pn6, pn7, pn8, pn9, pn10, pn11, pn12, pn13, s0, sf1, sf2, sf3, sf4, sf5, sf6, sf7, sf8, sk1, sk2, sk3, sk4, sk5, sk6, sk7, sk8, sn1, sn2, sn3, sn4, sn5, sn6, sn7, sn8, rd_hK_sAI, if_true, if_false, w3, rd_hFI_sAI, h2, e5, k2, bI_s, am_let_e, k3, bV_s]
  rfl
theorem xhour_1 (W : Int32 → Int32 → Int32 → Int32 → Int32) (P : Nat → Nat → Int32) (nc ne nw hr : Nat) (R : SV) (hR : R.1 = nI hr) : (xhour W P nc ne nw hr R).1 = nI (hr + 1) := by
  show R.1 + 1 = _
  rw [hR, nI_1]
def xhours (W : Int32 → Int32 → Int32 → Int32 → Int32) (P : Nat → Nat → Int32) (nc ne nw hr : Nat) : Nat → SV → SV
  | 0, R => R
  | n + 1, R => xhour W P nc ne nw (hr + n) (xhours W P nc ne nw hr n R)
theorem xhours_1 (W : Int32 → Int32 → Int32 → Int32 → Int32) (P : Nat → Nat → Int32) (nc ne nw hr : Nat) (R : SV) (hR : R.1 = nI hr) : ∀ n, (xhours W P nc ne nw hr n R).1 = nI (hr + n)
  | 0 => hR
  | n + 1 => xhour_1 W P nc ne nw (hr + n) _ (xhours_1 W P nc ne nw hr R hR n)
theorem c_hours0 {d p np nc ne nw len hr a n : Nat} {W : Int32 → Int32 → Int32 → Int32 → Int32} {g : AH} {R : SV} (hp : PoC g p np nc ne nw) (hl : PoL g p len W) (ht : PoT g p nw) (hs : StSh g a) (hd : Dj p a) (hh : hr + n < 2 ^ 31) (hR : R.1 = nI hr) : ∀ i, i ≤ n →
    ∃ f, am_C PG (d + 5) 59 [.ref p, .ref a, .int (nI n)] (putS g a R) = am_R PG (d + 5) 59 2 [some (.ref p), some (.ref a), some (.int (nI n)), some (.int (nI i))] [] (putS (sAI g (p + 16) f) a (xhours W (rowsP g p) nc ne nw hr i R))
  | 0, _ => ⟨hAI g (p + 16), by rw [q_X5_passHours, sAI_self]; rfl⟩
  | i + 1, hi => by
    obtain ⟨f, k1⟩ := c_hours0 (d := d) hp hl ht hs hd hh hR i (by omega)
    have hd' := hd
    unfold Dj at hd'
    have hs' := hs.to (rd_hK_sAI g (p + 16) f) (rd_hFR_sAI g (p + 16) f) (rd_hLN_sAI g (p + 16) f)
    have ht' : PoT (sAI g (p + 16) f) p nw := fun w hw => by rw [sAI_ne _ _ (by omega)]; exact ht w hw
    obtain ⟨f2, k2⟩ := c_hour (d := d) (hp.scr (b := p + 16) (f := f)) (hl.scr (b := p + 16) (f := f) (by omega)) ht' hs' hd (show hr + i < 2 ^ 31 by omega) (xhours_1 W (rowsP g p) nc ne nw hr R hR i)
    have er : ∀ k, k ≠ 16 → rowsP (sAI g (p + 16) f) p k = rowsP g p k := fun k hk => sAI_ne _ _ (by omega)
    have ex : xhour W (rowsP (sAI g (p + 16) f) p) nc ne nw (hr + i) (xhours W (rowsP g p) nc ne nw hr i R) = xhour W (rowsP g p) nc ne nw (hr + i) (xhours W (rowsP g p) nc ne nw hr i R) := by
      unfold xhour
      rw [er 4 (by decide), er 6 (by decide), er 7 (by decide), er 13 (by decide), er 8 (by decide), er 9 (by decide), er 10 (by decide), er 11 (by decide)]
    rw [sAI_sAI, ex] at k2
    refine ⟨f2, ?_⟩
    rw [k1, q_X5_passHours_2]
    obtain ⟨⟨⟨p0, pf1, pf2, pf3, pf4, pf5, pf6, pf7, pf8, pf9, pf10, pf11, pf12, pf13, pf14, pf17, pk1, pk2, pk3, pk4, pk5, pk6, pk7, pk8, pk9, pk10, pk11, pk12, pk13, pn1, pn2, pn3, pn4, pn5, pn6, pn7, pn8, pn9, pn10, pn11, pn12, pn13⟩, -, -⟩, h1, h2, h3, h4, h5, h6, h7, h8⟩ := hp
    have e5 : (nI i < nI n) = True := eq_true (nI_lt (by omega) (by omega))
    simp only [rd_hK_putS, rd_hFR_putS, rd_hLN_putS, rd_hFJ_putS, rd_hAJ_putS, rd_hAR_putS, rd_hNX_putS, pS_1, pS_2, pS_3, pS_4, pS_5, pS_6, pS_7, pS_8, pS_hr, pE_1, pE_2, pE_3, pE_4, pE_5, pE_6, pE_7, pE_8, putS_sFI, am_kd, p0, pf1, pf2, pf3, pf4, pf5, pf6, pf7, pf8, pf9, pf10, pf11, pf12, pf13, pf14, pf17, pk1, pk2, pk3, pk4, pk5, pk6, pk7, pk8, pk9, pk10, pk11, pk12, pk13, pn1, pn2, pn3, pn4, pn5, pn6, pn7, pn8, pn9, pn10, pn11, pn12, pn13, rd_hK_sAI, if_true, e5, k2, bV_s, nI_1]
    rfl
theorem c_hours {d p np nc ne nw len hr a n : Nat} {W : Int32 → Int32 → Int32 → Int32 → Int32} {g : AH} {R : SV} (hp : PoC g p np nc ne nw) (hl : PoL g p len W) (ht : PoT g p nw) (hs : StSh g a) (hd : Dj p a) (hh : hr + n < 2 ^ 31) (hR : R.1 = nI hr) :
    ∃ f, am_C PG (d + 5) 59 [.ref p, .ref a, .int (nI n)] (putS g a R) = some (none, putS (sAI g (p + 16) f) a (xhours W (rowsP g p) nc ne nw hr n R)) := by
  obtain ⟨f, k1⟩ := c_hours0 (d := d) hp hl ht hs hd hh hR n (Nat.le_refl _)
  refine ⟨f, ?_⟩
  rw [k1, q_X5_passHours_2, if_neg (nI_nlt (Nat.le_refl _) (by omega))]
