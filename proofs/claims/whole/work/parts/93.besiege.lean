/-! A siege: the sums of thirst, the search; the class's side. -/
def sT (W : Int32 → Int32 → Int32 → Int32 → Int32) (kd sp he : Nat → Int32) (c : Nat) : Nat → Int32
  | 0 => 0
  | n + 1 => sT W kd sp he c n + xth W kd sp he c n (nI n)
theorem sT_congr {W : Int32 → Int32 → Int32 → Int32 → Int32} {kd sp he kd' sp' he' : Nat → Int32} {c : Nat} (e1 : kd c = kd' c) (e2 : sp c = sp' c) (e3 : ∀ j, j < 24 → he j = he' j) : ∀ n, sT W kd sp he c n = sT W kd' sp' he' c n
  | 0 => rfl
  | n + 1 => by
    unfold sT
    rw [sT_congr e1 e2 e3 n, xth_congr e1 e2 e3]
theorem c_sumThirsts {d p np nc ne nw len : Nat} {W : Int32 → Int32 → Int32 → Int32 → Int32} {g : AH} (hp : PoC g p np nc ne nw) (hl : PoL g p len W) (hc : ChoSh g) (hpb : p ≤ 30) :
    ∃ f u, (∀ c, c < nc → ∀ n, n < 100 → u (100 * c + n) = sT W (hAI g (p + 4)) (hAI g (p + 7)) (hAI g (p + 13)) c n) ∧ am_C PG (d + 3) 17 [.ref 112, .ref p] g = some (none, sAI (sAI g (p + 16) f) 113 u) := by
  obtain ⟨c0, -, cs⟩ := hc
  obtain ⟨r1, k1, l1⟩ := cs 0 (by decide)
  have r1 : hFR g 101 112 = some 113 := r1
  have k1 : hK g 113 = 50 := k1
  have l1 : hLN g 113 = 600 := l1
  have p0 := hp.1.1.1
  have h2' := hp.2.2.1
  have hn6 : nc ≤ 6 := hp.2.2.2.2.2.2.1
  generalize hT : sT W (hAI g (p + 4)) (hAI g (p + 7)) (hAI g (p + 13)) = T
  have kt : ∀ f u c n, c < 6 → n < 99 → ∃ f2, am_C PG (d + 2) 56 [.ref p, .int (nI c), .int (nI n), .int (nI n)] (sAI (sAI g (p + 16) f) 113 u) = some (some (.int (xth W (hAI g (p + 4)) (hAI g (p + 7)) (hAI g (p + 13)) c n (nI n))), sAI (sAI g (p + 16) f2) 113 u) := by
    intro f u c n hc hn
    obtain ⟨f2, k⟩ := c_thirst (d := d) (hr := n) (hp.scr (b := p + 16) (f := f)).scr ((hl.scr (b := p + 16) (f := f) (by omega)).scr (b := 113) (f := u) (by omega)) hc (by omega) (nI n)
    have o : ∀ b, b ≠ p + 16 → b ≠ 113 → hAI (sAI (sAI g (p + 16) f) 113 u) b = hAI g b := fun b z1 z2 => by rw [sAI_ne _ _ z2, sAI_ne _ _ z1]
    rw [o _ (by omega) (by omega), o _ (by omega) (by omega), o _ (by omega) (by omega), sAI_comm _ (show 113 ≠ p + 16 by omega), sAI_sAI] at k
    exact ⟨f2, k⟩
  generalize hZ : am_C PG (d + 3) 17 [.ref 112, .ref p] g = Z
  have lp : ∀ i, i ≤ nc → ∃ f u, (∀ c, c < i → ∀ n, n < 100 → u (100 * c + n) = T c n) ∧ Z = am_R PG (d + 3) 17 2 [some (.ref 112), some (.ref p), some (.int (nI i)), none, none] [] (sAI (sAI g (p + 16) f) 113 u) := by
    intro i
    induction i with
    | zero => intro _; exact ⟨hAI g (p + 16), hAI g 113, fun c hc => by omega, by rw [sAI_self, sAI_self, ← hZ, q_X1_sumThirsts]; rfl⟩
    | succ i ih =>
      intro hi
      obtain ⟨f, u, a1, a2⟩ := ih (by omega)
      have m0 : nI i * (100 : Int32) = nI (100 * i) := by rw [show (100 : Int32) = nI 100 from rfl, pk_mul, Nat.mul_comm]
      have e5 : (nI i < nI nc) = True := eq_true (nI_lt (by omega) (by omega))
      have lp2 : ∀ j, j ≤ 99 → ∃ f u, (∀ c, c < i → ∀ n, n < 100 → u (100 * c + n) = T c n) ∧ (∀ n, n ≤ j → u (100 * i + n) = T i n) ∧ Z = am_R PG (d + 3) 17 25 [some (.ref 112), some (.ref p), some (.int (nI i)), some (.int (nI (100 * i))), some (.int (nI j))] [] (sAI (sAI g (p + 16) f) 113 u) := by
        intro j
        induction j with
        | zero =>
          intro _
          have i1 : ∀ x, am_in (nI (100 * i)) 600 x = x := am_inN (by omega) (by decide)
          have ti : Int32.toNatClampNeg (nI (100 * i)) = 100 * i := nI_clamp (by omega)
          refine ⟨f, upd u (100 * i) 0, fun c hc n hn => ?_, fun n hn => ?_, ?_⟩
          · rw [pk_un (by omega)]
            exact a1 c hc n hn
          · rw [show n = 0 by omega, Nat.add_zero, pk_us, ← hT]
            rfl
          · rw [a2, q_X1_sumThirsts_2]
            simp only [rd_hK_sAI, rd_hFR_sAI, rd_hLN_sAI, rd_hFI_sAI, am_kd, p0, c0, r1, k1, l1, h2', if_true, bR_s, e5, m0, i1, ti, am_let_e, sEI_sAI]
            rfl
        | succ j ihj =>
          intro hj
          obtain ⟨f, u, b1, b2, b3⟩ := ihj (by omega)
          obtain ⟨f2, k⟩ := kt f u i j (by omega) (by omega)
          have e9 : (nI j < (99 : Int32)) = True := eq_true (nI_lt (b := 99) (by omega) (by decide))
          have m1 : nI (100 * i) + nI j = nI (100 * i + j) := nI_add _ _
          have m2 : nI (100 * i + j) + (1 : Int32) = nI (100 * i + j + 1) := nI_1 _
          have i1 : ∀ x, am_in (nI (100 * i + j)) 600 x = x := am_inN (by omega) (by decide)
          have ti : Int32.toNatClampNeg (nI (100 * i + j)) = 100 * i + j := nI_clamp (by omega)
          have i2 : ∀ x, am_in (nI (100 * i + j + 1)) 600 x = x := am_inN (by omega) (by decide)
          have t2 : Int32.toNatClampNeg (nI (100 * i + j + 1)) = 100 * i + j + 1 := nI_clamp (by omega)
          refine ⟨f2, upd u (100 * i + j + 1) (u (100 * i + j) + xth W (hAI g (p + 4)) (hAI g (p + 7)) (hAI g (p + 13)) i j (nI j)), fun c hc n hn => ?_, fun n hn => ?_, ?_⟩
          · rw [pk_un (by omega)]
            exact b1 c hc n hn
          · by_cases e : n = j + 1
            · subst e
              rw [show 100 * i + (j + 1) = 100 * i + j + 1 from rfl, pk_us, b2 j (Nat.le_refl _), ← hT]
              rfl
            · rw [pk_un (by omega)]
              exact b2 n (by omega)
          · rw [b3, q_X1_sumThirsts_25]
            simp only [rd_hK_sAI, rd_hFR_sAI, rd_hLN_sAI, am_kd, p0, c0, r1, k1, l1, if_true, bR_s, e9, m1, m2, i1, ti, i2, t2, k, bI_s, am_let_e, sEI_sAI, sAI_at]
            rw [nI_1]
      obtain ⟨f, u, b1, b2, b3⟩ := lp2 99 (Nat.le_refl _)
      refine ⟨f, u, fun c hc n hn => ?_, ?_⟩
      · by_cases e : c = i
        · subst e
          exact b2 n (by omega)
        · exact b1 c (by omega) n hn
      · rw [b3, q_X1_sumThirsts_25, if_neg (show ¬ nI 99 < (99 : Int32) by decide), nI_1]
  obtain ⟨f, u, a1, a2⟩ := lp nc (Nat.le_refl _)
  have e5 : (nI nc < nI nc) = False := eq_false (nI_nlt (Nat.le_refl _) (by omega))
  refine ⟨f, u, a1, ?_⟩
  rw [a2, q_X1_sumThirsts_2]
  simp only [rd_hK_sAI, rd_hFI_sAI, am_kd, p0, h2', if_true, if_false, e5]
/-! the search -/
def sg1 (T : Int32 → Int32 → Int32 × Int32) (w c q : Int32) (S : Int32 × Int32 × Int32) : Int32 × Int32 × Int32 := if w < (T c q).1 then S else if S.1 < (T c q).2 then ((T c q).2, c, q) else S
def sgP (T : Int32 → Int32 → Int32 × Int32) (w c : Int32) (S : Int32 × Int32 × Int32) : Nat → Int32 × Int32 × Int32
  | 0 => S
  | n + 1 => sg1 T w c (nI n) (sgP T w c S n)
def sgC (T : Int32 → Int32 → Int32 × Int32) (w : Int32) (m : Nat) : Nat → Int32 × Int32 × Int32
  | 0 => (-1, 0, 0)
  | n + 1 => sgP T w (nI n) (sgC T w m n) m
def sAns (a : Int32) (S : Int32 × Int32 × Int32) : Int32 := if a = 0 then S.1 else if a = 1 then S.2.1 else S.2.2
theorem shl6 : ∀ n : Fin 7, ((1 : Int32) <<< (nI n.1 &&& 31)) = nI (2 ^ n.1) := by decide
theorem two6 : ∀ n : Fin 7, 2 ^ n.1 ≤ 64 := by decide
theorem sCost_congr {M : Nat → Nat → Int32} {f f' : Nat → Int32} {nc ne nw : Nat} {c q : Int32} (hdu : ∀ w, w < nw → ∃ k, 1 ≤ k ∧ k ≤ 99 ∧ M 367 w = nI k) (h : ∀ t, t < nc → ∀ n, n < 100 → f (100 * t + n) = f' (100 * t + n)) : sCost M f nc ne nw c q = sCost M f' nc ne nw c q := by
  unfold sCost
  rw [sumN_congr nc (fun t ht => by
    obtain ⟨k, k1, k2⟩ := lo_rng (K := sK M c q) (key := M 366) (t := nI t) nw hdu
    show f (100 * t + Int32.toNatClampNeg (lo (sK M c q) (M 366) (M 367) (nI t) nw)) = f' (100 * t + Int32.toNatClampNeg (lo (sK M c q) (M 366) (M 367) (nI t) nw))
    rw [k2, nI_clamp (by omega)]
    exact h t ht k (by omega))]
def sTf (T : Nat → Nat → Int32) : Nat → Int32 := fun i => T (i / 100) (i % 100)
theorem sTf_at (T : Nat → Nat → Int32) {c n : Nat} (h : n < 100) : sTf T (100 * c + n) = T c n := by
  unfold sTf
  rw [show (100 * c + n) / 100 = c by omega, show (100 * c + n) % 100 = n by omega]
/-- cost and pay, all by the reference's rows -/
def sTab (W : Int32 → Int32 → Int32 → Int32 → Int32) (M : Nat → Nat → Int32) (nc ne nw : Nat) (c q : Int32) : Int32 × Int32 := (sCost M (sTf (sT W (M 357) (M 361) (M 369))) nc ne nw c q, sPay M c q nw)
theorem c_besieged {d p np nc ne nw len : Nat} {W : Int32 → Int32 → Int32 → Int32 → Int32} {g : AH} {M : Nat → Nat → Int32} {wa a : Int32} (hp : PoC g p np nc ne nw) (hl : PoL g p len W) (hP : PRow (rowsP g p) M np nc ne nw) (hc : ChoSh g) (hpb : p ≤ 30) :
    ∃ f u y1 y2 v, am_C PG (d + 4) 16 [.ref 112, .ref p, .int wa, .int a] g = some (some (.int (sAns a (sgC (sTab W M nc ne nw) wa (2 ^ ne) (2 ^ nc)))), SG (sAI (sAI g (p + 16) f) 113 u) y1 y2 v) := by
  obtain ⟨f, u, a1, a2⟩ := c_sumThirsts (d := d) hp hl hc hpb
  have c0 := hc.1
  have p0 := hp.1.1.1
  have h2' := hp.2.2.1
  have h3' := hp.2.2.2.1
  have hn6 : nc ≤ 6 := hp.2.2.2.2.2.2.1
  have hn4 : ne ≤ 4 := hp.2.2.2.2.2.2.2.1
  have hdu : ∀ w, w < nw → ∃ k, 1 ≤ k ∧ k ≤ 99 ∧ M 367 w = nI k := fun w hw => (hP.2.2.2.2.2.2.1 w hw).2.2.1
  have eT : ∀ c, c < nc → ∀ n, n < 100 → u (100 * c + n) = sTf (sT W (M 357) (M 361) (M 369)) (100 * c + n) := fun c hc n hn => by
    rw [a1 c hc n hn, sTf_at _ hn]
    exact sT_congr (hP.1 c hc).1 (hP.1 c hc).2.2.2 hP.2.2.2.1 n
  have o : ∀ b, b ≠ p + 16 → b ≠ 113 → hAI (sAI (sAI g (p + 16) f) 113 u) b = hAI g b := fun b z1 z2 => by rw [sAI_ne _ _ z2, sAI_ne _ _ z1]
  have hP2 : PRow (rowsP (sAI (sAI g (p + 16) f) 113 u) p) M np nc ne nw := by
    unfold PRow rowsP at hP ⊢
    rw [o (p + 4) (by omega) (by omega), o (p + 5) (by omega) (by omega), o (p + 6) (by omega) (by omega), o (p + 7) (by omega) (by omega), o (p + 8) (by omega) (by omega), o (p + 9) (by omega) (by omega), o (p + 10) (by omega) (by omega), o (p + 11) (by omega) (by omega), o (p + 12) (by omega) (by omega), o (p + 13) (by omega) (by omega)]
    exact hP
  have kc : ∀ y1 y2 v c q, ∃ z1 z2, am_C PG (d + 3) 18 [.ref 112, .ref p, .int c, .int q] (SG (sAI (sAI g (p + 16) f) 113 u) y1 y2 v) = some (some (.int (sTab W M nc ne nw c q).1), SG (sAI (sAI g (p + 16) f) 113 u) z1 z2 (sTab W M nc ne nw c q).2) := by
    intro y1 y2 v c q
    obtain ⟨z1, z2, k⟩ := c_siegeCost (d := d + 1) (c := c) (q := q) (hp.scr (b := p + 16) (f := f)).scr hP2 (hc.to (g := sAI (sAI g (p + 16) f) 113 u) rfl rfl rfl) hpb (fun t ht => by
      rw [sAI_at]
      have := a1 t ht 0 (by decide)
      rw [Nat.add_zero] at this
      rw [this]
      rfl) y1 y2 v
    rw [sAI_at, sCost_congr hdu eT] at k
    exact ⟨z1, z2, k⟩
  generalize hh : sAI (sAI g (p + 16) f) 113 u = h at a2 kc
  have hK' : hK h = hK g := by rw [← hh]; rfl
  have hF' : ∀ k a, hFI h k a = hFI g k a := fun k a => by rw [← hh]; rfl
  generalize sTab W M nc ne nw = T at kc ⊢
  have s1 := shl6 ⟨nc, by omega⟩
  have s2 := shl6 ⟨ne, by omega⟩
  have b1 := two6 ⟨nc, by omega⟩
  have b2 := two6 ⟨ne, by omega⟩
  dsimp only at s1 s2 b1 b2
  generalize 2 ^ nc = N at s1 b1 ⊢
  generalize 2 ^ ne = K at s2 b2 ⊢
  generalize hZ : am_C PG (d + 4) 16 [.ref 112, .ref p, .int wa, .int a] g = Z
  have x3 : ∀ y1 y2 v, hFI (SG h y1 y2 v) 503 p = nI nc := fun _ _ _ => by rw [SG_fo _ _ _ _ (by omega), hF']; exact h2'
  have x4 : ∀ y1 y2 v, hFI (SG h y1 y2 v) 504 p = nI ne := fun _ _ _ => by rw [SG_fo _ _ _ _ (by omega), hF']; exact h3'
  have lp : ∀ i, i ≤ N → ∃ y1 y2 v l, Z = am_R PG (d + 4) 16 17 [some (.ref 112), some (.ref p), some (.int wa), some (.int a), some (.int (sgC T wa K i).1), some (.int (sgC T wa K i).2.1), some (.int (sgC T wa K i).2.2), some (.int (nI i)), none] [] (SG h y1 y2 v) ∧ l = 0 := by
    intro i
    induction i with
    | zero =>
      intro _
      refine ⟨hAI h 114, hAI h 115, hFI h 104 112, 0, ?_, rfl⟩
      rw [SG_self, ← hZ, q_X1_besieged]
      simp only [am_kd, c0, if_true, a2, bV_s]
      rfl
    | succ i ih =>
      intro hi
      obtain ⟨y1, y2, v, l, a3, -⟩ := ih (by omega)
      have e5 : (nI i < nI N) = True := eq_true (nI_lt (by omega) (by omega))
      have lp2 : ∀ j, j ≤ K → ∃ y1 y2 v, Z = am_R PG (d + 4) 16 31 [some (.ref 112), some (.ref p), some (.int wa), some (.int a), some (.int (sgP T wa (nI i) (sgC T wa K i) j).1), some (.int (sgP T wa (nI i) (sgC T wa K i) j).2.1), some (.int (sgP T wa (nI i) (sgC T wa K i) j).2.2), some (.int (nI i)), some (.int (nI j))] [] (SG h y1 y2 v) := by
        intro j
        induction j with
        | zero =>
          intro _
          refine ⟨y1, y2, v, ?_⟩
          rw [a3, q_X1_besieged_17]
          simp only [SG_K, SG_R, SG_L, SG_1, SG_2, SG_f, SG_s, hK', am_kd, p0, if_true, x3, s1, e5]
          rfl
        | succ j ihj =>
          intro hj
          obtain ⟨y1, y2, v, b3⟩ := ihj (by omega)
          obtain ⟨z1, z2, k⟩ := kc y1 y2 v (nI i) (nI j)
          have e6 : (nI j < nI K) = True := eq_true (nI_lt (by omega) (by omega))
          refine ⟨z1, z2, (T (nI i) (nI j)).2, ?_⟩
          show Z = am_R PG (d + 4) 16 31 [some (.ref 112), some (.ref p), some (.int wa), some (.int a), some (.int (sg1 T wa (nI i) (nI j) (sgP T wa (nI i) (sgC T wa K i) j)).1), some (.int (sg1 T wa (nI i) (nI j) (sgP T wa (nI i) (sgC T wa K i) j)).2.1), some (.int (sg1 T wa (nI i) (nI j) (sgP T wa (nI i) (sgC T wa K i) j)).2.2), some (.int (nI i)), some (.int (nI (j + 1)))] [] _
          rw [b3, q_X1_besieged_31]
          generalize sgP T wa (nI i) (sgC T wa K i) j = S
          simp only [SG_K, SG_R, SG_L, SG_1, SG_2, SG_f, SG_s, hK', am_kd, p0, c0, if_true, x4, s2, e6, k, bI_s, nI_1]
          unfold sg1
          by_cases q1 : wa < (T (nI i) (nI j)).1
          · simp only [if_pos q1]
          · by_cases q2 : S.1 < (T (nI i) (nI j)).2
            · simp only [if_neg q1, if_pos q2]
            · simp only [if_neg q1, if_neg q2]
      obtain ⟨y1, y2, v, b3⟩ := lp2 K (Nat.le_refl _)
      have e6 : (nI K < nI K) = False := eq_false (nI_nlt (Nat.le_refl _) (by omega))
      refine ⟨y1, y2, v, 0, ?_, rfl⟩
      rw [b3, q_X1_besieged_31]
      simp only [SG_K, SG_R, SG_L, SG_1, SG_2, SG_f, SG_s, hK', am_kd, p0, if_true, x4, s2, e6, if_false, nI_1]
      rfl
  obtain ⟨y1, y2, v, l, a3, -⟩ := lp N (Nat.le_refl _)
  have e5 : (nI N < nI N) = False := eq_false (nI_nlt (Nat.le_refl _) (by omega))
  refine ⟨f, u, y1, y2, v, ?_⟩
  rw [hh, a3, q_X1_besieged_17]
  simp only [SG_K, SG_R, SG_L, SG_1, SG_2, SG_f, SG_s, hK', am_kd, p0, if_true, x3, s1, e5, if_false]
  unfold sAns
  by_cases c0 : a = 0
  · simp only [if_pos c0]
  · by_cases c1 : a = 1
    · simp only [if_neg c0, if_pos c1]
    · simp only [if_neg c0, if_neg c1]
