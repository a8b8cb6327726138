/-! Constructors of the class. -/
theorem StSh.sa {h g : AH} {a : Nat} (e : ∀ x, a ≤ x → x ≤ a + 8 → Sa h g x) (s : StSh h a) : StSh g a := by
  obtain ⟨a1, -, -, -, -, -, -, a8⟩ := e a (Nat.le_refl _) (by omega)
  obtain ⟨b1, c1, -⟩ := e (a + 1) (by omega) (by omega)
  obtain ⟨b2, c2, -⟩ := e (a + 2) (by omega) (by omega)
  obtain ⟨b3, c3, -⟩ := e (a + 3) (by omega) (by omega)
  obtain ⟨b4, c4, -⟩ := e (a + 4) (by omega) (by omega)
  obtain ⟨b5, c5, -⟩ := e (a + 5) (by omega) (by omega)
  obtain ⟨b6, c6, -⟩ := e (a + 6) (by omega) (by omega)
  obtain ⟨b7, c7, -⟩ := e (a + 7) (by omega) (by omega)
  obtain ⟨b8, c8, -⟩ := e (a + 8) (by omega) (by omega)
  unfold StSh at s ⊢
  rw [a1, a8 701, a8 702, a8 703, a8 704, a8 705, a8 706, a8 707, a8 708, b1, b2, b3, b4, b5, b6, b7, b8, c1, c2, c3, c4, c5, c6, c7, c8]
  exact s
theorem DaSh.sa {h g : AH} {a : Nat} (e : ∀ x, a ≤ x → x ≤ a + 4 → Sa h g x) (s : DaSh h a) : DaSh g a := by
  obtain ⟨a1, -, -, -, -, -, -, a8⟩ := e a (Nat.le_refl _) (by omega)
  obtain ⟨b1, c1, -⟩ := e (a + 1) (by omega) (by omega)
  obtain ⟨b2, c2, -⟩ := e (a + 2) (by omega) (by omega)
  obtain ⟨b3, c3, -⟩ := e (a + 3) (by omega) (by omega)
  obtain ⟨b4, c4, -⟩ := e (a + 4) (by omega) (by omega)
  unfold DaSh at s ⊢
  rw [a1, a8 201, a8 202, a8 203, a8 204, b1, b2, b3, b4, c1, c2, c3, c4]
  exact s
theorem HeSh.sa {h g : AH} {a : Nat} (e : ∀ x, a ≤ x → x ≤ a + 4 → Sa h g x) (s : HeSh h a) : HeSh g a := by
  obtain ⟨a1, -, -, -, -, -, -, a8⟩ := e a (Nat.le_refl _) (by omega)
  obtain ⟨b1, c1, -⟩ := e (a + 1) (by omega) (by omega)
  obtain ⟨b2, c2, -⟩ := e (a + 2) (by omega) (by omega)
  obtain ⟨b3, c3, -⟩ := e (a + 3) (by omega) (by omega)
  obtain ⟨b4, c4, -⟩ := e (a + 4) (by omega) (by omega)
  unfold HeSh at s ⊢
  rw [a1, a8 301, a8 302, a8 304, a8 305, b1, b2, b3, b4, c1, c2, c3, c4]
  exact s
theorem LwSh.sa {h g : AH} {a : Nat} (e : ∀ x, a ≤ x → x ≤ a + 2 → Sa h g x) (s : LwSh h a) : LwSh g a := by
  obtain ⟨a1, -, -, -, -, -, -, a8⟩ := e a (Nat.le_refl _) (by omega)
  obtain ⟨b1, c1, -⟩ := e (a + 1) (by omega) (by omega)
  obtain ⟨b2, c2, -⟩ := e (a + 2) (by omega) (by omega)
  unfold LwSh at s ⊢
  rw [a1, a8 400, a8 402, b1, b2, c1, c2]
  exact s
theorem PoSh0.sa {h g : AH} {a : Nat} (e : ∀ x, a ≤ x → x ≤ a + 13 → Sa h g x) (s : PoSh0 h a) : PoSh0 g a := by
  obtain ⟨a1, -, -, -, -, -, -, a8⟩ := e a (Nat.le_refl _) (by omega)
  obtain ⟨b1, c1, -⟩ := e (a + 1) (by omega) (by omega)
  obtain ⟨b2, c2, -⟩ := e (a + 2) (by omega) (by omega)
  obtain ⟨b3, c3, -⟩ := e (a + 3) (by omega) (by omega)
  obtain ⟨b4, c4, -⟩ := e (a + 4) (by omega) (by omega)
  obtain ⟨b5, c5, -⟩ := e (a + 5) (by omega) (by omega)
  obtain ⟨b6, c6, -⟩ := e (a + 6) (by omega) (by omega)
  obtain ⟨b7, c7, -⟩ := e (a + 7) (by omega) (by omega)
  obtain ⟨b8, c8, -⟩ := e (a + 8) (by omega) (by omega)
  obtain ⟨b9, c9, -⟩ := e (a + 9) (by omega) (by omega)
  obtain ⟨b10, c10, -⟩ := e (a + 10) (by omega) (by omega)
  obtain ⟨b11, c11, -⟩ := e (a + 11) (by omega) (by omega)
  obtain ⟨b12, c12, -⟩ := e (a + 12) (by omega) (by omega)
  obtain ⟨b13, c13, -⟩ := e (a + 13) (by omega) (by omega)
  unfold PoSh0 at s ⊢
  rw [a1, a8 500, a8 506, a8 507, a8 508, a8 509, a8 510, a8 511, a8 512, a8 513, a8 514, a8 515, a8 516, a8 517, a8 518, a8 519, b1, b2, b3, b4, b5, b6, b7, b8, b9, b10, b11, b12, b13, c1, c2, c3, c4, c5, c6, c7, c8, c9, c10, c11, c12, c13]
  exact s
theorem PoSh.sa {h g : AH} {a : Nat} (e : ∀ x, a ≤ x → x ≤ a + 25 → Sa h g x) (s : PoSh h a) : PoSh g a :=
  ⟨PoSh0.sa (fun x h1 h2 => e x h1 (by omega)) s.1, LwSh.sa (fun x h1 h2 => e x (by omega) (by omega)) s.2.1, StSh.sa (fun x h1 h2 => e x (by omega) (by omega)) s.2.2⟩
theorem StoSh.sa {h g : AH} {a : Nat} (e : ∀ x, a ≤ x → x ≤ a + 19 → Sa h g x) (s : StoSh h a) : StoSh g a := by
  obtain ⟨s1, s2, s3, s4, s5, s6, s7⟩ := s
  obtain ⟨a1, -, -, -, -, -, -, a8⟩ := e a (Nat.le_refl _) (by omega)
  exact ⟨a1.trans s1, (a8 _).trans s2, (a8 _).trans s3, (a8 _).trans s4, StSh.sa (fun x h1 h2 => e x (by omega) (by omega)) s5, DaSh.sa (fun x h1 h2 => e x (by omega) (by omega)) s6, HeSh.sa (fun x h1 h2 => e x (by omega) (by omega)) s7⟩
theorem getS_sa {h g : AH} {a : Nat} (e : ∀ x, a ≤ x → x ≤ a + 8 → Sa h g x) : getS g a = getS h a := getS_fr ((e a (Nat.le_refl _) (by omega)).2.2.2.2.2.1 _) (fun k h1 h2 => (e (a + k) (by omega) (by omega)).2.2.1)
theorem Sa.row {h g : AH} {a : Nat} (s : Sa h g a) : hAI g a = hAI h a := s.2.2.1
theorem Sa.fi {h g : AH} {a : Nat} (s : Sa h g a) (k : Nat) : hFI g k a = hFI h k a := s.2.2.2.2.2.1 k
def stL : List (Nat × Nat × Nat) := [(50, 6, 701), (50, 6, 702), (50, 6, 703), (50, 4, 704), (50, 4, 705), (50, 4, 706), (50, 5, 707), (50, 6, 708)]
theorem stL_q (d t : Nat) (h : AH) : am_C PG (d + 1) 106 [.ref t] h = am_kd h t 8 (xbR t 8 (fun h => some (none, h)) stL h) := q_X7_init d t h
theorem n_State {d n : Nat} {h : AH} (hn : hNX h = n) : ∃ g, am_C PG (d + 1) 106 [.ref n] (nObj h 8) = some (none, g) ∧ hNX g = n + 9 ∧ (∀ x, (x < n ∨ n + 9 ≤ x) → Sa h g x) ∧ StSh g n ∧ (∀ x, 1 ≤ x → x ≤ 8 → hAI g (n + x) = fun _ => 0) ∧ ∀ k, hFI g k n = 0 := by
  subst hn
  have kt := nObj_k h 8
  have nn : hNX (nObj h 8) = hNX h + 1 := nObj_n h 8
  have lt : hNX h < hNX (nObj h 8) := by omega
  have ll : stL.length = 8 := rfl
  have N := xb_new (hNX h) stL (nObj h 8) lt (by decide)
  rw [nn] at N
  have T := xb_t (hNX h) stL (nObj h 8) lt
  refine ⟨xbl (hNX h) stL (nObj h 8), ?_, ?_, fun x e => (nObj_sa h 8 (by omega)).tr (xb_sa _ stL _ x (by omega) (by omega)), ?_, fun x h1 h2 => ?_, fun k => (T.2.2.1 k).trans (nObj_f h 8 k)⟩
  · rw [stL_q, am_kd_t kt, xbR_e stL _ kt lt (by decide)]
  · rw [xb_NX, nn, ll]
  · exact ⟨T.1.trans kt, (N 0 (by decide)).2.2.1, (N 1 (by decide)).2.2.1, (N 2 (by decide)).2.2.1, (N 3 (by decide)).2.2.1, (N 4 (by decide)).2.2.1, (N 5 (by decide)).2.2.1, (N 6 (by decide)).2.2.1, (N 7 (by decide)).2.2.1, (N 0 (by decide)).1, (N 1 (by decide)).1, (N 2 (by decide)).1, (N 3 (by decide)).1, (N 4 (by decide)).1, (N 5 (by decide)).1, (N 6 (by decide)).1, (N 7 (by decide)).1, (N 0 (by decide)).2.1, (N 1 (by decide)).2.1, (N 2 (by decide)).2.1, (N 3 (by decide)).2.1, (N 4 (by decide)).2.1, (N 5 (by decide)).2.1, (N 6 (by decide)).2.1, (N 7 (by decide)).2.1⟩
  · have z := (N (x - 1) (by omega)).2.2.2.1
    rw [show hNX h + 1 + (x - 1) = hNX h + x by omega] at z
    exact z
def daL : List (Nat × Nat × Nat) := [(50, 40, 201), (50, 40, 202), (50, 40, 203), (50, 40, 204)]
theorem daL_q (d t : Nat) (h : AH) : am_C PG (d + 1) 30 [.ref t] h = am_kd h t 3 (xbR t 3 (fun h => some (none, h)) daL h) := q_X2_init d t h
theorem n_Days {d n : Nat} {h : AH} (hn : hNX h = n) : ∃ g, am_C PG (d + 1) 30 [.ref n] (nObj h 3) = some (none, g) ∧ hNX g = n + 5 ∧ (∀ x, (x < n ∨ n + 5 ≤ x) → Sa h g x) ∧ DaSh g n ∧ (∀ x, 1 ≤ x → x ≤ 4 → hAI g (n + x) = fun _ => 0) ∧ ∀ k, hFI g k n = 0 := by
  subst hn
  have kt := nObj_k h 3
  have nn : hNX (nObj h 3) = hNX h + 1 := nObj_n h 3
  have lt : hNX h < hNX (nObj h 3) := by omega
  have ll : daL.length = 4 := rfl
  have N := xb_new (hNX h) daL (nObj h 3) lt (by decide)
  rw [nn] at N
  have T := xb_t (hNX h) daL (nObj h 3) lt
  refine ⟨xbl (hNX h) daL (nObj h 3), ?_, ?_, fun x e => (nObj_sa h 3 (by omega)).tr (xb_sa _ daL _ x (by omega) (by omega)), ?_, fun x h1 h2 => ?_, fun k => (T.2.2.1 k).trans (nObj_f h 3 k)⟩
  · rw [daL_q, am_kd_t kt, xbR_e daL _ kt lt (by decide)]
  · rw [xb_NX, nn, ll]
  · exact ⟨T.1.trans kt, (N 0 (by decide)).2.2.1, (N 1 (by decide)).2.2.1, (N 2 (by decide)).2.2.1, (N 3 (by decide)).2.2.1, (N 0 (by decide)).1, (N 1 (by decide)).1, (N 2 (by decide)).1, (N 3 (by decide)).1, (N 0 (by decide)).2.1, (N 1 (by decide)).2.1, (N 2 (by decide)).2.1, (N 3 (by decide)).2.1⟩
  · have z := (N (x - 1) (by omega)).2.2.2.1
    rw [show hNX h + 1 + (x - 1) = hNX h + x by omega] at z
    exact z
def heL : List (Nat × Nat × Nat) := [(50, 10, 301), (50, 10, 302), (50, 12, 304), (50, 12, 305)]
theorem heL_q (d t : Nat) (h : AH) : am_C PG (d + 1) 34 [.ref t] h = am_kd h t 4 (xbR t 4 (fun h => some (none, h)) heL h) := q_X3_init d t h
theorem n_Heard {d n : Nat} {h : AH} (hn : hNX h = n) : ∃ g, am_C PG (d + 1) 34 [.ref n] (nObj h 4) = some (none, g) ∧ hNX g = n + 5 ∧ (∀ x, (x < n ∨ n + 5 ≤ x) → Sa h g x) ∧ HeSh g n ∧ (∀ x, 1 ≤ x → x ≤ 4 → hAI g (n + x) = fun _ => 0) ∧ ∀ k, hFI g k n = 0 := by
  subst hn
  have kt := nObj_k h 4
  have nn : hNX (nObj h 4) = hNX h + 1 := nObj_n h 4
  have lt : hNX h < hNX (nObj h 4) := by omega
  have ll : heL.length = 4 := rfl
  have N := xb_new (hNX h) heL (nObj h 4) lt (by decide)
  rw [nn] at N
  have T := xb_t (hNX h) heL (nObj h 4) lt
  refine ⟨xbl (hNX h) heL (nObj h 4), ?_, ?_, fun x e => (nObj_sa h 4 (by omega)).tr (xb_sa _ heL _ x (by omega) (by omega)), ?_, fun x h1 h2 => ?_, fun k => (T.2.2.1 k).trans (nObj_f h 4 k)⟩
  · rw [heL_q, am_kd_t kt, xbR_e heL _ kt lt (by decide)]
  · rw [xb_NX, nn, ll]
  · exact ⟨T.1.trans kt, (N 0 (by decide)).2.2.1, (N 1 (by decide)).2.2.1, (N 2 (by decide)).2.2.1, (N 3 (by decide)).2.2.1, (N 0 (by decide)).1, (N 1 (by decide)).1, (N 2 (by decide)).1, (N 3 (by decide)).1, (N 0 (by decide)).2.1, (N 1 (by decide)).2.1, (N 2 (by decide)).2.1, (N 3 (by decide)).2.1⟩
  · have z := (N (x - 1) (by omega)).2.2.2.1
    rw [show hNX h + 1 + (x - 1) = hNX h + x by omega] at z
    exact z
def lwL : List (Nat × Nat × Nat) := [(50, 1000, 400), (50, 32, 402)]
theorem lwL_q (d t : Nat) (h : AH) : am_C PG (d + 1) 41 [.ref t] h = am_kd h t 5 (xbR t 5 (fun h4 => am_kd h4 t 5 (bV (am_C PG d 42 [.ref t] h4) fun h5 => some (none, h5))) lwL h) := q_X4_init d t h
theorem c_usual2 {d a : Nat} {h : AH} (s : LwSh h a) : am_C PG (d + 1) 42 [.ref a] h = some (none, sFI (sEI (sEI (sEI h (a + 1) 0 (-1)) (a + 1) 1 (-2)) (a + 1) 2 (-10)) 401 a 3) := by
  obtain ⟨q1, f1, q3, f2, f3, -⟩ := s
  have i0 : ∀ x, am_in (0 : Int32) 1000 x = x := am_inN (i := 0) (by decide) (by decide)
  have i1 : ∀ x, am_in (1 : Int32) 1000 x = x := am_inN (i := 1) (by decide) (by decide)
  have i2 : ∀ x, am_in (2 : Int32) 1000 x = x := am_inN (i := 2) (by decide) (by decide)
  have t1 : Int32.toNatClampNeg (1 : Int32) = 1 := by decide
  have t2 : Int32.toNatClampNeg (2 : Int32) = 2 := by decide
  rw [q_X4_beUsual]
  simp only [am_kd, q1, f1, f2, f3, if_true, bR_s, i0, i1, i2, nI_cl0, t1, t2, am_let_e, rd_hK_sEI, rd_hFR_sEI, rd_hLN_sEI]
theorem n_Law {d n : Nat} {h : AH} (hn : hNX h = n) : ∃ g, am_C PG (d + 2) 41 [.ref n] (nObj h 5) = some (none, g) ∧ hNX g = n + 3 ∧ (∀ x, (x < n ∨ n + 3 ≤ x) → Sa h g x) ∧ LwSh g n ∧ hFI g 401 n = nI 3 ∧ hAI g (n + 1) 0 = -1 ∧ hAI g (n + 1) 1 = -2 ∧ hAI g (n + 1) 2 = -10 := by
  subst hn
  have kt := nObj_k h 5
  have nn : hNX (nObj h 5) = hNX h + 1 := nObj_n h 5
  have lt : hNX h < hNX (nObj h 5) := by omega
  have ll : lwL.length = 2 := rfl
  have N := xb_new (hNX h) lwL (nObj h 5) lt (by decide)
  rw [nn] at N
  have T := xb_t (hNX h) lwL (nObj h 5) lt
  have fr : ∀ x, (x < hNX h ∨ hNX h + 3 ≤ x) → Sa h (xbl (hNX h) lwL (nObj h 5)) x := fun x e => (nObj_sa h 5 (by omega)).tr (xb_sa _ lwL _ x (by omega) (by omega))
  have ex : hNX (xbl (hNX h) lwL (nObj h 5)) = hNX h + 3 := by rw [xb_NX, nn, ll]
  have s : LwSh (xbl (hNX h) lwL (nObj h 5)) (hNX h) := ⟨T.1.trans kt, (N 0 (by decide)).2.2.1, (N 1 (by decide)).2.2.1, (N 0 (by decide)).1, (N 0 (by decide)).2.1, (N 1 (by decide)).1, (N 1 (by decide)).2.1⟩
  have q0 : am_C PG (d + 2) 41 [.ref (hNX h)] (nObj h 5) = _ := lwL_q (d + 1) (hNX h) (nObj h 5)
  rw [am_kd_t kt, xbR_e lwL _ kt lt (by decide)] at q0
  generalize xbl (hNX h) lwL (nObj h 5) = y at fr ex s q0
  rw [am_kd_t s.1, c_usual2 s, bV_s] at q0
  refine ⟨_, q0, ?_, fun x e => (fr x e).tr ((((sEI_sa _ _ _ _ (by omega)).tr (sEI_sa _ _ _ _ (by omega))).tr (sEI_sa _ _ _ _ (by omega))).tr (sFI_sa _ _ _ _ (by omega))), ?_, ?_, ?_, ?_, ?_⟩
  · rw [rd_hNX_sFI, rd_hNX_sEI, rd_hNX_sEI, rd_hNX_sEI]; exact ex
  · unfold LwSh at s ⊢
    rw [rd_hK_sFI, rd_hK_sEI, rd_hK_sEI, rd_hK_sEI, rd_hFR_sFI, rd_hFR_sEI, rd_hFR_sEI, rd_hFR_sEI, rd_hLN_sFI, rd_hLN_sEI, rd_hLN_sEI, rd_hLN_sEI]
    exact s
  · rw [sFI_at]; rfl
  · rw [rd_hAI_sFI, sEI_at, pk_un (by decide), sEI_at, pk_un (by decide), sEI_at, pk_us]
  · rw [rd_hAI_sFI, sEI_at, pk_un (by decide), sEI_at, pk_us]
  · rw [rd_hAI_sFI, sEI_at, pk_us]
def poL : List (Nat × Nat × Nat) := [(53, 21, 500), (50, 25, 506), (50, 25, 507), (50, 6, 508), (50, 6, 509), (50, 6, 510), (50, 6, 511), (50, 4, 512), (50, 6, 513), (50, 6, 514), (50, 6, 515), (50, 6, 516), (50, 24, 517)]
theorem poL_q (d t : Nat) (h : AH) : am_C PG (d + 1) 46 [.ref t] h = am_kd h t 6 (xbR t 6 (fun h26 => am_let (nObj h26 5) fun h27 => am_kd h27 (hNX h26) 5 (bV (am_C PG d 41 [.ref (hNX h26)] h27) fun h28 => am_kd h28 t 6 (am_let (sFR h28 518 t (some (hNX h26))) fun h29 => am_let (nObj h29 8) fun h30 => am_kd h30 (hNX h29) 8 (bV (am_C PG d 106 [.ref (hNX h29)] h30) fun h31 => am_kd h31 t 6 (am_let (sFR h31 519 t (some (hNX h29))) fun h32 => some (none, h32)))))) poL h) := q_X5_init d t h
theorem n_Post {d n : Nat} {h : AH} (hn : hNX h = n) : ∃ g, am_C PG (d + 3) 46 [.ref n] (nObj h 6) = some (none, g) ∧ hNX g = n + 26 ∧ (∀ x, (x < n ∨ n + 26 ≤ x) → Sa h g x) ∧ PoSh g n ∧ (∀ x, 2 ≤ x → x ≤ 13 → hAI g (n + x) = fun _ => 0) ∧ (∀ k, hFI g k n = 0) ∧ hFI g 401 (n + 14) = nI 3 ∧ hAI g (n + 15) 0 = -1 ∧ hAI g (n + 15) 1 = -2 ∧ hAI g (n + 15) 2 = -10 ∧ (∀ x, 1 ≤ x → x ≤ 8 → hAI g (n + 17 + x) = fun _ => 0) ∧ ∀ k, hFI g k (n + 17) = 0 := by
  have kt : hK (nObj h 6) n = 6 := by rw [← hn]; exact nObj_k h 6
  have nn : hNX (nObj h 6) = n + 1 := by rw [nObj_n, hn]
  have lt : n < hNX (nObj h 6) := by omega
  have ll : poL.length = 13 := rfl
  have N := xb_new n poL (nObj h 6) lt (by decide)
  rw [nn] at N
  have T := xb_t n poL (nObj h 6) lt
  have fr : ∀ x, (x < n ∨ n + 14 ≤ x) → Sa h (xbl n poL (nObj h 6)) x := fun x e => (nObj_sa h 6 (by omega)).tr (xb_sa _ poL _ x (by omega) (by omega))
  have ex : hNX (xbl n poL (nObj h 6)) = n + 14 := by rw [xb_NX, nn, ll]
  have k6 : hK (xbl n poL (nObj h 6)) n = 6 := T.1.trans kt
  have fz : ∀ k, hFI (xbl n poL (nObj h 6)) k n = 0 := fun k => (T.2.2.1 k).trans (by rw [← hn]; exact nObj_f h 6 k)
  have q0 : am_C PG (d + 3) 46 [.ref n] (nObj h 6) = _ := poL_q (d + 2) n (nObj h 6)
  rw [am_kd_t kt, xbR_e poL _ kt lt (by decide)] at q0
  generalize xbl n poL (nObj h 6) = y at fr ex k6 fz q0 N
  -- the law
  obtain ⟨g1, c1, x1, f1, s1, v1, v2, v3, v4⟩ := n_Law (d := d) ex
  have t1 : hK g1 n = 6 := (f1 n (by omega)).1.trans k6
  rw [n_fld ex t1 c1] at q0
  obtain ⟨y2, e2⟩ : ∃ y2, sFR g1 518 n (some (n + 14)) = y2 := ⟨_, rfl⟩
  have x2 : hNX y2 = n + 17 := by rw [← e2, rd_hNX_sFR]; exact x1
  have a2 : ∀ x, x ≠ n → Sa g1 y2 x := fun x e => by rw [← e2]; exact sFR_sa _ _ _ _ e
  have r2 : hFR y2 518 n = some (n + 14) := by rw [← e2, sFR_at]
  have r2o : ∀ k, k ≠ 518 → hFR y2 k n = hFR g1 k n := fun k e => by rw [← e2, sFR_o _ _ (Or.inl e)]
  have t2 : hK y2 n = 6 := by rw [← e2, rd_hK_sFR]; exact t1
  have z2 : ∀ k, hFI y2 k n = hFI g1 k n := fun k => by rw [← e2, rd_hFI_sFR]
  rw [e2] at q0
  -- the State
  obtain ⟨g3, c3, x3, f3, s3, w3, z3⟩ := n_State (d := d + 1) x2
  have t3 : hK g3 n = 6 := (f3 n (by omega)).1.trans t2
  rw [n_fld x2 t3 c3] at q0
  have a4 : ∀ x, x ≠ n → Sa g3 (sFR g3 519 n (some (n + 17))) x := fun x e => sFR_sa _ _ _ _ e
  have b : ∀ x, x ≠ n → x < n + 14 → Sa y (sFR g3 519 n (some (n + 17))) x := fun x e1 e2 => (((f1 x (by omega)).tr (a2 x e1)).tr (f3 x (by omega))).tr (a4 x e1)
  have b1 : ∀ x, n + 14 ≤ x → x < n + 17 → Sa g1 (sFR g3 519 n (some (n + 17))) x := fun x e1 e2 => ((a2 x (by omega)).tr (f3 x (by omega))).tr (a4 x (by omega))
  have fR : ∀ k, k ≠ 518 → k ≠ 519 → hFR (sFR g3 519 n (some (n + 17))) k n = hFR y k n := fun k e1 e2 => by
    rw [sFR_o _ _ (Or.inl e2), (f3 n (by omega)).2.2.2.2.2.2.2 k, r2o k e1, (f1 n (by omega)).2.2.2.2.2.2.2 k]
  refine ⟨_, q0, ?_, fun x e => (fr x (by omega)).tr ((((f1 x (by omega)).tr (a2 x (by omega))).tr (f3 x (by omega))).tr (a4 x (by omega))), ⟨?_, LwSh.sa (fun x h1 h2 => b1 x h1 (by omega)) s1, StSh.sa (fun x h1 h2 => a4 x (by omega)) s3⟩, fun x h1 h2 => ?_, fun k => ?_, ?_, ?_, ?_, ?_, fun x h1 h2 => ?_, fun k => ?_⟩
  · rw [rd_hNX_sFR]; omega
  · refine ⟨by rw [rd_hK_sFR]; exact t3, (fR _ (by decide) (by decide)).trans (N 0 (by decide)).2.2.1, (fR _ (by decide) (by decide)).trans (N 1 (by decide)).2.2.1, (fR _ (by decide) (by decide)).trans (N 2 (by decide)).2.2.1, (fR _ (by decide) (by decide)).trans (N 3 (by decide)).2.2.1, (fR _ (by decide) (by decide)).trans (N 4 (by decide)).2.2.1, (fR _ (by decide) (by decide)).trans (N 5 (by decide)).2.2.1, (fR _ (by decide) (by decide)).trans (N 6 (by decide)).2.2.1, (fR _ (by decide) (by decide)).trans (N 7 (by decide)).2.2.1, (fR _ (by decide) (by decide)).trans (N 8 (by decide)).2.2.1, (fR _ (by decide) (by decide)).trans (N 9 (by decide)).2.2.1, (fR _ (by decide) (by decide)).trans (N 10 (by decide)).2.2.1, (fR _ (by decide) (by decide)).trans (N 11 (by decide)).2.2.1, (fR _ (by decide) (by decide)).trans (N 12 (by decide)).2.2.1, ?_, ?_, (b _ (by omega) (by omega)).1.trans (N 0 (by decide)).1, (b _ (by omega) (by omega)).1.trans (N 1 (by decide)).1, (b _ (by omega) (by omega)).1.trans (N 2 (by decide)).1, (b _ (by omega) (by omega)).1.trans (N 3 (by decide)).1, (b _ (by omega) (by omega)).1.trans (N 4 (by decide)).1, (b _ (by omega) (by omega)).1.trans (N 5 (by decide)).1, (b _ (by omega) (by omega)).1.trans (N 6 (by decide)).1, (b _ (by omega) (by omega)).1.trans (N 7 (by decide)).1, (b _ (by omega) (by omega)).1.trans (N 8 (by decide)).1, (b _ (by omega) (by omega)).1.trans (N 9 (by decide)).1, (b _ (by omega) (by omega)).1.trans (N 10 (by decide)).1, (b _ (by omega) (by omega)).1.trans (N 11 (by decide)).1, (b _ (by omega) (by omega)).1.trans (N 12 (by decide)).1, (b _ (by omega) (by omega)).2.1.trans (N 0 (by decide)).2.1, (b _ (by omega) (by omega)).2.1.trans (N 1 (by decide)).2.1, (b _ (by omega) (by omega)).2.1.trans (N 2 (by decide)).2.1, (b _ (by omega) (by omega)).2.1.trans (N 3 (by decide)).2.1, (b _ (by omega) (by omega)).2.1.trans (N 4 (by decide)).2.1, (b _ (by omega) (by omega)).2.1.trans (N 5 (by decide)).2.1, (b _ (by omega) (by omega)).2.1.trans (N 6 (by decide)).2.1, (b _ (by omega) (by omega)).2.1.trans (N 7 (by decide)).2.1, (b _ (by omega) (by omega)).2.1.trans (N 8 (by decide)).2.1, (b _ (by omega) (by omega)).2.1.trans (N 9 (by decide)).2.1, (b _ (by omega) (by omega)).2.1.trans (N 10 (by decide)).2.1, (b _ (by omega) (by omega)).2.1.trans (N 11 (by decide)).2.1, (b _ (by omega) (by omega)).2.1.trans (N 12 (by decide)).2.1⟩
    · rw [sFR_o _ _ (Or.inl (by decide)), (f3 n (by omega)).2.2.2.2.2.2.2 _, r2]
    · rw [sFR_at]
  · have z := (N (x - 1) (by omega)).2.2.2.1
    rw [show n + 1 + (x - 1) = n + x by omega] at z
    rw [(b (n + x) (by omega) (by omega)).2.2.1, z]
  · rw [rd_hFI_sFR, (f3 n (by omega)).2.2.2.2.2.1 k, z2 k, (f1 n (by omega)).2.2.2.2.2.1 k]
    exact fz k
  · rw [(b1 (n + 14) (by omega) (by omega)).2.2.2.2.2.1]; exact v1
  · rw [(b1 (n + 15) (by omega) (by omega)).2.2.1]; exact v2
  · rw [(b1 (n + 15) (by omega) (by omega)).2.2.1]; exact v3
  · rw [(b1 (n + 15) (by omega) (by omega)).2.2.1]; exact v4
  · rw [(a4 _ (by omega)).2.2.1]; exact w3 x h1 h2
  · rw [(a4 _ (by omega)).2.2.2.2.2.1]; exact z3 k
theorem n_Store {d n : Nat} {h : AH} (hn : hNX h = n) : ∃ g, am_C PG (d + 2) 109 [.ref n] (nObj h 9) = some (none, g) ∧ hNX g = n + 20 ∧ (∀ x, (x < n ∨ n + 20 ≤ x) → Sa h g x) ∧ StoSh g n ∧ (∀ x, 1 ≤ x → x ≤ 8 → hAI g (n + 1 + x) = fun _ => 0) ∧ (∀ k, hFI g k (n + 1) = 0) ∧ (∀ k, hFI g k (n + 10) = 0) ∧ ∀ k, hFI g k (n + 15) = 0 := by
  have k0 : hK (nObj h 9) n = 9 := by rw [← hn]; exact nObj_k h 9
  have x0 : hNX (nObj h 9) = n + 1 := by rw [nObj_n, hn]
  have f0 : ∀ x, x ≠ n → Sa h (nObj h 9) x := fun x e => nObj_sa h 9 (by omega)
  have q0 : am_C PG (d + 2) 109 [.ref n] (nObj h 9) = _ := q_X8_init (d + 1) n (nObj h 9)
  rw [am_kd_t k0] at q0
  obtain ⟨g1, c1, x1, f1, s1, w1, z1⟩ := n_State (d := d) x0
  have t1 : hK g1 n = 9 := (f1 n (by omega)).1.trans k0
  rw [n_fld x0 t1 c1] at q0
  obtain ⟨y1, e1⟩ : ∃ y1, sFR g1 800 n (some (n + 1)) = y1 := ⟨_, rfl⟩
  have y1x : hNX y1 = n + 10 := by rw [← e1, rd_hNX_sFR]; exact x1
  have y1a : ∀ x, x ≠ n → Sa g1 y1 x := fun x e => by rw [← e1]; exact sFR_sa _ _ _ _ e
  have y1k : hK y1 n = 9 := by rw [← e1, rd_hK_sFR]; exact t1
  have y1r : hFR y1 800 n = some (n + 1) := by rw [← e1, sFR_at]
  rw [e1] at q0
  obtain ⟨g2, c2, x2, f2, s2, w2, z2⟩ := n_Days (d := d) y1x
  have t2 : hK g2 n = 9 := (f2 n (by omega)).1.trans y1k
  rw [n_fld y1x t2 c2] at q0
  obtain ⟨y2, e2⟩ : ∃ y2, sFR g2 801 n (some (n + 10)) = y2 := ⟨_, rfl⟩
  have y2x : hNX y2 = n + 15 := by rw [← e2, rd_hNX_sFR]; exact x2
  have y2a : ∀ x, x ≠ n → Sa g2 y2 x := fun x e => by rw [← e2]; exact sFR_sa _ _ _ _ e
  have y2k : hK y2 n = 9 := by rw [← e2, rd_hK_sFR]; exact t2
  have y2r : hFR y2 801 n = some (n + 10) := by rw [← e2, sFR_at]
  have y2r' : hFR y2 800 n = some (n + 1) := by rw [← e2, sFR_o _ _ (Or.inl (by decide)), (f2 n (by omega)).2.2.2.2.2.2.2 _, y1r]
  rw [e2] at q0
  obtain ⟨g3, c3, x3, f3, s3, w3, z3⟩ := n_Heard (d := d) y2x
  have t3 : hK g3 n = 9 := (f3 n (by omega)).1.trans y2k
  rw [n_fld y2x t3 c3] at q0
  have a4 : ∀ x, x ≠ n → Sa g3 (sFR g3 802 n (some (n + 15))) x := fun x e => sFR_sa _ _ _ _ e
  have b1 : ∀ x, n + 1 ≤ x → x < n + 10 → Sa g1 (sFR g3 802 n (some (n + 15))) x := fun x h1 h2 => (((y1a x (by omega)).tr (f2 x (by omega))).tr ((y2a x (by omega)).tr (f3 x (by omega)))).tr (a4 x (by omega))
  have b2 : ∀ x, n + 10 ≤ x → x < n + 15 → Sa g2 (sFR g3 802 n (some (n + 15))) x := fun x h1 h2 => ((y2a x (by omega)).tr (f3 x (by omega))).tr (a4 x (by omega))
  refine ⟨_, q0, ?_, fun x e => (((f0 x (by omega)).tr ((f1 x (by omega)).tr (y1a x (by omega)))).tr ((f2 x (by omega)).tr (y2a x (by omega)))).tr ((f3 x (by omega)).tr (a4 x (by omega))), ⟨by rw [rd_hK_sFR]; exact t3, ?_, ?_, by rw [sFR_at], StSh.sa (fun x h1 h2 => b1 x h1 (by omega)) s1, DaSh.sa (fun x h1 h2 => b2 x h1 (by omega)) s2, HeSh.sa (fun x h1 h2 => a4 x (by omega)) s3⟩, fun x h1 h2 => ?_, fun k => ?_, fun k => ?_, fun k => ?_⟩
  · rw [rd_hNX_sFR]; omega
  · rw [sFR_o _ _ (Or.inl (by decide)), (f3 n (by omega)).2.2.2.2.2.2.2 _, y2r']
  · rw [sFR_o _ _ (Or.inl (by decide)), (f3 n (by omega)).2.2.2.2.2.2.2 _, y2r]
  · rw [(b1 _ (by omega) (by omega)).2.2.1]; exact w1 x h1 h2
  · rw [(b1 _ (by omega) (by omega)).2.2.2.2.2.1]; exact z1 k
  · rw [(b2 _ (by omega) (by omega)).2.2.2.2.2.1]; exact z2 k
  · rw [(a4 _ (by omega)).2.2.2.2.2.1]; exact z3 k
