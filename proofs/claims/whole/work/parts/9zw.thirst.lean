/-! ThirstHours' constructor. -/
theorem sER_at (h : AH) (a i : Nat) (v : Option Nat) : hAR (sER h a i v) a = am_up (hAR h a) i v := am_up_eq
/-- the four marks -/
theorem x_marks {d : Nat} : ∀ (k j : Nat) (H : AH), j + k = 4 → hNX H = 124 + 20 * j → hK H 0 = 12 → hFR H 1106 0 = some 81 → hK H 81 = 55 → hLN H 81 = 4 → (∀ i, i < j → hAR H 81 i = some (124 + 20 * i) ∧ StoSh H (124 + 20 * i)) →
    ∃ G, am_R PG (d + 4) 124 137 [some (.ref 0), some (.int (nI j))] [] H = am_R PG (d + 4) 124 163 [some (.ref 0), some (.int (0 : Int32))] [] G ∧ hNX G = 204 ∧ (∀ i, i < 4 → hAR G 81 i = some (124 + 20 * i) ∧ StoSh G (124 + 20 * i)) ∧ (∀ x, x ≠ 81 → (x < 124 + 20 * j ∨ 204 ≤ x) → Sa H G x) ∧ hK G 81 = 55 ∧ hLN G 81 = 4
  | 0, j, H, hj, hn, h0, h1, h2, h3, h4 => by
    have j4 : j = 4 := by omega
    subst j4
    refine ⟨H, ?_, hn, h4, fun x _ _ => Sa.rfl' H x, h2, h3⟩
    rw [q_X11_init_137, if_neg (show ¬ nI 4 < (4 : Int32) by decide)]
  | k + 1, j, H, hj, hn, h0, h1, h2, h3, h4 => by
    have lt : nI j < (4 : Int32) := nI_lt (b := 4) (by omega) (by decide)
    have im : ∀ x, am_in (nI j) 4 x = x := am_inN (by omega) (by decide)
    have tm : Int32.toNatClampNeg (nI j) = j := nI_clamp (by omega)
    obtain ⟨g, c, gx, fr, s, -⟩ := n_Store (d := d + 1) hn
    have g9 : hK g (124 + 20 * j) = 9 := s.1
    have g81 := fr 81 (by omega)
    have k81 : hK g 81 = 55 := g81.1.trans h2
    have l81 : hLN g 81 = 4 := g81.2.1.trans h3
    obtain ⟨G, eG⟩ : ∃ G, sER g 81 j (some (124 + 20 * j)) = G := ⟨_, rfl⟩
    have sG : ∀ x, x ≠ 81 → Sa g G x := fun x e => by rw [← eG]; exact sER_sa _ _ _ _ e
    have nG : hNX G = 124 + 20 * (j + 1) := by rw [← eG, rd_hNX_sER, gx]; omega
    have aG : hAR G 81 = am_up (hAR g 81) j (some (124 + 20 * j)) := by rw [← eG, sER_at]
    have kG : hK G 81 = 55 := by rw [← eG, rd_hK_sER]; exact k81
    have lG : hLN G 81 = 4 := by rw [← eG, rd_hLN_sER]; exact l81
    have fG : ∀ x, x ≠ 81 → (x < 124 + 20 * j ∨ 124 + 20 * (j + 1) ≤ x) → Sa H G x := fun x e e2 => (fr x (by omega)).tr (sG x e)
    obtain ⟨G', r1, r2, r3, r4, r5, r6⟩ := x_marks (d := d) k (j + 1) G (by omega) nG ((fG 0 (by decide) (by omega)).1.trans h0) (((fG 0 (by decide) (by omega)).2.2.2.2.2.2.2 _).trans h1) kG lG (fun i hi => by
      by_cases e : i = j
      · subst e
        exact ⟨by rw [aG]; exact am_up_eq, StoSh.sa (fun x x1 x2 => sG x (by omega)) s⟩
      · exact ⟨by rw [aG, am_up_ne e, g81.2.2.2.2.1]; exact (h4 i (by omega)).1, StoSh.sa (fun x x1 x2 => fG x (by omega) (by omega)) (h4 i (by omega)).2⟩)
    refine ⟨G', ?_, r2, r3, fun x e e2 => (fG x e (by omega)).tr (r4 x e (by omega)), r5, r6⟩
    rw [← r1, q_X11_init_137, if_pos lt, am_kd_t h0, h1, bR_s, am_let_e, am_kd_t (nObj_k H 9), hn, c, bV_s, am_kd_t k81, am_kd_t g9, l81, im, am_let_e, tm, eG, nI_1]
/-- the sixteen States of undo -/
theorem x_undos {d : Nat} : ∀ (k j : Nat) (H : AH), j + k = 16 → hNX H = 204 + 9 * j → hK H 0 = 12 → hFR H 1108 0 = some 83 → hK H 83 = 54 → hLN H 83 = 16 → (∀ i, i < j → hAR H 83 i = some (204 + 9 * i) ∧ StSh H (204 + 9 * i)) →
    ∃ G, am_R PG (d + 4) 124 163 [some (.ref 0), some (.int (nI j))] [] H = some (none, G) ∧ hNX G = 348 ∧ (∀ i, i < 16 → hAR G 83 i = some (204 + 9 * i) ∧ StSh G (204 + 9 * i)) ∧ (∀ x, x ≠ 83 → (x < 204 + 9 * j ∨ 348 ≤ x) → Sa H G x) ∧ hK G 83 = 54 ∧ hLN G 83 = 16
  | 0, j, H, hj, hn, h0, h1, h2, h3, h4 => by
    have j4 : j = 16 := by omega
    subst j4
    refine ⟨H, ?_, hn, h4, fun x _ _ => Sa.rfl' H x, h2, h3⟩
    rw [q_X11_init_163, if_neg (show ¬ nI 16 < (16 : Int32) by decide)]
  | k + 1, j, H, hj, hn, h0, h1, h2, h3, h4 => by
    have lt : nI j < (16 : Int32) := nI_lt (b := 16) (by omega) (by decide)
    have im : ∀ x, am_in (nI j) 16 x = x := am_inN (by omega) (by decide)
    have tm : Int32.toNatClampNeg (nI j) = j := nI_clamp (by omega)
    obtain ⟨g, c, gx, fr, s, -⟩ := n_State (d := d + 2) hn
    have g9 : hK g (204 + 9 * j) = 8 := s.1
    have g81 := fr 83 (by omega)
    have k81 : hK g 83 = 54 := g81.1.trans h2
    have l81 : hLN g 83 = 16 := g81.2.1.trans h3
    obtain ⟨G, eG⟩ : ∃ G, sER g 83 j (some (204 + 9 * j)) = G := ⟨_, rfl⟩
    have sG : ∀ x, x ≠ 83 → Sa g G x := fun x e => by rw [← eG]; exact sER_sa _ _ _ _ e
    have nG : hNX G = 204 + 9 * (j + 1) := by rw [← eG, rd_hNX_sER, gx]; omega
    have aG : hAR G 83 = am_up (hAR g 83) j (some (204 + 9 * j)) := by rw [← eG, sER_at]
    have kG : hK G 83 = 54 := by rw [← eG, rd_hK_sER]; exact k81
    have lG : hLN G 83 = 16 := by rw [← eG, rd_hLN_sER]; exact l81
    have fG : ∀ x, x ≠ 83 → (x < 204 + 9 * j ∨ 204 + 9 * (j + 1) ≤ x) → Sa H G x := fun x e e2 => (fr x (by omega)).tr (sG x e)
    obtain ⟨G', r1, r2, r3, r4, r5, r6⟩ := x_undos (d := d) k (j + 1) G (by omega) nG ((fG 0 (by decide) (by omega)).1.trans h0) (((fG 0 (by decide) (by omega)).2.2.2.2.2.2.2 _).trans h1) kG lG (fun i hi => by
      by_cases e : i = j
      · subst e
        exact ⟨by rw [aG]; exact am_up_eq, StSh.sa (fun x x1 x2 => sG x (by omega)) s⟩
      · exact ⟨by rw [aG, am_up_ne e, g81.2.2.2.2.1]; exact (h4 i (by omega)).1, StSh.sa (fun x x1 x2 => fG x (by omega) (by omega)) (h4 i (by omega)).2⟩)
    refine ⟨G', ?_, r2, r3, fun x e e2 => (fG x e (by omega)).tr (r4 x e (by omega)), r5, r6⟩
    rw [← r1, q_X11_init_163, if_pos lt, am_kd_t h0, h1, bR_s, am_let_e, am_kd_t (nObj_k H 8), hn, c, bV_s, am_kd_t k81, am_kd_t g9, l81, im, am_let_e, tm, eG, nI_1]
def taL : List (Nat × Nat × Nat) := [(51, 1000, 900)]
theorem taL_q (d t : Nat) (h : AH) : am_C PG (d + 1) 111 [.ref t] h = am_kd h t 10 (xbR t 10 (fun h => some (none, h)) taL h) := q_X9_init d t h
theorem n_Tape {d n : Nat} {h : AH} (hn : hNX h = n) : ∃ g, am_C PG (d + 1) 111 [.ref n] (nObj h 10) = some (none, g) ∧ hNX g = n + 2 ∧ (∀ x, (x < n ∨ n + 2 ≤ x) → Sa h g x) ∧ (hK g n = 10 ∧ hFR g 900 n = some (n + 1) ∧ hK g (n + 1) = 51 ∧ hLN g (n + 1) = 1000) ∧ ∀ k, hFI g k n = 0 := by
  have kt : hK (nObj h 10) n = 10 := by rw [← hn]; exact nObj_k h 10
  have nn : hNX (nObj h 10) = n + 1 := by rw [nObj_n, hn]
  have lt : n < hNX (nObj h 10) := by omega
  have ll : taL.length = 1 := rfl
  have N := xb_new n taL (nObj h 10) lt (by decide)
  rw [nn] at N
  have T := xb_t n taL (nObj h 10) lt
  refine ⟨xbl n taL (nObj h 10), ?_, by rw [xb_NX, nn, ll], fun x e => (nObj_sa h 10 (by omega)).tr (xb_sa _ taL _ x (by omega) (by omega)), ⟨T.1.trans kt, (N 0 (by decide)).2.2.1, (N 0 (by decide)).1, (N 0 (by decide)).2.1⟩, fun k => (T.2.2.1 k).trans (by rw [← hn]; exact nObj_f h 10 k)⟩
  rw [taL_q, am_kd_t kt, xbR_e taL _ kt lt (by decide)]
theorem n_Reader {d n a : Nat} {h : AH} (hn : hNX h = n) : ∃ g, am_C PG (d + 1) 75 [.ref n, .ref a] (nObj h 7) = some (none, g) ∧ hNX g = n + 1 ∧ (∀ x, (x < n ∨ n + 1 ≤ x) → Sa h g x) ∧ hK g n = 7 ∧ hFR g 600 n = some a := by
  have kt : hK (nObj h 7) n = 7 := by rw [← hn]; exact nObj_k h 7
  refine ⟨sFR (nObj h 7) 600 n (some a), ?_, by rw [rd_hNX_sFR, nObj_n, hn], fun x e => (nObj_sa h 7 (by omega)).tr (sFR_sa _ _ _ _ (by omega)), by rw [rd_hK_sFR]; exact kt, sFR_at _ _ _ _⟩
  rw [q_X6_init, am_kd_t kt, am_kd_t kt, am_let_e]
/-- what stands behind the constructor -/
def XC (h G : AH) : Prop := hNX G = 348 ∧ (∀ x, 348 ≤ x → Sa h G x) ∧ (∀ k, hFI G k 0 = 0) ∧ hK G 0 = 12 ∧ hFR G 1100 0 = some 1 ∧ hFR G 1101 0 = some 3 ∧ hFR G 1102 0 = some 4 ∧ hFR G 1103 0 = some 30 ∧ hFR G 1104 0 = some 56 ∧ hFR G 1105 0 = some 61 ∧ hFR G 1106 0 = some 81 ∧ hFR G 1107 0 = some 82 ∧ hFR G 1108 0 = some 83 ∧ hFR G 1111 0 = some 84 ∧ hFR G 1112 0 = some 93 ∧ hFR G 1113 0 = some 112 ∧
  (hK G 1 = 10 ∧ hFR G 900 1 = some 2 ∧ hK G 2 = 51 ∧ hLN G 2 = 1000) ∧ (∀ k, hFI G k 1 = 0) ∧ (hK G 3 = 7 ∧ hFR G 600 3 = some 1) ∧ PoSh G 4 ∧ PoSh G 30 ∧ DaSh G 56 ∧ StoSh G 61 ∧ (hK G 81 = 55 ∧ hLN G 81 = 4 ∧ ∀ k, k < 4 → hAR G 81 k = some (124 + 20 * k) ∧ StoSh G (124 + 20 * k)) ∧ (hK G 82 = 52 ∧ hLN G 82 = 4 ∧ hAI G 82 = fun _ => 0) ∧ (hK G 83 = 54 ∧ hLN G 83 = 16 ∧ ∀ j, j < 16 → hAR G 83 j = some (204 + 9 * j) ∧ StSh G (204 + 9 * j)) ∧ StSh G 84 ∧ (AhSh G 93 94 ∧ hFR G 1 93 = some 103 ∧ StSh G 103) ∧ ChoSh G ∧
  ((∀ x, 2 ≤ x → x ≤ 13 → hAI G (4 + x) = fun _ => 0) ∧ (∀ k, hFI G k 4 = 0) ∧ hFI G 401 18 = nI 3 ∧ hAI G 19 0 = -1 ∧ hAI G 19 1 = -2 ∧ hAI G 19 2 = -10) ∧ ((∀ x, 1 ≤ x → x ≤ 8 → hAI G (21 + x) = fun _ => 0) ∧ ∀ k, hFI G k 21 = 0) ∧ ((∀ x, 1 ≤ x → x ≤ 8 → hAI G (47 + x) = fun _ => 0) ∧ ∀ k, hFI G k 47 = 0) ∧ ((∀ x, 1 ≤ x → x ≤ 8 → hAI G (62 + x) = fun _ => 0) ∧ (∀ k, hFI G k 62 = 0) ∧ (∀ k, hFI G k 71 = 0) ∧ ∀ k, hFI G k 76 = 0)
theorem n_Thirst {d : Nat} {h : AH} (hn : hNX h = 0) : ∃ G, am_C PG (d + 4) 124 [.ref 0] (nObj h 12) = some (none, G) ∧ XC h G := by
  have k0 : hK (nObj h 12) 0 = 12 := by rw [← hn]; exact nObj_k h 12
  have i0 : ∀ k, hFI (nObj h 12) k 0 = 0 := fun k => by rw [← hn]; exact nObj_f h 12 k
  have x0 : hNX (nObj h 12) = 1 := by rw [nObj_n, hn]
  have f0 : ∀ x, x ≠ 0 → Sa h (nObj h 12) x := fun x e => nObj_sa h 12 (by omega)
  have q0 : am_C PG (d + 4) 124 [.ref 0] (nObj h 12) = _ := q_X11_init (d + 3) 0 (nObj h 12)
  rw [am_kd_t k0] at q0
  generalize nObj h 12 = H0 at k0 i0 x0 f0 q0
  -- field 1100
  obtain ⟨g1, c1, n1, fr1, s1100, z1100⟩ := n_Tape (d := d + 2) x0
  have t1 : hK g1 0 = 12 := (fr1 0 (by omega)).1.trans k0
  rw [n_fld x0 t1 c1] at q0
  obtain ⟨H1, eH1, ⟨x1, ka1, ia1, e1100_1, o1, sa1⟩, sg1⟩ := Zk.of (f := 1100) (n := 1) (m := 3) (H := H0) n1 (by decide) fr1
  rw [eH1] at q0
  have k1 : hK H1 0 = 12 := ka1.trans k0
  have i1 : ∀ k, hFI H1 k 0 = 0 := fun k => (ia1 k).trans (i0 k)
  -- field 1101
  obtain ⟨g2, c2, n2, fr2, s1101, r1101⟩ := n_Reader (d := d + 2) (a := 1) x1
  have t2 : hK g2 0 = 12 := (fr2 0 (by omega)).1.trans k1
  rw [n_fldA x1 k1 (by decide) e1100_1 t2 c2] at q0
  obtain ⟨H2, eH2, ⟨x2, ka2, ia2, e1101_2, o2, sa2⟩, sg2⟩ := Zk.of (f := 1101) (n := 3) (m := 4) (H := H1) n2 (by decide) fr2
  rw [eH2] at q0
  have k2 : hK H2 0 = 12 := ka2.trans k1
  have i2 : ∀ k, hFI H2 k 0 = 0 := fun k => (ia2 k).trans (i1 k)
  have e1100_2 : hFR H2 1100 0 = some 1 := (o2 1100 (by decide)).trans e1100_1
  -- field 1102
  obtain ⟨g3, c3, n3, fr3, s1102, w1102, z1102, u1, u2, u3, u4, v1102, y1102⟩ := n_Post (d := d) x2
  have t3 : hK g3 0 = 12 := (fr3 0 (by omega)).1.trans k2
  rw [n_fld x2 t3 c3] at q0
  obtain ⟨H3, eH3, ⟨x3, ka3, ia3, e1102_3, o3, sa3⟩, sg3⟩ := Zk.of (f := 1102) (n := 4) (m := 30) (H := H2) n3 (by decide) fr3
  rw [eH3] at q0
  have k3 : hK H3 0 = 12 := ka3.trans k2
  have i3 : ∀ k, hFI H3 k 0 = 0 := fun k => (ia3 k).trans (i2 k)
  have e1100_3 : hFR H3 1100 0 = some 1 := (o3 1100 (by decide)).trans e1100_2
  have e1101_3 : hFR H3 1101 0 = some 3 := (o3 1101 (by decide)).trans e1101_2
  -- field 1103
  obtain ⟨g4, c4, n4, fr4, s1103, w1103, z1103, -, -, -, -, v1103, y1103⟩ := n_Post (d := d) x3
  have t4 : hK g4 0 = 12 := (fr4 0 (by omega)).1.trans k3
  rw [n_fld x3 t4 c4] at q0
  obtain ⟨H4, eH4, ⟨x4, ka4, ia4, e1103_4, o4, sa4⟩, sg4⟩ := Zk.of (f := 1103) (n := 30) (m := 56) (H := H3) n4 (by decide) fr4
  rw [eH4] at q0
  have k4 : hK H4 0 = 12 := ka4.trans k3
  have i4 : ∀ k, hFI H4 k 0 = 0 := fun k => (ia4 k).trans (i3 k)
  have e1100_4 : hFR H4 1100 0 = some 1 := (o4 1100 (by decide)).trans e1100_3
  have e1101_4 : hFR H4 1101 0 = some 3 := (o4 1101 (by decide)).trans e1101_3
  have e1102_4 : hFR H4 1102 0 = some 4 := (o4 1102 (by decide)).trans e1102_3
  -- field 1104
  obtain ⟨g5, c5, n5, fr5, s1104, -, -⟩ := n_Days (d := d + 2) x4
  have t5 : hK g5 0 = 12 := (fr5 0 (by omega)).1.trans k4
  rw [n_fld x4 t5 c5] at q0
  obtain ⟨H5, eH5, ⟨x5, ka5, ia5, e1104_5, o5, sa5⟩, sg5⟩ := Zk.of (f := 1104) (n := 56) (m := 61) (H := H4) n5 (by decide) fr5
  rw [eH5] at q0
  have k5 : hK H5 0 = 12 := ka5.trans k4
  have i5 : ∀ k, hFI H5 k 0 = 0 := fun k => (ia5 k).trans (i4 k)
  have e1100_5 : hFR H5 1100 0 = some 1 := (o5 1100 (by decide)).trans e1100_4
  have e1101_5 : hFR H5 1101 0 = some 3 := (o5 1101 (by decide)).trans e1101_4
  have e1102_5 : hFR H5 1102 0 = some 4 := (o5 1102 (by decide)).trans e1102_4
  have e1103_5 : hFR H5 1103 0 = some 30 := (o5 1103 (by decide)).trans e1103_4
  -- field 1105
  obtain ⟨g6, c6, n6, fr6, s1105, w1105, z1105, za1105, zb1105⟩ := n_Store (d := d + 1) x5
  have t6 : hK g6 0 = 12 := (fr6 0 (by omega)).1.trans k5
  rw [n_fld x5 t6 c6] at q0
  obtain ⟨H6, eH6, ⟨x6, ka6, ia6, e1105_6, o6, sa6⟩, sg6⟩ := Zk.of (f := 1105) (n := 61) (m := 81) (H := H5) n6 (by decide) fr6
  rw [eH6] at q0
  have k6 : hK H6 0 = 12 := ka6.trans k5
  have i6 : ∀ k, hFI H6 k 0 = 0 := fun k => (ia6 k).trans (i5 k)
  have e1100_6 : hFR H6 1100 0 = some 1 := (o6 1100 (by decide)).trans e1100_5
  have e1101_6 : hFR H6 1101 0 = some 3 := (o6 1101 (by decide)).trans e1101_5
  have e1102_6 : hFR H6 1102 0 = some 4 := (o6 1102 (by decide)).trans e1102_5
  have e1103_6 : hFR H6 1103 0 = some 30 := (o6 1103 (by decide)).trans e1103_5
  have e1104_6 : hFR H6 1104 0 = some 56 := (o6 1104 (by decide)).trans e1104_5
  -- field 1106
  rw [n_arr (f := 1106) (n := 81) (N := 4) (v := (4 : Int32)) x6 k6 (by decide) rfl (by decide)] at q0
  have fr7 : ∀ x, (x < 81 ∨ 82 ≤ x) → Sa H6 (nArr H6 55 4) x := fun x e => nArr_sa _ _ _ (by omega)
  have b1106 : hK (nArr H6 55 4) 81 = 55 ∧ hLN (nArr H6 55 4) 81 = 4 ∧ hAI (nArr H6 55 4) 81 = fun _ => 0 := by rw [← x6]; exact ⟨nArr_k _ _ _, nArr_l _ _ _, nArr_i _ _ _⟩
  obtain ⟨H7, eH7, ⟨x7, ka7, ia7, e1106_7, o7, sa7⟩, sg7⟩ := Zk.of (f := 1106) (n := 81) (m := 82) (H := H6) (g := nArr H6 55 4) (by rw [nArr_n, x6]) (by decide) fr7
  rw [eH7] at q0
  have k7 : hK H7 0 = 12 := ka7.trans k6
  have i7 : ∀ k, hFI H7 k 0 = 0 := fun k => (ia7 k).trans (i6 k)
  have e1100_7 : hFR H7 1100 0 = some 1 := (o7 1100 (by decide)).trans e1100_6
  have e1101_7 : hFR H7 1101 0 = some 3 := (o7 1101 (by decide)).trans e1101_6
  have e1102_7 : hFR H7 1102 0 = some 4 := (o7 1102 (by decide)).trans e1102_6
  have e1103_7 : hFR H7 1103 0 = some 30 := (o7 1103 (by decide)).trans e1103_6
  have e1104_7 : hFR H7 1104 0 = some 56 := (o7 1104 (by decide)).trans e1104_6
  have e1105_7 : hFR H7 1105 0 = some 61 := (o7 1105 (by decide)).trans e1105_6
  -- field 1107
  rw [n_arr (f := 1107) (n := 82) (N := 4) (v := (4 : Int32)) x7 k7 (by decide) rfl (by decide)] at q0
  have fr8 : ∀ x, (x < 82 ∨ 83 ≤ x) → Sa H7 (nArr H7 52 4) x := fun x e => nArr_sa _ _ _ (by omega)
  have b1107 : hK (nArr H7 52 4) 82 = 52 ∧ hLN (nArr H7 52 4) 82 = 4 ∧ hAI (nArr H7 52 4) 82 = fun _ => 0 := by rw [← x7]; exact ⟨nArr_k _ _ _, nArr_l _ _ _, nArr_i _ _ _⟩
  obtain ⟨H8, eH8, ⟨x8, ka8, ia8, e1107_8, o8, sa8⟩, sg8⟩ := Zk.of (f := 1107) (n := 82) (m := 83) (H := H7) (g := nArr H7 52 4) (by rw [nArr_n, x7]) (by decide) fr8
  rw [eH8] at q0
  have k8 : hK H8 0 = 12 := ka8.trans k7
  have i8 : ∀ k, hFI H8 k 0 = 0 := fun k => (ia8 k).trans (i7 k)
  have e1100_8 : hFR H8 1100 0 = some 1 := (o8 1100 (by decide)).trans e1100_7
  have e1101_8 : hFR H8 1101 0 = some 3 := (o8 1101 (by decide)).trans e1101_7
  have e1102_8 : hFR H8 1102 0 = some 4 := (o8 1102 (by decide)).trans e1102_7
  have e1103_8 : hFR H8 1103 0 = some 30 := (o8 1103 (by decide)).trans e1103_7
  have e1104_8 : hFR H8 1104 0 = some 56 := (o8 1104 (by decide)).trans e1104_7
  have e1105_8 : hFR H8 1105 0 = some 61 := (o8 1105 (by decide)).trans e1105_7
  have e1106_8 : hFR H8 1106 0 = some 81 := (o8 1106 (by decide)).trans e1106_7
  -- field 1108
  rw [n_arr (f := 1108) (n := 83) (N := 16) (v := (16 : Int32)) x8 k8 (by decide) rfl (by decide)] at q0
  have fr9 : ∀ x, (x < 83 ∨ 84 ≤ x) → Sa H8 (nArr H8 54 16) x := fun x e => nArr_sa _ _ _ (by omega)
  have b1108 : hK (nArr H8 54 16) 83 = 54 ∧ hLN (nArr H8 54 16) 83 = 16 ∧ hAI (nArr H8 54 16) 83 = fun _ => 0 := by rw [← x8]; exact ⟨nArr_k _ _ _, nArr_l _ _ _, nArr_i _ _ _⟩
  obtain ⟨H9, eH9, ⟨x9, ka9, ia9, e1108_9, o9, sa9⟩, sg9⟩ := Zk.of (f := 1108) (n := 83) (m := 84) (H := H8) (g := nArr H8 54 16) (by rw [nArr_n, x8]) (by decide) fr9
  rw [eH9] at q0
  have k9 : hK H9 0 = 12 := ka9.trans k8
  have i9 : ∀ k, hFI H9 k 0 = 0 := fun k => (ia9 k).trans (i8 k)
  have e1100_9 : hFR H9 1100 0 = some 1 := (o9 1100 (by decide)).trans e1100_8
  have e1101_9 : hFR H9 1101 0 = some 3 := (o9 1101 (by decide)).trans e1101_8
  have e1102_9 : hFR H9 1102 0 = some 4 := (o9 1102 (by decide)).trans e1102_8
  have e1103_9 : hFR H9 1103 0 = some 30 := (o9 1103 (by decide)).trans e1103_8
  have e1104_9 : hFR H9 1104 0 = some 56 := (o9 1104 (by decide)).trans e1104_8
  have e1105_9 : hFR H9 1105 0 = some 61 := (o9 1105 (by decide)).trans e1105_8
  have e1106_9 : hFR H9 1106 0 = some 81 := (o9 1106 (by decide)).trans e1106_8
  have e1107_9 : hFR H9 1107 0 = some 82 := (o9 1107 (by decide)).trans e1107_8
  -- field 1111
  obtain ⟨g10, c10, n10, fr10, s1111, -, -⟩ := n_State (d := d + 2) x9
  have t10 : hK g10 0 = 12 := (fr10 0 (by omega)).1.trans k9
  rw [n_fld x9 t10 c10] at q0
  obtain ⟨H10, eH10, ⟨x10, ka10, ia10, e1111_10, o10, sa10⟩, sg10⟩ := Zk.of (f := 1111) (n := 84) (m := 93) (H := H9) n10 (by decide) fr10
  rw [eH10] at q0
  have k10 : hK H10 0 = 12 := ka10.trans k9
  have i10 : ∀ k, hFI H10 k 0 = 0 := fun k => (ia10 k).trans (i9 k)
  have e1100_10 : hFR H10 1100 0 = some 1 := (o10 1100 (by decide)).trans e1100_9
  have e1101_10 : hFR H10 1101 0 = some 3 := (o10 1101 (by decide)).trans e1101_9
  have e1102_10 : hFR H10 1102 0 = some 4 := (o10 1102 (by decide)).trans e1102_9
  have e1103_10 : hFR H10 1103 0 = some 30 := (o10 1103 (by decide)).trans e1103_9
  have e1104_10 : hFR H10 1104 0 = some 56 := (o10 1104 (by decide)).trans e1104_9
  have e1105_10 : hFR H10 1105 0 = some 61 := (o10 1105 (by decide)).trans e1105_9
  have e1106_10 : hFR H10 1106 0 = some 81 := (o10 1106 (by decide)).trans e1106_9
  have e1107_10 : hFR H10 1107 0 = some 82 := (o10 1107 (by decide)).trans e1107_9
  have e1108_10 : hFR H10 1108 0 = some 83 := (o10 1108 (by decide)).trans e1108_9
  -- field 1112
  obtain ⟨g11, c11, n11, fr11, s1112, r1112, t1112⟩ := n_Ahead (d := d + 1) x10
  have t11 : hK g11 0 = 12 := (fr11 0 (by omega)).1.trans k10
  rw [n_fld x10 t11 c11] at q0
  obtain ⟨H11, eH11, ⟨x11, ka11, ia11, e1112_11, o11, sa11⟩, sg11⟩ := Zk.of (f := 1112) (n := 93) (m := 112) (H := H10) n11 (by decide) fr11
  rw [eH11] at q0
  have k11 : hK H11 0 = 12 := ka11.trans k10
  have i11 : ∀ k, hFI H11 k 0 = 0 := fun k => (ia11 k).trans (i10 k)
  have e1100_11 : hFR H11 1100 0 = some 1 := (o11 1100 (by decide)).trans e1100_10
  have e1101_11 : hFR H11 1101 0 = some 3 := (o11 1101 (by decide)).trans e1101_10
  have e1102_11 : hFR H11 1102 0 = some 4 := (o11 1102 (by decide)).trans e1102_10
  have e1103_11 : hFR H11 1103 0 = some 30 := (o11 1103 (by decide)).trans e1103_10
  have e1104_11 : hFR H11 1104 0 = some 56 := (o11 1104 (by decide)).trans e1104_10
  have e1105_11 : hFR H11 1105 0 = some 61 := (o11 1105 (by decide)).trans e1105_10
  have e1106_11 : hFR H11 1106 0 = some 81 := (o11 1106 (by decide)).trans e1106_10
  have e1107_11 : hFR H11 1107 0 = some 82 := (o11 1107 (by decide)).trans e1107_10
  have e1108_11 : hFR H11 1108 0 = some 83 := (o11 1108 (by decide)).trans e1108_10
  have e1111_11 : hFR H11 1111 0 = some 84 := (o11 1111 (by decide)).trans e1111_10
  -- field 1113
  obtain ⟨g12, c12, n12, fr12, s1113⟩ := n_Choice (d := d + 2) x11
  have t12 : hK g12 0 = 12 := (fr12 0 (by omega)).1.trans k11
  rw [n_fldA x11 k11 (by decide) e1112_11 t12 c12] at q0
  obtain ⟨H12, eH12, ⟨x12, ka12, ia12, e1113_12, o12, sa12⟩, sg12⟩ := Zk.of (f := 1113) (n := 112) (m := 124) (H := H11) n12 (by decide) fr12
  rw [eH12] at q0
  have k12 : hK H12 0 = 12 := ka12.trans k11
  have i12 : ∀ k, hFI H12 k 0 = 0 := fun k => (ia12 k).trans (i11 k)
  have e1100_12 : hFR H12 1100 0 = some 1 := (o12 1100 (by decide)).trans e1100_11
  have e1101_12 : hFR H12 1101 0 = some 3 := (o12 1101 (by decide)).trans e1101_11
  have e1102_12 : hFR H12 1102 0 = some 4 := (o12 1102 (by decide)).trans e1102_11
  have e1103_12 : hFR H12 1103 0 = some 30 := (o12 1103 (by decide)).trans e1103_11
  have e1104_12 : hFR H12 1104 0 = some 56 := (o12 1104 (by decide)).trans e1104_11
  have e1105_12 : hFR H12 1105 0 = some 61 := (o12 1105 (by decide)).trans e1105_11
  have e1106_12 : hFR H12 1106 0 = some 81 := (o12 1106 (by decide)).trans e1106_11
  have e1107_12 : hFR H12 1107 0 = some 82 := (o12 1107 (by decide)).trans e1107_11
  have e1108_12 : hFR H12 1108 0 = some 83 := (o12 1108 (by decide)).trans e1108_11
  have e1111_12 : hFR H12 1111 0 = some 84 := (o12 1111 (by decide)).trans e1111_11
  have e1112_12 : hFR H12 1112 0 = some 93 := (o12 1112 (by decide)).trans e1112_11
  have C1100 : ∀ x, x ≠ 0 → x < 3 → Sa (g1) H12 x := fun x h0 h1 => (((((((((((sg1 x (by omega)).tr (sa2 x (by omega) (by omega))).tr (sa3 x (by omega) (by omega))).tr (sa4 x (by omega) (by omega))).tr (sa5 x (by omega) (by omega))).tr (sa6 x (by omega) (by omega))).tr (sa7 x (by omega) (by omega))).tr (sa8 x (by omega) (by omega))).tr (sa9 x (by omega) (by omega))).tr (sa10 x (by omega) (by omega))).tr (sa11 x (by omega) (by omega))).tr (sa12 x (by omega) (by omega))
  have C1101 : ∀ x, x ≠ 0 → x < 4 → Sa (g2) H12 x := fun x h0 h1 => ((((((((((sg2 x (by omega)).tr (sa3 x (by omega) (by omega))).tr (sa4 x (by omega) (by omega))).tr (sa5 x (by omega) (by omega))).tr (sa6 x (by omega) (by omega))).tr (sa7 x (by omega) (by omega))).tr (sa8 x (by omega) (by omega))).tr (sa9 x (by omega) (by omega))).tr (sa10 x (by omega) (by omega))).tr (sa11 x (by omega) (by omega))).tr (sa12 x (by omega) (by omega))
  have C1102 : ∀ x, x ≠ 0 → x < 30 → Sa (g3) H12 x := fun x h0 h1 => (((((((((sg3 x (by omega)).tr (sa4 x (by omega) (by omega))).tr (sa5 x (by omega) (by omega))).tr (sa6 x (by omega) (by omega))).tr (sa7 x (by omega) (by omega))).tr (sa8 x (by omega) (by omega))).tr (sa9 x (by omega) (by omega))).tr (sa10 x (by omega) (by omega))).tr (sa11 x (by omega) (by omega))).tr (sa12 x (by omega) (by omega))
  have C1103 : ∀ x, x ≠ 0 → x < 56 → Sa (g4) H12 x := fun x h0 h1 => ((((((((sg4 x (by omega)).tr (sa5 x (by omega) (by omega))).tr (sa6 x (by omega) (by omega))).tr (sa7 x (by omega) (by omega))).tr (sa8 x (by omega) (by omega))).tr (sa9 x (by omega) (by omega))).tr (sa10 x (by omega) (by omega))).tr (sa11 x (by omega) (by omega))).tr (sa12 x (by omega) (by omega))
  have C1104 : ∀ x, x ≠ 0 → x < 61 → Sa (g5) H12 x := fun x h0 h1 => (((((((sg5 x (by omega)).tr (sa6 x (by omega) (by omega))).tr (sa7 x (by omega) (by omega))).tr (sa8 x (by omega) (by omega))).tr (sa9 x (by omega) (by omega))).tr (sa10 x (by omega) (by omega))).tr (sa11 x (by omega) (by omega))).tr (sa12 x (by omega) (by omega))
  have C1105 : ∀ x, x ≠ 0 → x < 81 → Sa (g6) H12 x := fun x h0 h1 => ((((((sg6 x (by omega)).tr (sa7 x (by omega) (by omega))).tr (sa8 x (by omega) (by omega))).tr (sa9 x (by omega) (by omega))).tr (sa10 x (by omega) (by omega))).tr (sa11 x (by omega) (by omega))).tr (sa12 x (by omega) (by omega))
  have C1106 : ∀ x, x ≠ 0 → x < 82 → Sa (nArr H6 55 4) H12 x := fun x h0 h1 => (((((sg7 x (by omega)).tr (sa8 x (by omega) (by omega))).tr (sa9 x (by omega) (by omega))).tr (sa10 x (by omega) (by omega))).tr (sa11 x (by omega) (by omega))).tr (sa12 x (by omega) (by omega))
  have C1107 : ∀ x, x ≠ 0 → x < 83 → Sa (nArr H7 52 4) H12 x := fun x h0 h1 => ((((sg8 x (by omega)).tr (sa9 x (by omega) (by omega))).tr (sa10 x (by omega) (by omega))).tr (sa11 x (by omega) (by omega))).tr (sa12 x (by omega) (by omega))
  have C1108 : ∀ x, x ≠ 0 → x < 84 → Sa (nArr H8 54 16) H12 x := fun x h0 h1 => (((sg9 x (by omega)).tr (sa10 x (by omega) (by omega))).tr (sa11 x (by omega) (by omega))).tr (sa12 x (by omega) (by omega))
  have C1111 : ∀ x, x ≠ 0 → x < 93 → Sa (g10) H12 x := fun x h0 h1 => ((sg10 x (by omega)).tr (sa11 x (by omega) (by omega))).tr (sa12 x (by omega) (by omega))
  have C1112 : ∀ x, x ≠ 0 → x < 112 → Sa (g11) H12 x := fun x h0 h1 => (sg11 x (by omega)).tr (sa12 x (by omega) (by omega))
  have C1113 : ∀ x, x ≠ 0 → x < 124 → Sa (g12) H12 x := fun x h0 h1 => sg12 x (by omega)
  obtain ⟨M, m1, m2, m3, m4, m5, m6⟩ := x_marks (d := d) 4 0 H12 rfl x12 k12 e1106_12 ((C1106 81 (by decide) (by decide)).1.trans b1106.1) ((C1106 81 (by decide) (by decide)).2.1.trans b1106.2.1) (fun i hi => absurd hi (Nat.not_lt_zero _))
  have M0 := m4 0 (by decide) (by decide)
  have M83 := m4 83 (by decide) (by decide)
  obtain ⟨G, u1', u2', u3', u4', u5', u6'⟩ := x_undos (d := d) 16 0 M rfl m2 (M0.1.trans k12) ((M0.2.2.2.2.2.2.2 _).trans e1108_12) (M83.1.trans ((C1108 83 (by decide) (by decide)).1.trans b1108.1)) (M83.2.1.trans ((C1108 83 (by decide) (by decide)).2.1.trans b1108.2.1)) (fun i hi => absurd hi (Nat.not_lt_zero _))
  have m1' : am_R PG (d + 4) 124 137 [some (.ref 0), some (.int (0 : Int32))] [] H12 = am_R PG (d + 4) 124 163 [some (.ref 0), some (.int (0 : Int32))] [] M := m1
  have u1'' : am_R PG (d + 4) 124 163 [some (.ref 0), some (.int (0 : Int32))] [] M = some (none, G) := u1'
  rw [m1', u1''] at q0
  have S : ∀ x, x ≠ 81 → x ≠ 83 → (x < 124 ∨ 348 ≤ x) → Sa H12 G x := fun x h1 h2 h3 => (m4 x h1 (by omega)).tr (u4' x h2 (by omega))
  have Z0 := S 0 (by decide) (by decide) (by decide)
  have D1100 : ∀ x, x ≠ 0 → x < 3 → x ≠ 81 → x ≠ 83 → Sa (g1) G x := fun x h0 h1 h2 h3 => (C1100 x h0 h1).tr (S x h2 h3 (by omega))
  have D1101 : ∀ x, x ≠ 0 → x < 4 → x ≠ 81 → x ≠ 83 → Sa (g2) G x := fun x h0 h1 h2 h3 => (C1101 x h0 h1).tr (S x h2 h3 (by omega))
  have D1102 : ∀ x, x ≠ 0 → x < 30 → x ≠ 81 → x ≠ 83 → Sa (g3) G x := fun x h0 h1 h2 h3 => (C1102 x h0 h1).tr (S x h2 h3 (by omega))
  have D1103 : ∀ x, x ≠ 0 → x < 56 → x ≠ 81 → x ≠ 83 → Sa (g4) G x := fun x h0 h1 h2 h3 => (C1103 x h0 h1).tr (S x h2 h3 (by omega))
  have D1104 : ∀ x, x ≠ 0 → x < 61 → x ≠ 81 → x ≠ 83 → Sa (g5) G x := fun x h0 h1 h2 h3 => (C1104 x h0 h1).tr (S x h2 h3 (by omega))
  have D1105 : ∀ x, x ≠ 0 → x < 81 → x ≠ 81 → x ≠ 83 → Sa (g6) G x := fun x h0 h1 h2 h3 => (C1105 x h0 h1).tr (S x h2 h3 (by omega))
  have D1106 : ∀ x, x ≠ 0 → x < 82 → x ≠ 81 → x ≠ 83 → Sa (nArr H6 55 4) G x := fun x h0 h1 h2 h3 => (C1106 x h0 h1).tr (S x h2 h3 (by omega))
  have D1107 : ∀ x, x ≠ 0 → x < 83 → x ≠ 81 → x ≠ 83 → Sa (nArr H7 52 4) G x := fun x h0 h1 h2 h3 => (C1107 x h0 h1).tr (S x h2 h3 (by omega))
  have D1108 : ∀ x, x ≠ 0 → x < 84 → x ≠ 81 → x ≠ 83 → Sa (nArr H8 54 16) G x := fun x h0 h1 h2 h3 => (C1108 x h0 h1).tr (S x h2 h3 (by omega))
  have D1111 : ∀ x, x ≠ 0 → x < 93 → x ≠ 81 → x ≠ 83 → Sa (g10) G x := fun x h0 h1 h2 h3 => (C1111 x h0 h1).tr (S x h2 h3 (by omega))
  have D1112 : ∀ x, x ≠ 0 → x < 112 → x ≠ 81 → x ≠ 83 → Sa (g11) G x := fun x h0 h1 h2 h3 => (C1112 x h0 h1).tr (S x h2 h3 (by omega))
  have D1113 : ∀ x, x ≠ 0 → x < 124 → x ≠ 81 → x ≠ 83 → Sa (g12) G x := fun x h0 h1 h2 h3 => (C1113 x h0 h1).tr (S x h2 h3 (by omega))
  refine ⟨G, q0, u2', fun x hx => (((((((((((((f0 x (by omega)).tr (sa1 x (by omega) (by omega))).tr (sa2 x (by omega) (by omega))).tr (sa3 x (by omega) (by omega))).tr (sa4 x (by omega) (by omega))).tr (sa5 x (by omega) (by omega))).tr (sa6 x (by omega) (by omega))).tr (sa7 x (by omega) (by omega))).tr (sa8 x (by omega) (by omega))).tr (sa9 x (by omega) (by omega))).tr (sa10 x (by omega) (by omega))).tr (sa11 x (by omega) (by omega))).tr (sa12 x (by omega) (by omega))).tr (S x (by omega) (by omega) (by omega)), fun k => (Z0.fi k).trans (i12 k), Z0.1.trans k12, (Z0.2.2.2.2.2.2.2 _).trans e1100_12, (Z0.2.2.2.2.2.2.2 _).trans e1101_12, (Z0.2.2.2.2.2.2.2 _).trans e1102_12, (Z0.2.2.2.2.2.2.2 _).trans e1103_12, (Z0.2.2.2.2.2.2.2 _).trans e1104_12, (Z0.2.2.2.2.2.2.2 _).trans e1105_12, (Z0.2.2.2.2.2.2.2 _).trans e1106_12, (Z0.2.2.2.2.2.2.2 _).trans e1107_12, (Z0.2.2.2.2.2.2.2 _).trans e1108_12, (Z0.2.2.2.2.2.2.2 _).trans e1111_12, (Z0.2.2.2.2.2.2.2 _).trans e1112_12, (Z0.2.2.2.2.2.2.2 _).trans e1113_12, ?_, ?_, ?_, ?_, ?_, ?_, ?_, ?_, ?_, ?_, ?_, ?_, ?_, ?_, ?_, ?_, ?_⟩
  · obtain ⟨a1, a2, a3, a4⟩ := s1100
    have y1 := D1100 1 (by decide) (by decide) (by decide) (by decide)
    have y2 := D1100 2 (by decide) (by decide) (by decide) (by decide)
    exact ⟨y1.1.trans a1, (y1.2.2.2.2.2.2.2 _).trans a2, y2.1.trans a3, y2.2.1.trans a4⟩
  · exact fun k => ((D1100 1 (by decide) (by decide) (by decide) (by decide)).fi k).trans (z1100 k)
  · have y := D1101 3 (by decide) (by decide) (by decide) (by decide)
    exact ⟨y.1.trans s1101, (y.2.2.2.2.2.2.2 _).trans r1101⟩
  · exact PoSh.sa (fun x h1 h2 => D1102 x (by omega) (by omega) (by omega) (by omega)) s1102
  · exact PoSh.sa (fun x h1 h2 => D1103 x (by omega) (by omega) (by omega) (by omega)) s1103
  · exact DaSh.sa (fun x h1 h2 => D1104 x (by omega) (by omega) (by omega) (by omega)) s1104
  · exact StoSh.sa (fun x h1 h2 => D1105 x (by omega) (by omega) (by omega) (by omega)) s1105
  · have y := u4' 81 (by decide) (by decide)
    exact ⟨y.1.trans m5, y.2.1.trans m6, fun k hk => ⟨by rw [y.2.2.2.2.1]; exact (m3 k hk).1, StoSh.sa (fun x h1 h2 => u4' x (by omega) (by omega)) (m3 k hk).2⟩⟩
  · have y := D1107 82 (by decide) (by decide) (by decide) (by decide)
    exact ⟨y.1.trans b1107.1, y.2.1.trans b1107.2.1, y.row.trans b1107.2.2⟩
  · exact ⟨u5', u6', u3'⟩
  · exact StSh.sa (fun x h1 h2 => D1111 x (by omega) (by omega) (by omega) (by omega)) s1111
  · obtain ⟨a1, a2, a3⟩ := s1112
    have y := D1112 93 (by decide) (by decide) (by decide) (by decide)
    exact ⟨⟨y.1.trans a1, (y.2.2.2.2.2.2.2 _).trans a2, StSh.sa (fun x h1 h2 => D1112 x (by omega) (by omega) (by omega) (by omega)) a3⟩, (y.2.2.2.2.2.2.2 _).trans r1112, StSh.sa (fun x h1 h2 => D1112 x (by omega) (by omega) (by omega) (by omega)) t1112⟩
  · obtain ⟨a1, a2, a3⟩ := s1113
    have y := D1113 112 (by decide) (by decide) (by decide) (by decide)
    refine ⟨y.1.trans a1, (y.2.2.2.2.2.2.2 _).trans a2, fun i hi => ?_⟩
    have r : 113 ≤ (chF.getD i (0, 0, 0)).2.1 ∧ (chF.getD i (0, 0, 0)).2.1 < 124 := (show ∀ i, i < 11 → 113 ≤ (chF.getD i (0, 0, 0)).2.1 ∧ (chF.getD i (0, 0, 0)).2.1 < 124 by decide) i hi
    obtain ⟨b1, b2, b3⟩ := a3 i hi
    have yr := D1113 (chF.getD i (0, 0, 0)).2.1 (by omega) (by omega) (by omega) (by omega)
    exact ⟨(y.2.2.2.2.2.2.2 _).trans b1, yr.1.trans b2, yr.2.1.trans b3⟩
  · exact ⟨fun x h1 h2 => (D1102 (4 + x) (by omega) (by omega) (by omega) (by omega)).row.trans (w1102 x h1 h2), fun k => ((D1102 4 (by decide) (by decide) (by decide) (by decide)).fi k).trans (z1102 k), ((D1102 18 (by decide) (by decide) (by decide) (by decide)).fi _).trans u1, by rw [(D1102 19 (by decide) (by decide) (by decide) (by decide)).row]; exact u2, by rw [(D1102 19 (by decide) (by decide) (by decide) (by decide)).row]; exact u3, by rw [(D1102 19 (by decide) (by decide) (by decide) (by decide)).row]; exact u4⟩
  · exact ⟨fun x h1 h2 => (D1102 (21 + x) (by omega) (by omega) (by omega) (by omega)).row.trans (v1102 x h1 h2), fun k => ((D1102 21 (by decide) (by decide) (by decide) (by decide)).fi k).trans (y1102 k)⟩
  · exact ⟨fun x h1 h2 => (D1103 (47 + x) (by omega) (by omega) (by omega) (by omega)).row.trans (v1103 x h1 h2), fun k => ((D1103 47 (by decide) (by decide) (by decide) (by decide)).fi k).trans (y1103 k)⟩
  · exact ⟨fun x h1 h2 => (D1105 (62 + x) (by omega) (by omega) (by omega) (by omega)).row.trans (w1105 x h1 h2), fun k => ((D1105 62 (by decide) (by decide) (by decide) (by decide)).fi k).trans (z1105 k), fun k => ((D1105 71 (by decide) (by decide) (by decide) (by decide)).fi k).trans (za1105 k), fun k => ((D1105 76 (by decide) (by decide) (by decide) (by decide)).fi k).trans (zb1105 k)⟩
