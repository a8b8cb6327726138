/-! More constructors. -/
theorem n_fldA {d t K kd id f f0 n a : Nat} {h g : AH} {X : AH → Option Res} (hn : hNX h = n) (h0 : hK h t = K) (hne : t ≠ n) (e : hFR h f0 t = some a) (ht : hK g t = K) (c : am_C PG d id [.ref n, .ref a] (nObj h kd) = some (none, g)) : am_let (nObj h kd) (fun h1 => am_kd h1 t K (bR (hFR h1 f0 t) fun r => am_kd h1 (hNX h) kd (bV (am_C PG d id [.ref (hNX h), .ref r] h1) fun h2 => am_kd h2 t K (am_let (sFR h2 f t (some (hNX h))) X)))) = X (sFR g f t (some n)) := by
  have s := nObj_sa h kd (show t ≠ hNX h by omega)
  have k1 : hK (nObj h kd) t = K := s.1.trans h0
  have k2 : hFR (nObj h kd) f0 t = some a := (s.2.2.2.2.2.2.2 _).trans e
  rw [am_let_e, am_kd_t k1, k2, bR_s, am_kd_t (nObj_k h kd), hn, c, bV_s, am_kd_t ht, am_let_e]
theorem n_arr {t K kd f n N : Nat} {v : Int32} {h : AH} {X : AH → Option Res} (hn : hNX h = n) (hk : hK h t = K) (ht : t < n) (hv : v = nI N) (hN : N ≤ 2048) : am_nw v (am_let (nArr h kd (Int32.toNatClampNeg v)) fun h1 => am_kd h1 t K (am_let (sFR h1 f t (some (hNX h))) X)) = X (sFR (nArr h kd N) f t (some n)) := by
  have k1 : hK (nArr h kd N) t = K := (nArr_sa h kd N (show t ≠ hNX h by omega)).1.trans hk
  subst hv
  rw [am_nwN hN, nI_clamp (by omega), am_let_e, am_kd_t k1, am_let_e, hn]
theorem n_Ahead {d n : Nat} {h : AH} (hn : hNX h = n) : ∃ g, am_C PG (d + 2) 0 [.ref n] (nObj h 1) = some (none, g) ∧ hNX g = n + 19 ∧ (∀ x, (x < n ∨ n + 19 ≤ x) → Sa h g x) ∧ AhSh g n (n + 1) ∧ hFR g 1 n = some (n + 10) ∧ StSh g (n + 10) := by
  have k0 : hK (nObj h 1) n = 1 := by rw [← hn]; exact nObj_k h 1
  have x0 : hNX (nObj h 1) = n + 1 := by rw [nObj_n, hn]
  have f0 : ∀ x, x ≠ n → Sa h (nObj h 1) x := fun x e => nObj_sa h 1 (by omega)
  have q0 : am_C PG (d + 2) 0 [.ref n] (nObj h 1) = _ := q_X0_init (d + 1) n (nObj h 1)
  rw [am_kd_t k0] at q0
  obtain ⟨g1, c1, x1, f1, s1, w1, z1⟩ := n_State (d := d) x0
  have t1 : hK g1 n = 1 := (f1 n (by omega)).1.trans k0
  rw [n_fld x0 t1 c1] at q0
  obtain ⟨y1, e1⟩ : ∃ y1, sFR g1 0 n (some (n + 1)) = y1 := ⟨_, rfl⟩
  have y1x : hNX y1 = n + 10 := by rw [← e1, rd_hNX_sFR]; exact x1
  have y1a : ∀ x, x ≠ n → Sa g1 y1 x := fun x e => by rw [← e1]; exact sFR_sa _ _ _ _ e
  have y1k : hK y1 n = 1 := by rw [← e1, rd_hK_sFR]; exact t1
  have y1r : hFR y1 0 n = some (n + 1) := by rw [← e1, sFR_at]
  rw [e1] at q0
  obtain ⟨g2, c2, x2, f2, s2, w2, z2⟩ := n_State (d := d) y1x
  have t2 : hK g2 n = 1 := (f2 n (by omega)).1.trans y1k
  rw [n_fld y1x t2 c2] at q0
  have a4 : ∀ x, x ≠ n → Sa g2 (sFR g2 1 n (some (n + 10))) x := fun x e => sFR_sa _ _ _ _ e
  refine ⟨_, q0, ?_, fun x e => ((f0 x (by omega)).tr ((f1 x (by omega)).tr (y1a x (by omega)))).tr ((f2 x (by omega)).tr (a4 x (by omega))), ⟨by rw [rd_hK_sFR]; exact t2, ?_, StSh.sa (fun x h1 h2 => ((y1a x (by omega)).tr (f2 x (by omega))).tr (a4 x (by omega))) s1⟩, by rw [sFR_at], StSh.sa (fun x h1 h2 => a4 x (by omega)) s2⟩
  · rw [rd_hNX_sFR]; omega
  · rw [sFR_o _ _ (Or.inl (by decide)), (f2 n (by omega)).2.2.2.2.2.2.2 _, y1r]
def chL : List (Nat × Nat × Nat) := [(50, 600, 101), (50, 6, 102), (50, 4, 103), (50, 5, 105), (50, 5, 106), (50, 5, 107), (50, 91, 110), (50, 6, 111), (50, 6, 112), (50, 100, 115), (50, 100, 116)]
theorem chL_q (d t a : Nat) (h : AH) : am_C PG (d + 1) 15 [.ref t, .ref a] h = am_kd h t 2 (xbR t 2 (fun h22 => am_kd h22 t 2 (am_let (sFR h22 100 t (some a)) fun h23 => some (none, h23))) chL h) := q_X1_init d t a h
theorem n_Choice {d : Nat} {h : AH} (hn : hNX h = 112) : ∃ g, am_C PG (d + 1) 15 [.ref 112, .ref 93] (nObj h 2) = some (none, g) ∧ hNX g = 124 ∧ (∀ x, (x < 112 ∨ 124 ≤ x) → Sa h g x) ∧ ChoSh g := by
  have kt : hK (nObj h 2) 112 = 2 := by rw [← hn]; exact nObj_k h 2
  have nn : hNX (nObj h 2) = 113 := by rw [nObj_n, hn]
  have lt : 112 < hNX (nObj h 2) := by omega
  have ll : chL.length = 11 := rfl
  have N := xb_new 112 chL (nObj h 2) lt (by decide)
  rw [nn] at N
  have T := xb_t 112 chL (nObj h 2) lt
  have fr : ∀ x, (x < 112 ∨ 124 ≤ x) → Sa h (xbl 112 chL (nObj h 2)) x := fun x e => (nObj_sa h 2 (by omega)).tr (xb_sa _ chL _ x (by omega) (by omega))
  have ex : hNX (xbl 112 chL (nObj h 2)) = 124 := by rw [xb_NX, nn, ll]
  have k2 : hK (xbl 112 chL (nObj h 2)) 112 = 2 := T.1.trans kt
  have q0 := chL_q d 112 93 (nObj h 2)
  rw [am_kd_t kt, xbR_e chL _ kt lt (by decide)] at q0
  generalize xbl 112 chL (nObj h 2) = y at fr ex k2 q0 N
  rw [am_kd_t k2, am_let_e] at q0
  have D : ∀ i, i < 11 → chL.getD i (0, 0, 0) = ((50 : Nat), (chF.getD i (0, 0, 0)).2.2, (chF.getD i (0, 0, 0)).1) ∧ (chF.getD i (0, 0, 0)).2.1 = 113 + i ∧ (chF.getD i (0, 0, 0)).1 ≠ 100 := by decide
  refine ⟨_, q0, by rw [rd_hNX_sFR]; exact ex, fun x e => (fr x e).tr (sFR_sa _ _ _ _ (by omega)), by rw [rd_hK_sFR]; exact k2, by rw [sFR_at], fun i hi => ?_⟩
  obtain ⟨d1, d2, d3⟩ := D i hi
  obtain ⟨n1, n2, n3, -⟩ := N i hi
  rw [d1] at n1 n2 n3
  rw [d2, sFR_o _ _ (Or.inl d3), rd_hK_sFR, rd_hLN_sFR]
  exact ⟨n3, n1, n2⟩
def mdL : List (Nat × Nat × Nat) := [(50, 1000, 1202), (50, 10, 1210), (53, 10, 1211), (53, 12, 1212), (53, 8, 1213), (53, 12, 1214), (50, 10, 1215), (50, 50, 1216), (50, 12, 1217), (50, 12, 1218), (50, 12, 1219), (50, 12, 1220), (50, 12, 1221), (50, 8, 1222), (50, 8, 1223), (50, 8, 1224), (50, 12, 1225), (50, 12, 1226), (50, 12, 1227), (50, 12, 1228), (50, 48, 1229), (50, 2, 1230), (50, 2, 1231), (50, 2000, 1232), (50, 7, 1234), (52, 7, 1235), (50, 7, 1236), (50, 7, 1237), (50, 7, 1238), (50, 7, 1239), (50, 7, 1240), (50, 7, 1241), (50, 7, 1242), (50, 7, 1243), (50, 7, 1244), (50, 20, 1245), (50, 25, 1247), (50, 6, 1248), (50, 240, 1249), (50, 240, 1250), (50, 240, 1251), (50, 240, 1252), (50, 5, 1253), (50, 50, 1254), (50, 50, 1255), (50, 5, 1256), (50, 60, 1257), (50, 60, 1258), (50, 43, 1259), (50, 43, 1260), (50, 172, 1261), (50, 688, 1262), (52, 4, 1263), (50, 600, 1269), (50, 5, 1270), (50, 5, 1271), (50, 5, 1272), (50, 91, 1275), (50, 6, 1276), (50, 6, 1277), (50, 6, 1278)]
set_option maxRecDepth 100000 in
theorem mdL_q (d t : Nat) (h : AH) : am_C PG (d + 1) 159 [.ref t] h = am_kd h t 13 (xbR t 13 (fun h => some (none, h)) mdL h) := q_X12_init d t h
set_option maxRecDepth 100000 in
theorem mdL_d : ∀ i, i < 61 → mdL.getD i (0, 0, 0) = (m_kl.getD i 0, m_nl.getD i 0, m_fl.getD i 0) := by decide +kernel
set_option maxRecDepth 100000 in
theorem mdL_n : (mdL.map (fun x => x.2.2)).Nodup := by decide +kernel
set_option maxRecDepth 100000 in
theorem mdL_b : ∀ x, x ∈ mdL → x.2.1 ≤ 2048 := by decide +kernel
theorem n_Model {d : Nat} {h : AH} (hn : hNX h = 348) : ∃ g, am_C PG (d + 1) 159 [.ref 348] (nObj h 13) = some (none, g) ∧ hNX g = 410 ∧ (∀ x, (x < 348 ∨ 410 ≤ x) → Sa h g x) ∧ MSh g ∧ (∀ x, 349 ≤ x → x < 410 → hAI g x = (fun _ => 0) ∧ hAJ g x = fun _ => 0) ∧ ∀ k, hFI g k 348 = 0 := by
  have kt : hK (nObj h 13) 348 = 13 := by rw [← hn]; exact nObj_k h 13
  have nn : hNX (nObj h 13) = 349 := by rw [nObj_n, hn]
  have lt : 348 < hNX (nObj h 13) := by omega
  have ll : mdL.length = 61 := rfl
  have N := xb_new 348 mdL (nObj h 13) lt mdL_n
  rw [nn, ll] at N
  have T := xb_t 348 mdL (nObj h 13) lt
  have fr : ∀ x, (x < 348 ∨ 410 ≤ x) → Sa h (xbl 348 mdL (nObj h 13)) x := fun x e => (nObj_sa h 13 (by omega)).tr (xb_sa _ mdL _ x (by omega) (by omega))
  have ex : hNX (xbl 348 mdL (nObj h 13)) = 410 := by rw [xb_NX, nn, ll]
  have fz : ∀ k, hFI (xbl 348 mdL (nObj h 13)) k 348 = 0 := fun k => (T.2.2.1 k).trans (by rw [← hn]; exact nObj_f h 13 k)
  have k2 : hK (xbl 348 mdL (nObj h 13)) 348 = 13 := T.1.trans kt
  have q0 := mdL_q d 348 (nObj h 13)
  rw [am_kd_t kt, xbR_e mdL _ kt lt mdL_b] at q0
  refine ⟨_, q0, ex, fr, ⟨k2, fun i hi => ?_⟩, fun x h1 h2 => ?_, fz⟩
  · obtain ⟨n1, n2, n3, -⟩ := N i hi
    rw [mdL_d i hi] at n1 n2 n3
    exact ⟨n3, n1, n2⟩
  · have z := (N (x - 349) (by omega)).2.2.2
    rw [show 349 + (x - 349) = x by omega] at z
    exact z
/-- what a step of ThirstHours' constructor leaves -/
def Zk (f n m : Nat) (H G : AH) : Prop := hNX G = m ∧ hK G 0 = hK H 0 ∧ (∀ k, hFI G k 0 = hFI H k 0) ∧ hFR G f 0 = some n ∧ (∀ k, k ≠ f → hFR G k 0 = hFR H k 0) ∧ ∀ x, x ≠ 0 → (x < n ∨ m ≤ x) → Sa H G x
theorem Zk.of {f n m : Nat} {H g : AH} (hm : hNX g = m) (h0 : 0 < n) (fr : ∀ x, (x < n ∨ m ≤ x) → Sa H g x) : ∃ G, sFR g f 0 (some n) = G ∧ Zk f n m H G ∧ ∀ x, x ≠ 0 → Sa g G x := by
  obtain ⟨a1, a2, a3, a4, a5, a6, a7, a8⟩ := fr 0 (by omega)
  exact ⟨_, rfl, ⟨by rw [rd_hNX_sFR]; exact hm, by rw [rd_hK_sFR]; exact a1, fun k => by rw [rd_hFI_sFR]; exact a6 k, sFR_at _ _ _ _, fun k e => by rw [sFR_o _ _ (Or.inl e)]; exact a8 k, fun x e e2 => (fr x e2).tr (sFR_sa _ _ _ _ e)⟩, fun x e => sFR_sa _ _ _ _ e⟩
