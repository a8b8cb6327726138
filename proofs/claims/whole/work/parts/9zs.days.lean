/-! days, with what holds between calls. -/
theorem c_days0 {d p : Nat} {h h1 : AH} {f : Int32} (k0 : hK h 0 = 12) (f1 : hFR h 1101 0 = some 3) (f2 : hFR h 1102 0 = some p) (f4 : hFR h 1104 0 = some 56) (k3 : hK h 3 = 7) (kr : am_C PG (d + 7) 77 [.ref 3, .ref p, .ref 56] h = some (some (.int f), h1)) (q0 : hK h1 0 = 12) (q1 : hFR h1 1100 0 = some 1) (q2 : hK h1 1 = 10) (hf0 : f ≠ 0) : am_C PG (d + 8) 129 [.ref 0] h = some (some (.int f), sFI h1 901 1 0) := by
  rw [q_X11_days, am_kd_t k0, f1, bR_s, am_kd_t k0, f2, bR_s, am_kd_t k0, f4, bR_s, am_kd_t k3, kr, bI_s, am_kd_t q0, q1, bR_s, am_kd_t q2, am_let_e, if_neg hf0]
theorem c_days1 {d p : Nat} {h h1 y k : AH} (k0 : hK h 0 = 12) (f1 : hFR h 1101 0 = some 3) (f2 : hFR h 1102 0 = some p) (f4 : hFR h 1104 0 = some 56) (k3 : hK h 3 = 7) (kr : am_C PG (d + 7) 77 [.ref 3, .ref p, .ref 56] h = some (some (.int 0), h1)) (q0 : hK h1 0 = 12) (q1 : hFR h1 1100 0 = some 1) (q2 : hK h1 1 = 10) (ey : sFI h1 901 1 0 = y) (y0 : hK y 0 = 12) (y1 : hFR y 1105 0 = some 61) (y2 : hK y 61 = 9) (y3 : hFR y 801 61 = some 71) (y4 : hFR y 1104 0 = some 56) (y5 : hK y 71 = 3) (kn : am_C PG (d + 7) 31 [.ref 71, .ref 56] y = some (none, k)) : am_C PG (d + 8) 129 [.ref 0] h = some (some (.int 0), k) := by
  rw [q_X11_days, am_kd_t k0, f1, bR_s, am_kd_t k0, f2, bR_s, am_kd_t k0, f4, bR_s, am_kd_t k3, kr, bI_s, am_kd_t q0, q1, bR_s, am_kd_t q2, am_let_e, ey, if_pos rfl, am_kd_t y0, y1, bR_s, am_kd_t y2, y3, bR_s, am_kd_t y0, y4, bR_s, am_kd_t y5, kn, bV_s]
/-- the class behind its reading -/
def KE (h k : AH) : Prop := hK k = hK h ∧ hLN k = hLN h ∧ hAR k = hAR h ∧ hNX k = hNX h ∧ hAJ k = hAJ h ∧ hFR k = hFR h ∧ hFJ k = hFJ h ∧ (∀ j x, (x ≠ 1 ∨ j ≠ 901) → (x ≠ 71 ∨ j ≠ 200) → hFI k j x = hFI h j x) ∧ (∀ x, (x < 72 ∨ 75 < x) → hAI k x = hAI h x) ∧ hFI k 901 1 = 0
/-- the reference behind its own -/
def MF (h g : AH) : Prop := hK g = hK h ∧ hFR g = hFR h ∧ hLN g = hLN h ∧ hAR g = hAR h ∧ hNX g = hNX h ∧ hAJ g = hAJ h ∧ (∀ k x, x ≠ 348 → hFJ g k x = hFJ h k x) ∧ (∀ k x, (x ≠ 348 ∨ k = 1264) → hFI g k x = hFI h k x) ∧ hFI g 1201 348 = 0 ∧ ∀ r i, (r < 386 ∨ 390 < r ∨ (r = 386 ∧ i ≠ 5 ∧ i ≠ 0) ∨ (387 ≤ r ∧ 40 ≤ i ∧ i < 200)) → hAI g r i = hAI h r i
theorem ME.mf {h g : AH} (a : ME h g) : MF h g := by
  obtain ⟨a1, a2, a3, a4, a5, a6, a7, a8, a9, a10⟩ := a
  exact ⟨a1, a2, a3, a4, a5, a6, a7, a8, a9, fun r i e => a10 r i (by omega)⟩
theorem Rd.days {dp : Nat} {h h1 k g : AH} (c : CEd h h1) (q : KE h1 k) (m : MF k g) : Rd dp h g ∧ hFI g 901 1 = 0 ∧ hFI g 1201 348 = 0 := by
  obtain ⟨c1, c2, c3, c4, c5, c6, c7, c8, c9⟩ := c
  obtain ⟨q1, q2, q3, q4, q5, q6, q7, q8, q9, q10⟩ := q
  obtain ⟨m1, m2, m3, m4, m5, m6, m7, m8, m9, m10⟩ := m
  refine ⟨⟨?_, ?_, ?_, fun k x e1 e2 => ?_, fun k x e => ?_, fun x e1 e2 e3 e4 e5 e6 => ?_, fun r i e1 e2 e3 => ?_, fun i e1 e2 => ?_, fun r i e1 e2 e3 e4 => ?_, fun x _ _ => ?_, fun r i _ _ _ => ?_, fun k x e1 e2 e3 e4 e5 e6 e7 => ?_⟩, ?_, m9⟩
  · rw [m1, q1, c1]
  · rw [m3, q2, c2]
  · rw [m4, q3, c3]
  · rw [m2, q6, c6 k x (by omega) (by omega)]
  · rw [m7 k x (by omega), q7, c7 k x (by omega)]
  · funext i
    rw [m10 x i (by omega), q9 x (by omega), c9 x (by omega)]
  · rw [m10 r i (by omega), q9 r (by omega), c9 r (by omega)]
  · rw [m10 386 i (by omega), q9 386 (by omega), c9 386 (by omega)]
  · rw [m10 r i (by omega), q9 r (by omega), c9 r (by omega)]
  · rw [m6, q5, c5]
  · rw [m6, q5, c5]
  · rw [m8 k x e5, q8 k x (by omega) (by omega), c8 k x (by omega) (by omega) (by omega)]
  · rw [m8 _ _ (by omega)]; exact q10
theorem st_days {B L d d2 : Nat} {xs : Nat → Int32} {h : AH} (I : Inv B L xs h) : Stq B L xs h (fun h => am_C PG (d + 8) 129 [.ref 0] h) (fun h => am_C PG (d2 + 6) 208 [.ref 348] h) := by
  obtain ⟨s1, s2, s3, s4, s5, s6, p, dp, np, nc, ne, nw, len, n, W, t1, t2, t3, t4, t5, t6, t7, t8, t9⟩ := I
  obtain ⟨k0, f0, f1, f4, f5, -, f7, -, -, ⟨i1, i2, i3, i4⟩, ⟨k3, f6⟩, po4, po30, d56, sto, -, -, -, -, -, -, -, ms, -, -⟩ := id s1
  obtain ⟨o1, o2, o3, o4, o5, d71, o7⟩ := id sto
  obtain ⟨tn, tn1, ta, tb, tc⟩ := s6
  have hp : p = 4 ∨ p = 30 := by rcases t1 with ⟨z, -⟩ | ⟨z, -⟩ <;> omega
  have pd : PoSh h p := by rcases hp with z | z <;> rw [z] <;> assumption
  obtain ⟨⟨⟨-, a2, a3, a4, a5, n1, n2, n3, n4⟩, -, -, -, -, ⟨r2, r3, r4, -⟩, r0, -, -⟩, -, ⟨u1, u2, u3⟩, -, -⟩ := id t4
  -- the signs
  obtain ⟨T, hT⟩ : ∃ T : Nat → Nat, ∀ i, i < tn → T i < 128 ∧ hAI h 2 i = nI (T i) ∧ hAI h 349 i = nI (T i) := by
    refine ⟨fun i => Int32.toNatClampNeg (hAI h 2 i), fun i hi => ?_⟩
    obtain ⟨c, c1, c2, c3⟩ := tc i hi
    dsimp only
    rw [c2, c3, nI_clamp (by omega)]
    exact ⟨c1, rfl, rfl⟩
  have tp : Tp h tn T := ⟨i1, i2, i3, i4, tn1, ta, fun i hi => ⟨(hT i hi).1, (hT i hi).2.1⟩⟩
  have go : ∀ G, MSh G → hFI G 1201 348 = nI tn → hAI G 349 = hAI h 349 → hAI G 350 = hAI h 350 → hAJ G = hAJ h → _ := fun G g1 g2 g3 g4 g5 => dp_pair (d := d) (d2 := d2) (G := G) (np := np) (nc := nc) (ne := ne) hp k3 f6 pd d56 tp s2 ⟨a2, a3, a4, n1, n2, n3⟩ g1 tn1 g2 (fun i hi => ⟨(hT i hi).1, by rw [g3]; exact (hT i hi).2.2⟩) ⟨by rw [g4]; exact r0, by rw [g4]; exact r2, by rw [g4]; exact r3⟩ (by rw [g5]; exact ⟨u1, u2, u3⟩)
  have mk : ∀ (h1 k : AH), CEd h h1 → KE h1 k → MSh k ∧ hFI k 1201 348 = nI tn ∧ hAI k 349 = hAI h 349 ∧ hAI k 350 = hAI h 350 ∧ hAJ k = hAJ h ∧ LawK h k := fun h1 k c q => by
    obtain ⟨c1, c2, c3, c4, c5, c6, c7, c8, c9⟩ := c
    obtain ⟨q1, q2, q3, q4, q5, q6, q7, q8, q9, q10⟩ := q
    exact ⟨MSh.to (h := h) (by rw [q1, c1]) (fun j => by rw [q6, c6 _ _ (by omega) (by omega)]) (by rw [q2, c2]) ms, by rw [q8 _ _ (by omega) (by omega), c8 _ _ (by omega) (by omega) (by omega)]; exact tb, by rw [q9 _ (by omega), c9 _ (by omega)], by rw [q9 _ (by omega), c9 _ (by omega)], by rw [q5, c5], by rw [q1, c1], by rw [q2, c2], by rw [q9 _ (by omega), c9 _ (by omega)]⟩
  have fin : ∀ (h1 k g : AH), CEd h h1 → KE h1 k → MF k g → DaI g 71 0 np nc ne → LawK k g ∧ hNX g = hNX h ∧ Inv (B + 24) L xs g := fun h1 k g c q m D => by
    obtain ⟨R, e1, e2⟩ := Rd.days (dp := dp) c q m
    refine ⟨⟨m.1, m.2.2.1, ?_⟩, by rw [m.2.2.2.2.1, q.2.2.2.1, c.2.2.2.1], (Inv.rd s1 s2 s3 s4 s5 t1 t2 t3 t4 t5 t7 t8 t9 R ⟨0, by decide, e1, e2, fun i hi => absurd hi (Nat.not_lt_zero _)⟩ D).mono (by omega)⟩
    funext i
    exact m.2.2.2.2.2.2.2.2.2 _ i (by omega)
  rcases go h ms tb rfl rfl rfl with ⟨f, h1, -, n0, kr, -, c, -⟩ | ⟨h1, -, -, kr, -, c, -, -, -⟩
  · -- refused
    have q0 : hK h1 0 = 12 := by rw [c.1]; exact k0
    have q1 : hFR h1 1100 0 = some 1 := by rw [c.2.2.2.2.2.1 _ _ (by omega) (by omega)]; exact f0
    have q2 : hK h1 1 = 10 := by rw [c.1]; exact i1
    have kc := c_days0 (d := d) k0 f1 t2 f4 k3 kr q0 q1 q2 n0
    obtain ⟨y, ey, ky⟩ : ∃ y, sFI h1 901 1 0 = y ∧ KE h1 y := ⟨_, rfl, rd_hK_sFI _ _ _ _, rd_hLN_sFI _ _ _ _, rd_hAR_sFI _ _ _ _, rd_hNX_sFI _ _ _ _, rd_hAJ_sFI _ _ _ _, rd_hFR_sFI _ _ _ _, rd_hFJ_sFI _ _ _ _, fun j x e _ => sFI_o _ _ (by omega), fun x _ => by rw [rd_hAI_sFI], sFI_at _ _ _ _⟩
    have y71 : hFI y 200 71 = hFI h 200 71 := by rw [← ey, sFI_o _ _ (by decide), c.2.2.2.2.2.2.2.1 _ _ (by omega) (by omega) (by omega)]
    have yA : ∀ x, 60 < x → hAI y x = hAI h x := fun x e => by rw [← ey, rd_hAI_sFI, c.2.2.2.2.2.2.2.2 _ (by omega)]
    rw [ey] at kc
    obtain ⟨w1, w2, w3, w4, w5, w6⟩ := mk h1 y c ky
    rcases go y w1 w2 w3 w4 w5 with ⟨f', h1', g, n0', kr', km, c', m⟩ | ⟨h1', g1, m1, kr', -⟩
    · rw [kr] at kr'
      injection kr' with kr'
      injection kr' with kf kh
      injection kf with kf
      injection kf with kf
      subst kf
      have mA := m.2.2.2.2.2.2.2.2.2
      obtain ⟨z1, z2, z3⟩ := fin h1 y g c ky m.mf (t6.fr (by rw [m.2.2.2.2.2.2.2.1 _ _ (by omega)]; exact y71) (fun j j1 j2 => by funext i; rw [mA _ i (by omega), yA _ (by omega)]) (by rw [mA _ _ (by omega), yA _ (by omega)]) (fun r r1 r2 i hi => by rw [mA _ _ (by omega), yA _ (by omega)]))
      exact ⟨f, y, g, kc, km, w6, z1, z2, z3⟩
    · rw [kr] at kr'
      injection kr' with kr'
      injection kr' with kf kh
      injection kf with kf
      injection kf with kf
      exact absurd kf n0
  · -- accepted
    have q0 : hK h1 0 = 12 := by rw [c.1]; exact k0
    have q1 : hFR h1 1100 0 = some 1 := by rw [c.2.2.2.2.2.1 _ _ (by omega) (by omega)]; exact f0
    have q2 : hK h1 1 = 10 := by rw [c.1]; exact i1
    obtain ⟨y, ey, ky⟩ : ∃ y, sFI h1 901 1 0 = y ∧ KE h1 y := ⟨_, rfl, rd_hK_sFI _ _ _ _, rd_hLN_sFI _ _ _ _, rd_hAR_sFI _ _ _ _, rd_hNX_sFI _ _ _ _, rd_hAJ_sFI _ _ _ _, rd_hFR_sFI _ _ _ _, rd_hFJ_sFI _ _ _ _, fun j x e _ => sFI_o _ _ (by omega), fun x _ => by rw [rd_hAI_sFI], sFI_at _ _ _ _⟩
    have y56 : hFI y 200 56 = hFI h1 200 56 := by rw [← ey, sFI_o _ _ (by decide)]
    have yA : hAI y = hAI h1 := by rw [← ey, rd_hAI_sFI]
    have yK : hK y = hK h := by rw [ky.1, c.1]
    have yL : hLN y = hLN h := by rw [ky.2.1, c.2.1]
    have yR : ∀ k x, 3 < x ∨ x = 0 → hFR y k x = hFR h k x := fun k x e => by rw [ky.2.2.2.2.2.1, c.2.2.2.2.2.1 _ _ (by omega) (by omega)]
    have dy : ∀ a, 3 < a → DaSh h a → DaSh y a := fun a ha s => by
      unfold DaSh at s ⊢
      rw [yK, yL, yR _ _ (Or.inl ha), yR _ _ (Or.inl ha), yR _ _ (Or.inl ha), yR _ _ (Or.inl ha)]
      exact s
    obtain ⟨k, kn, ⟨j1, j2, j3, j4, j5, j6, j7⟩, k1, k2, k4, k5⟩ := c_dcopy (d := d + 6) (dy 71 (by decide) d71) (dy 56 (by decide) d56) (by decide)
    have kk : KE h1 k := by
      obtain ⟨b1, b2, b3, b4, b5, b6, b7, b8, b9, b10⟩ := ky
      exact ⟨by rw [j1, b1], by rw [j3, b2], by rw [j4, b3], by rw [j7, b4], by rw [j5, b5], by rw [j2, b6], by rw [j6, b7], fun j x e1 e2 => by rw [k2 j x (by omega), b8 j x e1 e2], fun x e => by rw [k4 x (by omega), b9 x e], by rw [k2 _ _ (by decide)]; exact b10⟩
    have kc := c_days1 (d := d) k0 f1 t2 f4 k3 kr q0 q1 q2 ey (by rw [yK]; exact k0) (by rw [yR _ _ (Or.inr rfl)]; exact f5) (by rw [yK]; exact o1) (by rw [yR _ _ (by decide)]; exact o3) (by rw [yR _ _ (Or.inr rfl)]; exact f4) (by rw [yK]; exact d71.1) kn
    obtain ⟨w1, w2, w3, w4, w5, w6⟩ := mk h1 k c kk
    rcases go k w1 w2 w3 w4 w5 with ⟨f', h1', g, n0', kr', -⟩ | ⟨h1', g1, m, kr', km, c', mm, ms1, D⟩
    · rw [kr] at kr'
      injection kr' with kr'
      injection kr' with kf kh
      injection kf with kf
      injection kf with kf
      exact absurd kf.symm n0'
    · rw [kr] at kr'
      injection kr' with kr'
      injection kr' with kf kh
      subst kh
      obtain ⟨D1, D2, D3, D4⟩ := D
      have kl : am_C PG (d2 + 5) 204 [.ref 348, .int (5 : Int32), .int (0 : Int32)] g1 = _ := c_lays5 (d := d2 + 4) (f := 5) (t := 0) ms1 (by decide) (by decide) (by decide)
      rw [kl, bV_s] at km
      obtain ⟨m1, m2, m3, m4, m5, m6, m7, m8, m9, m10⟩ := mm
      obtain ⟨g, eg, g1', g2, g3, g4, g5, g6, g7, g8, g9, g10, g11⟩ : ∃ g, L4 (sAI g1 386 (upd (hAI g1 386) 0 (hAI g1 386 5))) (bcp (40 * 5) (40 * 0) 40 (hAI g1 387)) (bcp (40 * 5) (40 * 0) 40 (hAI g1 388)) (bcp (40 * 5) (40 * 0) 40 (hAI g1 389)) (bcp (40 * 5) (40 * 0) 40 (hAI g1 390)) = g ∧ hK g = hK g1 ∧ hFR g = hFR g1 ∧ hLN g = hLN g1 ∧ hAR g = hAR g1 ∧ hNX g = hNX g1 ∧ hAJ g = hAJ g1 ∧ hFJ g = hFJ g1 ∧ hFI g = hFI g1 ∧ (∀ x, (x < 386 ∨ 390 < x) → hAI g x = hAI g1 x) ∧ hAI g 386 = upd (hAI g1 386) 0 (hAI g1 386 5) ∧ ∀ r, 387 ≤ r → r ≤ 390 → hAI g r = bcp (40 * 5) (40 * 0) 40 (hAI g1 r) := by
        have S := L4_S (sAI g1 386 (upd (hAI g1 386) 0 (hAI g1 386 5))) (bcp (40 * 5) (40 * 0) 40 (hAI g1 387)) (bcp (40 * 5) (40 * 0) 40 (hAI g1 388)) (bcp (40 * 5) (40 * 0) 40 (hAI g1 389)) (bcp (40 * 5) (40 * 0) 40 (hAI g1 390))
        obtain ⟨S1, S2, S3, S4, S5, S6, S7⟩ := S
        refine ⟨_, rfl, by rw [S1, rd_hK_sAI], by rw [S2, rd_hFR_sAI], by rw [S3, rd_hLN_sAI], by rw [S4, rd_hAR_sAI], by rw [S7, rd_hNX_sAI], by rw [S5, rd_hAJ_sAI], by rw [S6, rd_hFJ_sAI], by rw [L4_F, rd_hFI_sAI], fun x e => by rw [L4_o _ _ _ _ _ (by omega), sAI_ne _ _ (by omega)], by rw [L4_o _ _ _ _ _ (by omega), sAI_at], fun r r1 r2 => ?_⟩
        rcases (show r = 387 ∨ r = 388 ∨ r = 389 ∨ r = 390 by omega) with z | z | z | z
        · rw [z, L4_1]
        · rw [z, L4_2]
        · rw [z, L4_3]
        · rw [z, L4_4]
      rw [eg] at km
      have mf : MF k g := ⟨by rw [g1', m1], by rw [g2, m2], by rw [g3, m3], by rw [g4, m4], by rw [g5, m5], by rw [g6, m6], fun j x e => by rw [g7, m7 j x e], fun j x e => by rw [g8, m8 j x e], by rw [g8]; exact m9, fun r i e => by
        by_cases e1 : r < 386 ∨ 390 < r
        · rw [g9 r e1, m10 r i (by omega)]
        · by_cases e2 : r = 386
          · subst e2
            rw [g10, pk_un (by omega), m10 386 i (by omega)]
          · rw [g11 r (by omega) (by omega), bcp_far _ (by omega), m10 r i (by omega)]⟩
      have row : ∀ j, 1 ≤ j → j ≤ 4 → ∀ i, i < 40 → hAI g (71 + j) i = hAI h1 (56 + j) i := fun j j1 j2 i hi => by
        rw [g9 _ (by omega), m10 _ _ (by omega), k5 j j1 j2 i hi, yA]
      have col : ∀ r, 387 ≤ r → r ≤ 390 → ∀ i, i < 40 → hAI g r (40 * 0 + i) = hAI g1 r (200 + i) := fun r r1 r2 i hi => by
        rw [g11 r r1 r2, bcp_at _ hi]
      obtain ⟨z1, z2, z3⟩ := fin h1 k g c kk mf ⟨m, D1, by rw [g8, m8 _ _ (by omega), k1, y56]; exact D2, by rw [g10, pk_us]; exact D3, fun i hi => by
        rw [row 1 (by decide) (by decide) i (by omega), row 2 (by decide) (by decide) i (by omega), row 3 (by decide) (by decide) i (by omega), row 4 (by decide) (by decide) i (by omega), col 387 (by decide) (by decide) i (by omega), col 388 (by decide) (by decide) i (by omega), col 389 (by decide) (by decide) i (by omega), col 390 (by decide) (by decide) i (by omega)]
        exact D4 i hi⟩
      exact ⟨0, k, g, kc, km, w6, z1, z2, z3⟩
