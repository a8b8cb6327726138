/-! rests, the reference on any heap that is like; a step of the law. -/
/-- like Qt, but for the rows of longs and the number of things -/
def Qx (h g : AH) : Prop := hK g = hK h ∧ hFR g = hFR h ∧ hLN g = hLN h ∧ (∀ a, cRow a → hAI g a = hAI h a) ∧ (∀ k a, cFld k a → hFI g k a = hFI h k a) ∧ ∀ j, j < 43 → hAI g 397 j = hAI h 397 j
theorem Qt.qx {h g : AH} (q : Qt h g) : Qx h g := ⟨q.1, q.2.1, q.2.2.1, q.2.2.2.2.2.2.2.1, q.2.2.2.2.2.2.2.2.1, q.2.2.2.2.2.2.2.2.2⟩
theorem Qx.trq {h g k : AH} (a : Qx h g) (b : Qt g k) : Qx h k := by
  obtain ⟨a1, a2, a3, a4, a5, a6⟩ := a
  obtain ⟨b1, b2, b3, b4, b5, b6⟩ := b.qx
  exact ⟨b1.trans a1, b2.trans a2, b3.trans a3, fun x e => (b4 x e).trans (a4 x e), fun k x e => (b5 k x e).trans (a5 k x e), fun j e => (b6 j e).trans (a6 j e)⟩
theorem Qx.out {h g : AH} (a : Qx h g) (v : Int64) : Qx h (sEJ g 410 0 v) := by
  obtain ⟨a1, a2, a3, a4, a5, a6⟩ := a
  exact ⟨by rw [rd_hK_sEJ]; exact a1, by rw [rd_hFR_sEJ]; exact a2, by rw [rd_hLN_sEJ]; exact a3, fun x e => by rw [rd_hAI_sEJ]; exact a4 x e, fun k x e => by rw [rd_hFI_sEJ]; exact a5 k x e, fun j e => by rw [rd_hAI_sEJ]; exact a6 j e⟩
theorem Qx.xcp {h g : AH} (a : Qx h g) : Qx h (nXcp g) := by
  obtain ⟨a1, a2, a3, a4, a5, a6⟩ := a
  exact ⟨by rw [rd_hK_nXcp]; exact a1, by rw [rd_hFR_nXcp]; exact a2, by rw [rd_hLN_nXcp]; exact a3, fun x e => by rw [rd_hAI_nXcp]; exact a4 x e, fun k x e => by rw [rd_hFI_nXcp]; exact a5 k x e, fun j e => by rw [rd_hAI_nXcp]; exact a6 j e⟩
theorem Qx.msh {h g : AH} (q : Qx h g) (s : MSh h) : MSh g := s.to q.1 (fun k => by rw [q.2.1]) q.2.2.1
theorem Qx.row {g h : AH} (q : Qx g h) {a : Nat} (ha : cRow a) : hAI h a = hAI g a := q.2.2.2.1 a ha
theorem Qx.q397 {g h : AH} (q : Qx g h) {j : Nat} (hj : j < 43) : hAI h 397 j = hAI g 397 j := q.2.2.2.2.2 j hj
theorem Lk.qx {g h : AH} {p np nc ne nw len n : Nat} {W : Int32 → Int32 → Int32 → Int32 → Int32} (q : Qx g h) (hp4 : p = 4 ∨ p = 30) (s : Lk g g p np nc ne nw len n W) : Lk h h p np nc ne nw len n W := by
  obtain ⟨q1, q2, q3, q8, q9, q10⟩ := q
  exact s.fr q1 (fun k a _ => by rw [q2]) q3 (by omega) (by omega) (fun k hk => q8 _ (by unfold cRow; omega)) (fun k h1 h2 a ha => q9 _ _ (by unfold cFld; omega)) (fun a h1 h2 => q8 _ (by unfold cRow; omega))
def RAnx (d : Nat) (a b e : Int32) (h : AH) : Prop := (∃ r g1, am_C PG (d + 20) 155 [.ref 0, .int a, .int b, .int e] h = some (some (.int r), g1) ∧ Qt h g1 ∧ ∀ G, Qx h G → ∃ g2, am_C PG (d + 21) 262 [.ref 348, .int a, .int b, .int e] G = some (some (.int r), g2) ∧ Qt G g2 ∧ hFI g2 1200 348 = 0) ∨
  ∃ g1, am_C PG (d + 20) 155 [.ref 0, .int a, .int b, .int e] h = some (some (.double 0), g1) ∧ Qt h g1 ∧ ∀ G, Qx h G → ∃ r g2, am_C PG (d + 21) 262 [.ref 348, .int a, .int b, .int e] G = some (some (.int r), g2) ∧ Qt G g2 ∧ hFI g2 1200 348 = 1
theorem st_rests1 {B L d : Nat} {xs : Nat → Int32} {h : AH} (I : Inv B L xs h) (a b e : Int32) : RAnx d a b e h := by
  obtain ⟨k0, f61, f93, f112, k61, f62, f71, f76, S62, D71, H76, A93, a2, S103, Ch, hm, p, np, nc, ne, nw, len, n, W, hr, hp4, f1102, IP, hB, S, D, H⟩ := I.ex
  have m0 := hm.1
  obtain ⟨Lk0, NE, NM, FS, WY⟩ := IP
  have p0 := Lk0.1.1.1.1
  have k112 := Ch.1
  have PR := Lk0.2.2.2.2.2.2.2.1
  have hn5 : np ≤ 5 := Lk0.1.2.2.2.2.2.1
  have hn4 : ne ≤ 4 := Lk0.1.2.2.2.2.2.2.2.1
  have z1 : ((1 : Int32) = 0) = False := eq_false (by decide)
  have zz : ((1 : Int32) = 1) = True := eq_true rfl
  have z01 : ((0 : Int32) = 1) = False := eq_false (by decide)
  have kc := c_isPlace (d := d + 18) Lk0.1 a
  have kc2 := c_isPlace (d := d + 18) Lk0.1 b
  have kmG : ∀ G, Qx h G → ∀ x, am_C PG (d + 20) 209 [.ref 348, .int x] G = some (some (.int (b2i (¬ x < 0 ∧ x < nI np))), G) := fun G q x => c_misPlace (d := d + 19) (q.msh hm) (Lk0.qx q hp4).2.2.2.2.2.2.1 x
  have kG : ∀ G, Qx h G → hK G 348 = 13 := fun G q => by rw [q.1]; exact m0
  -- a refusal of the reference
  have s1 : ∀ G, hFI (sFI G 1200 348 1) 1200 348 = 1 := fun G => sFI_at _ _ _ _
  by_cases ha : ¬ a < 0 ∧ a < nI np
  · by_cases hb : ¬ b < 0 ∧ b < nI np
    · by_cases hab : a = b
      · right
        rw [b2i_t ha] at kc
        rw [b2i_t hb] at kc2
        refine ⟨h, ?_, Qt.rfl' h, fun G q => ⟨0, sFI G 1200 348 1, ?_, th1_qt G 1, s1 G⟩⟩
        · rw [q_X11_rests]
          simp only [am_kd, k0, f1102, f61, f93, f112, k61, f62, f71, f76, if_true, if_false, bR_s, bI_s, p0, kc, kc2, z1, if_pos hab]
        · have k1 := kmG G q a
          have k2 := kmG G q b
          rw [b2i_t ha] at k1
          rw [b2i_t hb] at k2
          have hG := kG G q
          rw [q_X12_rests]
          simp only [am_kd, hG, if_true, if_false, k1, k2, bI_s, z1, if_pos hab, am_let_e, rd_hK_sFI, s1]
      · by_cases he : e < (-1)
        · right
          rw [b2i_t ha] at kc
          rw [b2i_t hb] at kc2
          refine ⟨h, ?_, Qt.rfl' h, fun G q => ⟨0, sFI G 1200 348 1, ?_, th1_qt G 1, s1 G⟩⟩
          · rw [q_X11_rests]
            simp only [am_kd, k0, f1102, f61, f93, f112, k61, f62, f71, f76, if_true, if_false, bR_s, bI_s, p0, kc, kc2, z1, if_neg hab, if_pos he]
          · have k1 := kmG G q a
            have k2 := kmG G q b
            rw [b2i_t ha] at k1
            rw [b2i_t hb] at k2
            have hG := kG G q
            rw [q_X12_rests]
            simp only [am_kd, hG, if_true, if_false, k1, k2, bI_s, z1, if_neg hab, if_pos he, am_let_e, rd_hK_sFI, s1]
        · rw [b2i_t ha] at kc
          rw [b2i_t hb] at kc2
          obtain ⟨one, h1, rfl⟩ := ix_of (by omega) ha
          obtain ⟨other, h2, rfl⟩ := ix_of (by omega) hb
          obtain ⟨q, hq⟩ : ∃ q : Nat → Nat, ∀ x, x < ne → q x < np ∧ hAI h 397 (24 + x) = nI (q x) := by
            refine ⟨fun x => (hAI h 397 (24 + x)).toInt.toNat, fun x hx => ?_⟩
            obtain ⟨⟨y, y1, y2⟩, -, -⟩ := S.2.2.2.2.2.2.2.2.1 x hx
            have y2 : hAI h 397 (24 + x) = nI y := y2
            dsimp only
            rw [y2, nI_toInt (by omega), Int.toNat_natCast]
            exact ⟨y1, rfl⟩
          obtain ⟨r15, r15k, r15n⟩ := Ch.2.2 9 (by decide)
          obtain ⟨r16, r16k, r16n⟩ := Ch.2.2 10 (by decide)
          obtain ⟨u, v, k1⟩ := c_resting (d := d + 16) (s := 62) (one := one) (other := other) (q := q) (w := e) Lk0.1 S62 k112 r15 r16 r15k r16k r15n r16n (by omega) (Nat.le_refl _) (by omega) (by omega) (fun x hx => ⟨by have := (hq x hx).1; omega, ((S.2.2.2.1 x hx).1).trans (hq x hx).2⟩)
          have q1 : Qt h (sAI (sAI h 122 u) 123 v) := (Qt.ai _ 122 _ (by omega)).aih 123 _ (by omega)
          have eA : ∀ x, x < ne → NeR1 ((fun x => hAI h (p + 3) (5 * q x + one)) x) ((fun x => hAI h 385 (5 * q x + one)) x) ∧ NeR1 ((fun x => hAI h (p + 3) (5 * q x + other)) x) ((fun x => hAI h 385 (5 * q x + other)) x) ∧ hAI h (p + 8) x = hAI h 363 x := fun x hx => ⟨NE _ _ (hq x hx).1 h1, NE _ _ (hq x hx).1 h2, PR.2.1 x hx⟩
          generalize hA : rA (fun x => hAI h (p + 3) (5 * q x + one)) (fun x => hAI h (p + 3) (5 * q x + other)) (hAI h (p + 8)) ne = A at k1
          generalize hBB : rB (fun x => hAI h (p + 3) (5 * q x + one)) (fun x => hAI h (p + 3) (5 * q x + other)) (hAI h (p + 8)) ne = BB at k1
          have hAB : ∀ j, j < 100 → mH (fun x => hAI h 385 (5 * q x + one)) (fun x => hAI h 385 (5 * q x + other)) (hAI h 363) (nI (j / 10)) (nI (j % 10)) true ne = A j ∧ mH (fun x => hAI h 385 (5 * q x + one)) (fun x => hAI h 385 (5 * q x + other)) (hAI h 363) (nI (j / 10)) (nI (j % 10)) false ne = BB j := fun j hj => by
            rw [← hA, ← hBB]
            exact NeR_A eA hj
          have ref : ∀ G, Qx h G → am_C PG (d + 21) 262 [.ref 348, .int (nI one), .int (nI other), .int e] G = some (some (.int (rsM (fun i => rAt A BB i 10) e).1), sFI (sFI G 1200 348 0) 1200 348 (rsM (fun i => rAt A BB i 10) e).2) := by
            intro G qG
            have q2 : Qx h (sFI G 1200 348 0) := qG.trq (th_qt _)
            have Lm := Lk0.qx q2 hp4
            have kM := c_mrests (d := d + 17) (ne := ne) (one := one) (other := other) (h := sFI G 1200 348 0) (q := q) (A := A) (B := BB) (w := e) (q2.msh hm) (sFI_at _ _ _ _) Lm.2.2.2.2.2.1.2.1 hn4 (by omega) (by omega) (fun x hx => ⟨by have := (hq x hx).1; omega, by rw [q2.q397 (by omega)]; exact (hq x hx).2⟩) (fun j hj => by
              rw [q2.row (a := 385) (by unfold cRow; omega), q2.row (a := 363) (by unfold cRow; omega)]
              exact hAB j hj)
            have k2 := kmG G qG (nI one)
            have k3 := kmG G qG (nI other)
            rw [b2i_t ha] at k2
            rw [b2i_t hb] at k3
            have hG := kG G qG
            have s0 : hFI (sFI G 1200 348 0) 1200 348 = 0 := sFI_at _ _ _ _
            rw [q_X12_rests]
            simp only [am_kd, hG, if_true, if_false, k2, k3, bI_s, z1, if_neg hab, if_neg he, am_let_e, rd_hK_sFI, s0, z01]
            exact kM
          have cls : am_C PG (d + 20) 155 [.ref 0, .int (nI one), .int (nI other), .int e] h = (if rsA (fun i => rAt A BB i 10) e < 0 then some (some (.double 0), sAI (sAI h 122 u) 123 v) else some (some (.int (rsA (fun i => rAt A BB i 10) e)), sAI (sAI h 122 u) 123 v)) := by
            rw [q_X11_rests]
            simp only [am_kd, k0, f1102, f61, f93, f112, k61, f62, f71, f76, if_true, if_false, bR_s, bI_s, p0, k112, kc, kc2, z1, if_neg hab, if_neg he, k1]
          have hrl := rst_le (fun i => rAt A BB i 10) e 100
          generalize (fun i => rAt A BB i 10) = RR at ref cls hrl
          unfold rsA at cls
          unfold rsM at ref
          cases hres : (rst RR e 100).1 with
          | some w =>
            have hw := hrl.2 w hres
            rw [hres] at cls ref
            have cls : am_C PG (d + 20) 155 [.ref 0, .int (nI one), .int (nI other), .int e] h = some (some (.int (nI w)), sAI (sAI h 122 u) 123 v) := cls.trans (if_neg (nI_pos (by omega)))
            exact Or.inl ⟨nI w, _, cls, q1, fun G qG => ⟨_, ref G qG, (th_qt G).tr (th1_qt _ _), sFI_at _ _ _ _⟩⟩
          | none =>
            rw [hres] at cls ref
            dsimp only at cls ref
            by_cases hem : e = -1
            · rw [if_pos hem] at cls
              rw [if_neg (nI_pos (by omega))] at cls
              exact Or.inl ⟨_, _, cls, q1, fun G qG => ⟨_, by have := ref G qG; rw [if_pos hem] at this; exact this, (th_qt G).tr (th1_qt _ _), sFI_at _ _ _ _⟩⟩
            · rw [if_neg hem, if_pos (show (-1 : Int32) < 0 by decide)] at cls
              exact Or.inr ⟨_, cls, q1, fun G qG => ⟨_, _, by have := ref G qG; rw [if_neg hem] at this; exact this, (th_qt G).tr (th1_qt _ _), sFI_at _ _ _ _⟩⟩
    · right
      rw [b2i_t ha] at kc
      rw [b2i_f hb] at kc2
      refine ⟨h, ?_, Qt.rfl' h, fun G q => ⟨0, sFI G 1200 348 1, ?_, th1_qt G 1, s1 G⟩⟩
      · rw [q_X11_rests]
        simp only [am_kd, k0, f1102, f61, f93, f112, k61, f62, f71, f76, if_true, if_false, bR_s, bI_s, p0, kc, kc2, z1]
      · have k1 := kmG G q a
        have k2 := kmG G q b
        rw [b2i_t ha] at k1
        rw [b2i_f hb] at k2
        have hG := kG G q
        rw [q_X12_rests]
        simp only [am_kd, hG, if_true, if_false, k1, k2, bI_s, z1, am_let_e, rd_hK_sFI, s1]
  · right
    rw [b2i_f ha] at kc
    refine ⟨h, ?_, Qt.rfl' h, fun G q => ⟨0, sFI G 1200 348 1, ?_, th1_qt G 1, s1 G⟩⟩
    · rw [q_X11_rests]
      simp only [am_kd, k0, f1102, f61, f93, f112, k61, f62, f71, f76, if_true, if_false, bR_s, bI_s, p0, kc]
    · have k1 := kmG G q a
      rw [b2i_f ha] at k1
      have hG := kG G q
      rw [q_X12_rests]
      simp only [am_kd, hG, if_true, k1, bI_s, am_let_e, rd_hK_sFI, s1]
theorem lg_cmp_self (a : Int64) : lg_cmp a a = 0 := by
  unfold lg_cmp
  rw [if_neg (Int64.lt_irrefl), if_pos rfl]
/-- rests in the law: the helper, then the reference and what it threw -/
theorem st_rests {B L d : Nat} {xs : Nat → Int32} {h : AH} (I : Inv B L xs h) (a b e : Int32) : ∃ r s g1 g2, am_C PG (d + 40) 273 [.ref 0, .int a, .int b, .int e, .ref 410] h = some (some (.int r), g1) ∧ am_C PG (d + 40) 262 [.ref 348, .int a, .int b, .int e] g1 = some (some (.int s), g2) ∧ hFI g2 1200 348 = r ∧ (r = 0 → hAJ g2 410 0 = Int32.toInt64 s) ∧ LawK h g1 ∧ LawK g1 g2 ∧ hNX g2 ≤ hNX h + 1 ∧ Inv B L xs g2 := by
  obtain ⟨k0, -, -, -, -, -, -, -, -, -, -, -, -, -, -, -, -, -, -, -, -, -, -, k410, -⟩ := id I.1
  have i0 : ∀ x, am_in (0 : Int32) 1 x = x := am_inN (i := 0) (by decide) (by decide)
  rcases st_rests1 (d := d + 19) I a b e with ⟨r, g1, c, q, m⟩ | ⟨g1, c, q, m⟩
  · obtain ⟨g2, m1, m2, m3⟩ := m _ (q.qx.out (Int32.toInt64 r))
    have k1 : hK g1 410 = 53 := by rw [q.1]; exact k410.1
    have l1 : hLN g1 410 = 1 := by rw [q.2.2.1]; exact k410.2
    have I1 : Inv B L xs (sEJ g1 410 0 (Int32.toInt64 r)) := (Inv.qt q I).out _
    refine ⟨0, r, sEJ g1 410 0 (Int32.toInt64 r), g2, ?_, m1, m3, fun _ => ?_, ?_, m2.law, ?_, Inv.qt m2 I1⟩
    · rw [q_L_rests, am_kd_t k0]
      have c' : am_C PG (d + 39) 155 [.ref 0, .int a, .int b, .int e] h = some (some (.int r), g1) := c
      rw [c']
      show am_kd g1 410 53 (am_in (0 : Int32) (hLN g1 410) (am_let (sEJ g1 410 (Int32.toNatClampNeg (0 : Int32)) (Int32.toInt64 r)) fun h4 => some (some (.int (0 : Int32)), h4))) = _
      rw [am_kd_t k1, l1, i0, am_let_e, nI_cl0]
    · rw [m2.2.2.2.2.1]
      show am_up (hAJ g1) 410 (vp_updL (hAJ g1 410) 0 (Int32.toInt64 r)) 410 0 = _
      rw [am_up_eq]
      exact if_pos rfl
    · obtain ⟨w1, w2, w3⟩ := q.law
      exact ⟨by rw [rd_hK_sEJ]; exact w1, by rw [rd_hLN_sEJ]; exact w2, by rw [rd_hAI_sEJ]; exact w3⟩
    · rw [m2.2.2.2.2.2.1, rd_hNX_sEJ, q.2.2.2.2.2.1]; omega
  · obtain ⟨s, g2, m1, m2, m3⟩ := m _ q.qx.xcp
    have I1 : Inv B L xs (nXcp g1) := (Inv.qt q I).xcp
    refine ⟨1, s, nXcp g1, g2, ?_, m1, m3, fun z => absurd z (by decide), ?_, m2.law, ?_, Inv.qt m2 I1⟩
    · rw [q_L_rests, am_kd_t k0]
      have c' : am_C PG (d + 39) 155 [.ref 0, .int a, .int b, .int e] h = some (some (.double 0), g1) := c
      rw [c']
      rfl
    · obtain ⟨w1, w2, w3⟩ := q.law
      exact ⟨by rw [rd_hK_nXcp]; exact w1, by rw [rd_hLN_nXcp]; exact w2, by rw [rd_hAI_nXcp]; exact w3⟩
    · rw [m2.2.2.2.2.2.1, rd_hNX_nXcp, q.2.2.2.2.2.1]; omega
