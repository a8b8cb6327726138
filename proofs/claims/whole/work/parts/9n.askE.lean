/-! rests: class and reference one behind the other. -/
theorem hAJ_410 (h : AH) (v : Int64) {a : Nat} (ha : a ≠ 410) : hAJ (sEJ h 410 0 v) a = hAJ h a := am_up_ne ha
/-- the law's own row, the number of things: Inv doesn't speak of them -/
theorem Inv.out {B L : Nat} {xs : Nat → Int32} {h : AH} (v : Int64) (I : Inv B L xs h) : Inv B L xs (sEJ h 410 0 v) := by
  obtain ⟨s1, s2, s3, s4, s5, s6, p, dp, np, nc, ne, nw, len, n, W, t1, t2, t3, ⟨L0, NE, ⟨N1, N2, N3⟩, FS, WY⟩, t5, t6, t7, t8, t9⟩ := I
  have hp : 3 < p ∧ p ≤ 30 := by rcases t1 with ⟨z, _⟩ | ⟨z, _⟩ <;> subst z <;> decide
  refine ⟨s1.to rfl (fun _ _ _ _ _ => rfl) rfl rfl, s2.to rfl rfl rfl (fun _ _ _ => rfl) (fun _ _ => rfl), s3, s4, s5, s6, p, dp, np, nc, ne, nw, len, n, W, t1, t2, t3, ⟨L0.fr rfl (fun _ _ _ => rfl) rfl hp.1 hp.2 (fun _ _ => rfl) (fun _ _ _ _ _ => rfl) (fun _ _ _ => rfl), NE, ⟨fun i hi => ?_, fun i hi => ?_, fun i hi => ?_⟩, FS, WY⟩, t5, t6, t7, t8, t9⟩
  · rw [hAJ_410 _ _ (by omega), hAJ_410 _ _ (by decide)]; exact N1 i hi
  · rw [hAJ_410 _ _ (by omega), hAJ_410 _ _ (by decide)]; exact N2 i hi
  · rw [hAJ_410 _ _ (by omega), hAJ_410 _ _ (by decide)]; exact N3 i hi
theorem Inv.xcp {B L : Nat} {xs : Nat → Int32} {h : AH} (I : Inv B L xs h) : Inv B L xs (nXcp h) := by
  obtain ⟨s1, s2, s3, s4, s5, s6, p, dp, np, nc, ne, nw, len, n, W, t1, t2, t3, ⟨L0, NE, N1, FS, WY⟩, t5, t6, t7, t8, t9⟩ := I
  have hp : 3 < p ∧ p ≤ 30 := by rcases t1 with ⟨z, _⟩ | ⟨z, _⟩ <;> subst z <;> decide
  exact ⟨s1.to rfl (fun _ _ _ _ _ => rfl) rfl rfl, s2.to rfl rfl rfl (fun _ _ _ => rfl) (fun _ _ => rfl), s3, s4, s5, s6, p, dp, np, nc, ne, nw, len, n, W, t1, t2, t3, ⟨L0.fr rfl (fun _ _ _ => rfl) rfl hp.1 hp.2 (fun _ _ => rfl) (fun _ _ _ _ _ => rfl) (fun _ _ _ => rfl), NE, N1, FS, WY⟩, t5, t6, t7, t8, t9⟩
/-- what rests gives: class's answer or throw, then the reference's answer and its 'thrown' -/
def RAns (d : Nat) (a b e : Int32) (h : AH) : Prop := (∃ r g1, am_C PG (d + 20) 155 [.ref 0, .int a, .int b, .int e] h = some (some (.int r), g1) ∧ Qt h g1 ∧ ∀ G, Qt h G → ∃ g2, am_C PG (d + 21) 262 [.ref 348, .int a, .int b, .int e] G = some (some (.int r), g2) ∧ Qt G g2 ∧ hFI g2 1200 348 = 0) ∨
  ∃ g1, am_C PG (d + 20) 155 [.ref 0, .int a, .int b, .int e] h = some (some (.double 0), g1) ∧ Qt h g1 ∧ ∀ G, Qt h G → ∃ r g2, am_C PG (d + 21) 262 [.ref 348, .int a, .int b, .int e] G = some (some (.int r), g2) ∧ Qt G g2 ∧ hFI g2 1200 348 = 1
theorem th1_qt (h : AH) (v : Int32) : Qt h (sFI h 1200 348 v) := Qt.fi _ _ _ _ (by unfold cFld; omega)
theorem st_rests0 {B L d : Nat} {xs : Nat → Int32} {h : AH} (I : Inv B L xs h) (a b e : Int32) : RAns d a b e h := by
  obtain ⟨k0, f61, f93, f112, k61, f62, f71, f76, S62, D71, H76, A93, a2, S103, Ch, hm, p, np, nc, ne, nw, len, n, W, hr, hp4, f1102, IP, hB, S, D, H⟩ := I.ex
  have m0 := hm.1
  obtain ⟨Lk0, NE, NM, FS, WY⟩ := IP
  have p0 := Lk0.1.1.1.1
  have k112 := Ch.1
  have PR := Lk0.2.2.2.2.2.2.2.1
  have hn5 : np ≤ 5 := Lk0.1.2.2.2.2.2.1
  have hn4 : ne ≤ 4 := Lk0.1.2.2.2.2.2.2.2.1
  have z1 : ((1 : Int32) = 0) = False := eq_false (by decide)
  have zz : ((1 : Int32) = 1) = True := eq_true rfl
  have z01 : ((0 : Int32) = 1) = False := eq_false (by decide)
  have kc := c_isPlace (d := d + 18) Lk0.1 a
  have kc2 := c_isPlace (d := d + 18) Lk0.1 b
  have kmG : ∀ G, Qt h G → ∀ x, am_C PG (d + 20) 209 [.ref 348, .int x] G = some (some (.int (b2i (¬ x < 0 ∧ x < nI np))), G) := fun G q x => c_misPlace (d := d + 19) (q.msh hm) (Lk0.qt q hp4).2.2.2.2.2.2.1 x
  have kG : ∀ G, Qt h G → hK G 348 = 13 := fun G q => by rw [q.1]; exact m0
  -- a refusal of the reference
  have s1 : ∀ G, hFI (sFI G 1200 348 1) 1200 348 = 1 := fun G => sFI_at _ _ _ _
  by_cases ha : ¬ a < 0 ∧ a < nI np
  · by_cases hb : ¬ b < 0 ∧ b < nI np
    · by_cases hab : a = b
      · right
        rw [b2i_t ha] at kc
        rw [b2i_t hb] at kc2
        refine ⟨h, ?_, Qt.rfl' h, fun G q => ⟨0, sFI G 1200 348 1, ?_, th1_qt G 1, s1 G⟩⟩
        · rw [q_X11_rests]
          simp only [am_kd, k0, f1102, f61, f93, f112, k61, f62, f71, f76, if_true, if_false, bR_s, bI_s, p0, kc, kc2, z1, if_pos hab]
        · have k1 := kmG G q a
          have k2 := kmG G q b
          rw [b2i_t ha] at k1
          rw [b2i_t hb] at k2
          have hG := kG G q
          rw [q_X12_rests]
          simp only [am_kd, hG, if_true, if_false, k1, k2, bI_s, z1, if_pos hab, am_let_e, rd_hK_sFI, s1]
      · by_cases he : e < (-1)
        · right
          rw [b2i_t ha] at kc
          rw [b2i_t hb] at kc2
          refine ⟨h, ?_, Qt.rfl' h, fun G q => ⟨0, sFI G 1200 348 1, ?_, th1_qt G 1, s1 G⟩⟩
          · rw [q_X11_rests]
            simp only [am_kd, k0, f1102, f61, f93, f112, k61, f62, f71, f76, if_true, if_false, bR_s, bI_s, p0, kc, kc2, z1, if_neg hab, if_pos he]
          · have k1 := kmG G q a
            have k2 := kmG G q b
            rw [b2i_t ha] at k1
            rw [b2i_t hb] at k2
            have hG := kG G q
            rw [q_X12_rests]
            simp only [am_kd, hG, if_true, if_false, k1, k2, bI_s, z1, if_neg hab, if_pos he, am_let_e, rd_hK_sFI, s1]
        · rw [b2i_t ha] at kc
          rw [b2i_t hb] at kc2
          obtain ⟨one, h1, rfl⟩ := ix_of (by omega) ha
          obtain ⟨other, h2, rfl⟩ := ix_of (by omega) hb
          obtain ⟨q, hq⟩ : ∃ q : Nat → Nat, ∀ x, x < ne → q x < np ∧ hAI h 397 (24 + x) = nI (q x) := by
            refine ⟨fun x => (hAI h 397 (24 + x)).toInt.toNat, fun x hx => ?_⟩
            obtain ⟨⟨y, y1, y2⟩, -, -⟩ := S.2.2.2.2.2.2.2.2.1 x hx
            have y2 : hAI h 397 (24 + x) = nI y := y2
            dsimp only
            rw [y2, nI_toInt (by omega), Int.toNat_natCast]
            exact ⟨y1, rfl⟩
          obtain ⟨r15, r15k, r15n⟩ := Ch.2.2 9 (by decide)
          obtain ⟨r16, r16k, r16n⟩ := Ch.2.2 10 (by decide)
          obtain ⟨u, v, k1⟩ := c_resting (d := d + 16) (s := 62) (one := one) (other := other) (q := q) (w := e) Lk0.1 S62 k112 r15 r16 r15k r16k r15n r16n (by omega) (Nat.le_refl _) (by omega) (by omega) (fun x hx => ⟨by have := (hq x hx).1; omega, ((S.2.2.2.1 x hx).1).trans (hq x hx).2⟩)
          have q1 : Qt h (sAI (sAI h 122 u) 123 v) := (Qt.ai _ 122 _ (by omega)).aih 123 _ (by omega)
          have eA : ∀ x, x < ne → NeR1 ((fun x => hAI h (p + 3) (5 * q x + one)) x) ((fun x => hAI h 385 (5 * q x + one)) x) ∧ NeR1 ((fun x => hAI h (p + 3) (5 * q x + other)) x) ((fun x => hAI h 385 (5 * q x + other)) x) ∧ hAI h (p + 8) x = hAI h 363 x := fun x hx => ⟨NE _ _ (hq x hx).1 h1, NE _ _ (hq x hx).1 h2, PR.2.1 x hx⟩
          generalize hA : rA (fun x => hAI h (p + 3) (5 * q x + one)) (fun x => hAI h (p + 3) (5 * q x + other)) (hAI h (p + 8)) ne = A at k1
          generalize hBB : rB (fun x => hAI h (p + 3) (5 * q x + one)) (fun x => hAI h (p + 3) (5 * q x + other)) (hAI h (p + 8)) ne = BB at k1
          have hAB : ∀ j, j < 100 → mH (fun x => hAI h 385 (5 * q x + one)) (fun x => hAI h 385 (5 * q x + other)) (hAI h 363) (nI (j / 10)) (nI (j % 10)) true ne = A j ∧ mH (fun x => hAI h 385 (5 * q x + one)) (fun x => hAI h 385 (5 * q x + other)) (hAI h 363) (nI (j / 10)) (nI (j % 10)) false ne = BB j := fun j hj => by
            rw [← hA, ← hBB]
            exact NeR_A eA hj
          have ref : ∀ G, Qt h G → am_C PG (d + 21) 262 [.ref 348, .int (nI one), .int (nI other), .int e] G = some (some (.int (rsM (fun i => rAt A BB i 10) e).1), sFI (sFI G 1200 348 0) 1200 348 (rsM (fun i => rAt A BB i 10) e).2) := by
            intro G qG
            have q2 : Qt h (sFI G 1200 348 0) := qG.tr (th_qt _)
            have Lm := Lk0.qt q2 hp4
            have kM := c_mrests (d := d + 17) (ne := ne) (one := one) (other := other) (h := sFI G 1200 348 0) (q := q) (A := A) (B := BB) (w := e) (q2.msh hm) (sFI_at _ _ _ _) Lm.2.2.2.2.2.1.2.1 hn4 (by omega) (by omega) (fun x hx => ⟨by have := (hq x hx).1; omega, by rw [q2.q397 (by omega)]; exact (hq x hx).2⟩) (fun j hj => by
              rw [q2.row (a := 385) (by unfold cRow; omega), q2.row (a := 363) (by unfold cRow; omega)]
              exact hAB j hj)
            have k2 := kmG G qG (nI one)
            have k3 := kmG G qG (nI other)
            rw [b2i_t ha] at k2
            rw [b2i_t hb] at k3
            have hG := kG G qG
            have s0 : hFI (sFI G 1200 348 0) 1200 348 = 0 := sFI_at _ _ _ _
            rw [q_X12_rests]
            simp only [am_kd, hG, if_true, if_false, k2, k3, bI_s, z1, if_neg hab, if_neg he, am_let_e, rd_hK_sFI, s0, z01]
            exact kM
          have cls : am_C PG (d + 20) 155 [.ref 0, .int (nI one), .int (nI other), .int e] h = (if rsA (fun i => rAt A BB i 10) e < 0 then some (some (.double 0), sAI (sAI h 122 u) 123 v) else some (some (.int (rsA (fun i => rAt A BB i 10) e)), sAI (sAI h 122 u) 123 v)) := by
            rw [q_X11_rests]
            simp only [am_kd, k0, f1102, f61, f93, f112, k61, f62, f71, f76, if_true, if_false, bR_s, bI_s, p0, k112, kc, kc2, z1, if_neg hab, if_neg he, k1]
          have hrl := rst_le (fun i => rAt A BB i 10) e 100
          generalize (fun i => rAt A BB i 10) = RR at ref cls hrl
          unfold rsA at cls
          unfold rsM at ref
          cases hres : (rst RR e 100).1 with
          | some w =>
            have hw := hrl.2 w hres
            rw [hres] at cls ref
            have cls : am_C PG (d + 20) 155 [.ref 0, .int (nI one), .int (nI other), .int e] h = some (some (.int (nI w)), sAI (sAI h 122 u) 123 v) := cls.trans (if_neg (nI_pos (by omega)))
            exact Or.inl ⟨nI w, _, cls, q1, fun G qG => ⟨_, ref G qG, (th_qt G).tr (th1_qt _ _), sFI_at _ _ _ _⟩⟩
          | none =>
            rw [hres] at cls ref
            dsimp only at cls ref
            by_cases hem : e = -1
            · rw [if_pos hem] at cls
              rw [if_neg (nI_pos (by omega))] at cls
              exact Or.inl ⟨_, _, cls, q1, fun G qG => ⟨_, by have := ref G qG; rw [if_pos hem] at this; exact this, (th_qt G).tr (th1_qt _ _), sFI_at _ _ _ _⟩⟩
            · rw [if_neg hem, if_pos (show (-1 : Int32) < 0 by decide)] at cls
              exact Or.inr ⟨_, cls, q1, fun G qG => ⟨_, _, by have := ref G qG; rw [if_neg hem] at this; exact this, (th_qt G).tr (th1_qt _ _), sFI_at _ _ _ _⟩⟩
    · right
      rw [b2i_t ha] at kc
      rw [b2i_f hb] at kc2
      refine ⟨h, ?_, Qt.rfl' h, fun G q => ⟨0, sFI G 1200 348 1, ?_, th1_qt G 1, s1 G⟩⟩
      · rw [q_X11_rests]
        simp only [am_kd, k0, f1102, f61, f93, f112, k61, f62, f71, f76, if_true, if_false, bR_s, bI_s, p0, kc, kc2, z1]
      · have k1 := kmG G q a
        have k2 := kmG G q b
        rw [b2i_t ha] at k1
        rw [b2i_f hb] at k2
        have hG := kG G q
        rw [q_X12_rests]
        simp only [am_kd, hG, if_true, if_false, k1, k2, bI_s, z1, am_let_e, rd_hK_sFI, s1]
  · right
    rw [b2i_f ha] at kc
    refine ⟨h, ?_, Qt.rfl' h, fun G q => ⟨0, sFI G 1200 348 1, ?_, th1_qt G 1, s1 G⟩⟩
    · rw [q_X11_rests]
      simp only [am_kd, k0, f1102, f61, f93, f112, k61, f62, f71, f76, if_true, if_false, bR_s, bI_s, p0, kc]
    · have k1 := kmG G q a
      rw [b2i_f ha] at k1
      have hG := kG G q
      rw [q_X12_rests]
      simp only [am_kd, hG, if_true, k1, bI_s, am_let_e, rd_hK_sFI, s1]
