/-! The reader: products, sums, tests, expressions of a law, both sides. -/
/-- what a stretch of a law leads to -/
def Out (a n : Nat) (T : Nat → Nat) (w b l c : Nat) (h g : AH) (C M : Option Res) (d2 m : Nat) (Pre : (Nat → Nat → Int32) → Prop) (Post : (Nat → Nat → Int32) → (Nat → Nat → Int32) → Int32 → Prop) (Ex : Nat → AH → Prop) : Prop := Fz a h g C M ∨ ∃ h' g' b' l' c' V, C = some (some (.int 1), h') ∧ M = Hd d2 w 0 g' ∧ PQ a n T w b l c h g b' l' c' h' g' ∧ Ex b' g' ∧ SemC (hAI h' (a + 15)) l l' m V ∧ SemM (fun i => hAI g' 372 (1000 + i)) c c' w w Pre Post V
def SubC (a n : Nat) (T : Nat → Nat) (X KX w m : Nat) (Rq : AH → Prop) (Pre : (Nat → Int32) → (Nat → Nat → Int32) → Prop) (Post : (Nat → Nat → Int32) → (Nat → Nat → Int32) → Int32 → Prop) (Ex : AH → Nat → AH → Prop) : Prop := ∀ (d d2 b l c : Nat) (h g : AH), TS a n T b h g l c → Rq g → Out a n T w b l c h g (am_C PG (d + KX) X [.ref 3, .int (nI w)] h) (Hd d2 w 1 g) d2 m (Pre (hAI g 373)) Post (Ex g)
def MOx (w : Nat) (O : Nat → Int32) (τ : Nat → Nat → Int32) : Prop := MO O w τ
theorem MO.cg {O O' : Nat → Int32} {w : Nat} {τ : Nat → Nat → Int32} (e : ∀ i, i ≤ w → O' i = O i) (s : MO O w τ) : MO O' w τ := fun i h1 h2 => by rw [e i h2]; exact s i h1 h2
def RqO (w : Nat) (g : AH) : Prop := Opn (hAI g 373) w
theorem PartC.sub {a n w K : Nat} {T : Nat → Nat} (P : PartC a n T w K) : SubC a n T 99 (K + 4) w (4 * w + 4) (RqO w) (fun O => MO O w) (PoPart w) (fun g _ g' => hAI g' 374 w = hAI g 374 w) := fun d d2 b l c h g S R => by
  rcases P d d2 b l c h g S with F | ⟨h', g', b', l', c', V, p1, p2, p3, p4, p5, p6⟩
  · exact Or.inl F
  · rw [drp_opn R] at p2 p6
    exact Or.inr ⟨h', g', b', l', c', V, p1, p2, p3, p4, p5, p6⟩
/-- an operator, and what stands behind it -/
theorem op_step {a n X KX w m b0 l0 c0 b l c d d2 : Nat} {T : Nat → Nat} {Rq : AH → Prop} {Pre : (Nat → Int32) → (Nat → Nat → Int32) → Prop} {Post : (Nat → Nat → Int32) → (Nat → Nat → Int32) → Int32 → Prop} {Ex : AH → Nat → AH → Prop} {h0 g0 h g h1 g1 G : AH} (ha : 3 < a) (ha2 : a ≤ 30) (Sub : SubC a n T X KX w m Rq Pre Post Ex) (p : PQ a n T w b0 l0 c0 h0 g0 b l c h g) (hl0 : l0 ≤ b0) (hb : b < n) (v x : Int32)
    (q : TQ h h1) (cx1 : CX h1 a n T (nxt n T b)) (gG : ML g G) (e : hFI G 1233 348 = nI (1000 + (c + 1))) (pc : ∀ i, i < c → hAI G 372 (1000 + i) = hAI g 372 (1000 + i)) (po : ∀ i, i ≤ w → hAI G 373 i = hAI g 373 i) (pk : ∀ i, i < w → hAI G 374 i = hAI g 374 i) (px : hAI G 372 (1000 + c) = x) (r : MQt G g1) (mx1 : MX g1 n T (nxt n T b)) (R : Rq g1) :
    Fz a h0 g0 (am_C PG (d + KX) X [.ref 3, .int (nI w)] h1) (Hd d2 w 1 g1) ∨ ∃ h2 g2 b2 l2 c2 V2, am_C PG (d + KX) X [.ref 3, .int (nI w)] h1 = some (some (.int 1), h2) ∧ Hd d2 w 1 g1 = Hd d2 w 0 g2 ∧ CX h2 a n T b2 ∧ hFI h2 401 (a + 14) = nI l2 ∧ l2 < 1000 ∧ PQ a n T w b0 l0 c0 h0 g0 b2 (l2 + 1) c2 (sFI (sEI h2 (a + 15) l2 v) 401 (a + 14) (nI (l2 + 1))) g2 ∧ b < b2 ∧ Ex g1 b2 g2 ∧
      (∀ i, i < l → hAI (sFI (sEI h2 (a + 15) l2 v) 401 (a + 14) (nI (l2 + 1))) (a + 15) i = hAI h (a + 15) i) ∧ hAI (sFI (sEI h2 (a + 15) l2 v) 401 (a + 14) (nI (l2 + 1))) (a + 15) l2 = v ∧ l ≤ l2 ∧ SemC (hAI (sFI (sEI h2 (a + 15) l2 v) 401 (a + 14) (nI (l2 + 1))) (a + 15)) l l2 m V2 ∧
      (∀ i, i < c → hAI g2 372 (1000 + i) = hAI g 372 (1000 + i)) ∧ hAI g2 372 (1000 + c) = x ∧ c + 1 ≤ c2 ∧ SemM (fun i => hAI g2 372 (1000 + i)) (c + 1) c2 w w (Pre (hAI g1 373)) Post V2 ∧ ∀ i, i ≤ w → hAI g1 373 i = hAI g0 373 i := by
  have S := p.2.2.1
  have pq := PQ.step S hb q cx1 gG e pc po pk r mx1
  have oo : ∀ i, i ≤ w → hAI g1 373 i = hAI g0 373 i := fun i hi => (pq.2.2.2.2.2.2.2.2.2.2.1 i hi).trans (p.2.2.2.2.2.2.2.2.2.2.1 i hi)
  rcases Sub d d2 (nxt n T b) l (c + 1) h1 g1 pq.2.2.1 R with F | ⟨h2, g2, b2, l2, c2, V2, s1, s2, s3, s4, s5, s6⟩
  · left
    exact F.lift ((p.1.tr pq.1).cs ha).1 ((p.2.1.tr pq.2.1).mz)
  · right
    have pq2 := pq.tr s3
    have pq3 := p.tr pq2
    obtain ⟨cx2, mx2, t1, t2, t3, t4⟩ := s3.2.2.1
    have hn : n ≤ 1000 := cx2.ff.2.2.2.2.2.2.2
    have hx := pq.2.2.2.1
    have hl := S.2.2.2.2.1
    have hl2 := s3.2.2.2.2.2.1
    have hb2 := s3.2.2.2.1
    have hb3 := p.2.2.2.1
    have hl3 := p.2.2.2.2.2.1
    have hlA := s3.2.2.2.2.1
    have hlB := p.2.2.2.2.1
    have le2 := cx2.le
    refine ⟨h2, g2, b2, l2, c2, V2, s1, s2, cx2, t1, by omega, pq3.code ha ha2 (by omega) hl0 v, by omega, s4, fun i hi => ?_, code_at h2 a l2 v, hlA, codeC v s5, fun i hi => ?_, ?_, by have := s3.2.2.2.2.2.2.1; omega, s6, oo⟩
    · rw [rd_hAI_sFI, sEI_at, pk_un (by omega)]
      exact pq2.2.2.2.2.2.2.2.2.1 i hi
    · exact pq2.2.2.2.2.2.2.2.2.2.1 i hi
    · rw [s3.2.2.2.2.2.2.2.2.2.1 c (by omega), r.2.2.2.1, px]
theorem jn_12 (l r : Int32) : jn (-12) l r = l * r := rfl
theorem jn_11 (l r : Int32) : jn (-11) l r = l - r := rfl
theorem jn_10 (l r : Int32) : jn (-10) l r = l + r := rfl
theorem jn_9 (l r : Int32) : jn (-9) l r = if l = r then 1 else 0 := rfl
theorem jn_8 (l r : Int32) : jn (-8) l r = if l < r then 1 else 0 := rfl
theorem jn_7 (l r : Int32) : jn (-7) l r = if l = 0 then (if r = 0 then 0 else 1) else 1 := rfl
theorem jn_6 (l r : Int32) : jn (-6) l r = if l = 0 then 0 else (if r = 0 then 0 else 1) := rfl
theorem sgn_b {n b : Nat} {T : Nat → Nat} {s : Int32} (hs : s ≠ 0) (e : sgn n T b = s) : b < n := (tkS_3 (sgn_3 (n := n) (T := T) (b := b) (by rw [e]; exact hs)).1).1
theorem wrd_b {n b : Nat} {T : Nat → Nat} {s : Int64} (hs : s ≠ 0) (e : wrd n T b = s) : b < n := (tkS_1 (tk1 (n := n) (T := T) (b := b) (by rw [e]; exact hs)).1).1
theorem prod_loop {a n w K d d2 b0 l0 c0 : Nat} {T : Nat → Nat} {h0 g0 : AH} (ha : 3 < a) (ha2 : a ≤ 30) (hw : w ≤ 5) (Sub : SubC a n T 99 (K + 4) w (4 * w + 4) (RqO w) (fun O => MO O w) (PoPart w) (fun g _ g' => hAI g' 374 w = hAI g 374 w)) (hl0 : l0 ≤ b0) (hO : Opn (hAI g0 373) w) : ∀ (j i b l c : Nat) (h g : AH) (V : Int32 → Int32 → Int32 → Int32 → Int32), n ≤ b + j → i ≤ b → PQ a n T w b0 l0 c0 h0 g0 b l c h g → hAI g 374 w = hAI g0 374 w → SemC (hAI h (a + 15)) l0 l (4 * w + 3) V → SemM (fun i => hAI g 372 (1000 + i)) c0 c w w (PrProd (hAI g0 373) w) (PoProd w) V → Out a n T w b0 l0 c0 h0 g0 (am_R PG (d + K + 5) 98 12 [some (.ref 3), some (.int (nI w)), some (.int (nI i))] [] h) (Hd d2 w 0 g) d2 (4 * w + 3) (PrProd (hAI g0 373) w) (PoProd w) ((fun g b' g' => hAI g' 374 w = hAI g 374 w ∧ sgn n T b' ≠ 42) g0) := by
  intro j
  induction j with
  | zero =>
    intro i b l c h g V hj hi p E sc sm
    have S := p.2.2.1
    obtain ⟨cx, mx, e1, e2, hl, hc⟩ := S
    have hn : n ≤ 1000 := cx.ff.2.2.2.2.2.2.2
    obtain ⟨k3, k1, ka, k14, k17, kr2, kr4, kr5, kr6, kr7, kr8, kr9, kr10, kr11, kr12, kr13, kr18, kr21, kr22, kr24, nr2, nr4, nr5, nr6, nr7, nr8, nr9, nr10, nr11, nr12, nr13, nr18, nr21, nr22, nr24⟩ := cx.kl
    obtain ⟨f600, f601, f500, f506, f508, f509, f510, f511, f512, f513, f514, f515, f516, f517, f518, f519, f701, f704, f705, f707⟩ := cx.fr
    have es := cx.ff.2.2.2.2.2.2.1
    have ew := cx.wd
    have z1 : ((1 : Int32) = 0) = False := eq_false (by decide)
    have ym12 : ((-12 : Int32) = 0) = False := eq_false (by decide)
    have t42 : ¬ sgn n T b = 42 := fun z => by have := sgn_b (by decide) z; omega
    refine Or.inr ⟨h, g, b, l, c, V, ?_, rfl, p, ⟨E, t42⟩, sc, sm⟩
    rw [q_X6_product_12]
    by_cases q : i < 1000
    · have lt : (nI i < (1000 : Int32)) = True := eq_true (nI_lt (b := 1000) q (by decide))
      simp only [am_kd, k3, k1, f600, lt, if_true, bR_s, es, eq_false t42, if_false, am_nar4_1]
    · have lt : (nI i < (1000 : Int32)) = False := eq_false (nI_nlt (b := 1000) (by omega) (by have := cx.le; omega))
      simp only [lt, if_false, am_nar4_1]
  | succ j ih =>
    intro i b l c h g V hj hi p E sc sm
    have S := p.2.2.1
    obtain ⟨cx, mx, e1, e2, hl, hc⟩ := S
    have hn : n ≤ 1000 := cx.ff.2.2.2.2.2.2.2
    obtain ⟨k3, k1, ka, k14, k17, kr2, kr4, kr5, kr6, kr7, kr8, kr9, kr10, kr11, kr12, kr13, kr18, kr21, kr22, kr24, nr2, nr4, nr5, nr6, nr7, nr8, nr9, nr10, nr11, nr12, nr13, nr18, nr21, nr22, nr24⟩ := cx.kl
    obtain ⟨f600, f601, f500, f506, f508, f509, f510, f511, f512, f513, f514, f515, f516, f517, f518, f519, f701, f704, f705, f707⟩ := cx.fr
    have es := cx.ff.2.2.2.2.2.2.1
    have ew := cx.wd
    have z1 : ((1 : Int32) = 0) = False := eq_false (by decide)
    have ym12 : ((-12 : Int32) = 0) = False := eq_false (by decide)
    by_cases t42 : sgn n T b = 42
    · have hb := sgn_b (by decide) t42
      have lt : (nI i < (1000 : Int32)) = True := eq_true (nI_lt (b := 1000) (by omega) (by decide))
      obtain ⟨h1, a1, a2, a3⟩ := r_adv (d := d + K + 1) cx
      obtain ⟨g1, b1, b2, b3⟩ := m_h42 (d := d2) (w := w) mx e2 (by omega) t42
      have o1 : ∀ i, i ≤ w → hAI g1 373 i = hAI g0 373 i := fun i hi => by rw [b2.2.2.2.1, rd_hAI_sFI, sEI_ne _ _ _ (by decide)]; exact p.2.2.2.2.2.2.2.2.2.2.1 i hi
      have r1 : Opn (hAI g1 373) w := by
        rcases hO with z | z
        · exact Or.inl z
        · exact Or.inr (by rw [o1 w (Nat.le_refl _)]; exact z)
      rw [b1]
      have kC : am_R PG (d + K + 5) 98 12 [some (.ref 3), some (.int (nI w)), some (.int (nI i))] [] h = bI (am_C PG (d + K + 4) 99 [.ref 3, .int (nI w)] h1) (fun v h2 => if v = 0 then some (some (.int 0), h2) else am_kd h2 3 7 (bR (hFR h2 601 3) fun r5 => am_kd h2 r5 6 (bR (hFR h2 518 r5) fun r6 => am_kd h2 r6 5 (bV (am_C PG (d + K + 4) 44 [.ref r6, .int (-12)] h2) fun h7 => am_R PG (d + K + 5) 98 12 [some (.ref 3), some (.int (nI w)), some (.int (nI (i + 1)))] [] h7)))) := by
        have k3' : hK h1 3 = 7 := by rw [a2.1]; exact k3
        rw [q_X6_product_12]
        simp only [am_kd, k3, k1, f600, lt, if_true, bR_s, es, eq_true t42, if_false, a1, bV_s, k3', nI_1, am_nar4_0]
      rw [kC]
      rcases op_step (d := d) (d2 := d2) ha ha2 Sub p hl0 hb (-12) 22 a2 a3 (ML.put g c 22) (by exact sFI_at _ _ _ _) (fun i hi => by rw [rd_hAI_sFI, sEI_at, pk_un (by omega)]) (fun i hi => by rw [rd_hAI_sFI, sEI_ne _ _ _ (by decide)]) (fun i hi => by rw [rd_hAI_sFI, sEI_ne _ _ _ (by decide)]) (by rw [rd_hAI_sFI, sEI_at, pk_us]) b2 b3 r1 with F | ⟨h2, g2, b2', l2, c2, V2, u1, u2, u3, u4, u5, u6, u7, u8, u9, u10, u11, u12, u13, u14, u15, u16, u17⟩
      · obtain ⟨f, h', g', f0, q1, q2, q3, q4⟩ := F
        have q1 : am_C PG (d + K + 4) 99 [.ref 3, .int (nI w)] h1 = _ := q1
        exact Or.inl ⟨f, h', g', f0, by rw [q1, bI_s, if_pos rfl], q2, q3, q4⟩
      · have u1 : am_C PG (d + K + 4) 99 [.ref 3, .int (nI w)] h1 = _ := u1
        rw [u1, bI_s, u2]
        obtain ⟨k3, k1, ka, k14, k17, kr2, kr4, kr5, kr6, kr7, kr8, kr9, kr10, kr11, kr12, kr13, kr18, kr21, kr22, kr24, nr2, nr4, nr5, nr6, nr7, nr8, nr9, nr10, nr11, nr12, nr13, nr18, nr21, nr22, nr24⟩ := u3.kl
        obtain ⟨f600, f601, f500, f506, f508, f509, f510, f511, f512, f513, f514, f515, f516, f517, f518, f519, f701, f704, f705, f707⟩ := u3.fr
        have ka2 := c_ladd (d := d + K + 3) u3 u4 u5 (-12)
        have ka2 : am_C PG (d + K + 4) 44 [.ref (a + 14), .int (-12)] h2 = some (none, sFI (sEI h2 (a + 15) l2 (-12)) 401 (a + 14) (nI (l2 + 1))) := ka2
        simp only [am_kd, am_let_e, bR_s, am_nar4_0, am_nar4_1, if_true, if_false, z1, rd_hK_sEI, rd_hFR_sEI, rd_hLN_sEI, rd_hFI_sEI, rd_hFJ_sEI, rd_hK_sEJ, rd_hFR_sEJ, rd_hLN_sEJ, rd_hFI_sEJ, rd_hAI_sEJ, rd_hK_sFI, rd_hFR_sFI, rd_hLN_sFI, rd_hAI_sFI, k3, k1, ka, k14, k17, kr2, kr4, kr5, kr6, kr7, kr8, kr9, kr10, kr11, kr12, kr13, kr18, kr21, kr22, kr24, nr2, nr4, nr5, nr6, nr7, nr8, nr9, nr10, nr11, nr12, nr13, nr18, nr21, nr22, nr24, f600, f601, f500, f506, f508, f509, f510, f511, f512, f513, f514, f515, f516, f517, f518, f519, f701, f704, f705, f707, ka2, bV_s]
        have sc2 := SemC.bin (c := -12) u10 (by decide) u11 (sc.mono u9) u12
        have sm2 := SemM.star (O := hAI g0 373) (cs0 := fun i => hAI g2 372 (1000 + i)) hO (by omega) u14 u15 (sm.mono u13) (by rw [drp_opn hO]; exact u16.pre (fun τ z => MO.cg u17 z))
        refine ih (i + 1) b2' (l2 + 1) c2 _ g2 _ (by omega) (by omega) u6 ?_ (sc2.val (fun b o k s => jn_12 _ _)) sm2
        rw [u8, b2.2.2.2.1, rd_hAI_sFI, sEI_ne _ _ _ (by decide)]; exact E
    refine Or.inr ⟨h, g, b, l, c, V, ?_, rfl, p, ⟨E, t42⟩, sc, sm⟩
    rw [q_X6_product_12]
    by_cases q : i < 1000
    · have lt : (nI i < (1000 : Int32)) = True := eq_true (nI_lt (b := 1000) q (by decide))
      simp only [am_kd, k3, k1, f600, lt, if_true, bR_s, es, eq_false t42, if_false, am_nar4_1]
    · have lt : (nI i < (1000 : Int32)) = False := eq_false (nI_nlt (b := 1000) (by omega) (by have := cx.le; omega))
      simp only [lt, if_false, am_nar4_1]
