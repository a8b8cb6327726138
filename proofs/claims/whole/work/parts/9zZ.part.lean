/-! The reader: a part of a law, both sides. -/
/-- a law has been read on, at level w -/
def PQ (a n : Nat) (T : Nat → Nat) (w b l c : Nat) (h g : AH) (b' l' c' : Nat) (h' g' : AH) : Prop := CL a h h' ∧ ML g g' ∧ TS a n T b' h' g' l' c' ∧ b < b' ∧ l ≤ l' ∧ l' + b ≤ l + b' ∧ c < c' ∧ c' + b ≤ c + b' ∧ (∀ i, i < l → hAI h' (a + 15) i = hAI h (a + 15) i) ∧ (∀ i, i < c → hAI g' 372 (1000 + i) = hAI g 372 (1000 + i)) ∧ (∀ i, i ≤ w → hAI g' 373 i = hAI g 373 i) ∧ ∀ i, i < w → hAI g' 374 i = hAI g 374 i
theorem PQ.tr {a n w b l c b1 l1 c1 b2 l2 c2 : Nat} {T : Nat → Nat} {h g h1 g1 h2 g2 : AH} (p : PQ a n T w b l c h g b1 l1 c1 h1 g1) (q : PQ a n T w b1 l1 c1 h1 g1 b2 l2 c2 h2 g2) : PQ a n T w b l c h g b2 l2 c2 h2 g2 := by
  obtain ⟨p1, p2, p3, p4, p5, p6, p7, p8, p9, p10, p11, p12⟩ := p
  obtain ⟨q1, q2, q3, q4, q5, q6, q7, q8, q9, q10, q11, q12⟩ := q
  exact ⟨p1.tr q1, p2.tr q2, q3, by omega, by omega, by omega, by omega, by omega, fun i hi => (q9 i (by omega)).trans (p9 i hi), fun i hi => (q10 i (by omega)).trans (p10 i hi), fun i hi => (q11 i hi).trans (p11 i hi), fun i hi => (q12 i hi).trans (p12 i hi)⟩
/-- at a lower level -/
theorem PQ.low {a n w w' b l c b1 l1 c1 : Nat} {T : Nat → Nat} {h g h1 g1 : AH} (hw : w' ≤ w) (p : PQ a n T w b l c h g b1 l1 c1 h1 g1) : PQ a n T w' b l c h g b1 l1 c1 h1 g1 := by
  obtain ⟨p1, p2, p3, p4, p5, p6, p7, p8, p9, p10, p11, p12⟩ := p
  exact ⟨p1, p2, p3, p4, p5, p6, p7, p8, p9, p10, fun i hi => p11 i (by omega), fun i hi => p12 i (by omega)⟩
/-- a token that is a code of the model alone -/
theorem PQ.step {a n w b l c : Nat} {T : Nat → Nat} {h g h1 g1 G : AH} (S : TS a n T b h g l c) (hb : b < n) (q : TQ h h1) (cx1 : CX h1 a n T (nxt n T b)) (gG : ML g G) (e : hFI G 1233 348 = nI (1000 + (c + 1))) (pc : ∀ i, i < c → hAI G 372 (1000 + i) = hAI g 372 (1000 + i)) (po : ∀ i, i ≤ w → hAI G 373 i = hAI g 373 i) (pk : ∀ i, i < w → hAI G 374 i = hAI g 374 i) (r : MQt G g1) (mx1 : MX g1 n T (nxt n T b)) : PQ a n T w b l c h g (nxt n T b) l (c + 1) h1 g1 := by
  obtain ⟨cx, mx, e1, e2, hl, hc⟩ := S
  have hx := (nxt_le (T := T) cx.le).2.2 hb
  obtain ⟨r1, r2, r3, r4, r5, r6, r7, r8, r9⟩ := r
  refine ⟨q.ct.cl a, gG.tr (MQt.mt ⟨r1, r2, r3, r4, r5, r6, r7, r8, r9⟩).ml, ⟨cx1, mx1, ?_, ?_, by omega, by omega⟩, hx, Nat.le_refl _, by omega, by omega, by omega, fun i _ => by rw [q.2.2.1], fun i hi => by rw [r4]; exact pc i hi, fun i hi => by rw [r4]; exact po i hi, fun i hi => by rw [r4]; exact pk i hi⟩
  · rw [q.2.2.2.2.2.2.2.2 _ _ (by omega)]; exact e1
  · rw [r9 _ _ (by omega)]; exact e
/-- a code more of the class -/
theorem PQ.code {a n w b l c b1 l1 c1 : Nat} {T : Nat → Nat} {h g h1 g1 : AH} (ha : 3 < a) (ha2 : a ≤ 30) (p : PQ a n T w b l c h g b1 l1 c1 h1 g1) (hl : l1 + 1 + b ≤ l + b1) (hl2 : l ≤ b) (v : Int32) : PQ a n T w b l c h g b1 (l1 + 1) c1 (sFI (sEI h1 (a + 15) l1 v) 401 (a + 14) (nI (l1 + 1))) g1 := by
  obtain ⟨p1, p2, ⟨t1, t2, t3, t4, t5, t6⟩, p4, p5, p6, p7, p8, p9, p10, p11, p12⟩ := p
  exact ⟨p1.tr (CL.add h1 l1 v), p2, ⟨t1.add ha ha2 l1 v, t2, sFI_at _ _ _ _, t4, by omega, t6⟩, p4, by omega, by omega, p7, p8, fun i hi => by rw [rd_hAI_sFI, sEI_at, pk_un (by omega)]; exact p9 i hi, p10, p11, p12⟩
theorem codeC {h1 : AH} {a l1 l : Nat} (v : Int32) {V : Int32 → Int32 → Int32 → Int32 → Int32} {m : Nat} (s : SemC (hAI h1 (a + 15)) l l1 m V) : SemC (hAI (sFI (sEI h1 (a + 15) l1 v) 401 (a + 14) (nI (l1 + 1))) (a + 15)) l l1 m V := s.mono (fun i hi => by rw [rd_hAI_sFI, sEI_at, pk_un (by omega)])
theorem code_at (h1 : AH) (a l1 : Nat) (v : Int32) : hAI (sFI (sEI h1 (a + 15) l1 v) 401 (a + 14) (nI (l1 + 1))) (a + 15) l1 = v := by
  rw [rd_hAI_sFI, sEI_at, pk_us]
def PartC (a n : Nat) (T : Nat → Nat) (w K : Nat) : Prop := ∀ (d d2 b l c : Nat) (h g : AH), TS a n T b h g l c → Fz a h g (am_C PG (d + K + 4) 99 [.ref 3, .int (nI w)] h) (Hd d2 w 1 g) ∨ ∃ h' g' b' l' c' V, am_C PG (d + K + 4) 99 [.ref 3, .int (nI w)] h = some (some (.int 1), h') ∧ Hd d2 w 1 g = Hd d2 (drp (hAI g 373) w) 0 g' ∧ PQ a n T w b l c h g b' l' c' h' g' ∧ hAI g' 374 w = hAI g 374 w ∧ SemC (hAI h' (a + 15)) l l' (4 * w + 4) V ∧ SemM (fun i => hAI g' 372 (1000 + i)) c c' w (drp (hAI g 373) w) (MO (hAI g 373) w) (PoPart w) V
/-- no operator stands there -/
def NoOp (n : Nat) (T : Nat → Nat) (w b : Nat) (g : AH) : Prop := sgn n T b ≠ 43 ∧ sgn n T b ≠ 45 ∧ sgn n T b ≠ 42 ∧ ((sgn n T b ≠ 60 ∧ sgn n T b ≠ 61) ∨ hAI g 374 w ≠ 0) ∧ wrd n T b ≠ 1111 ∧ wrd n T b ≠ 423
def ExprC (a n : Nat) (T : Nat → Nat) (w K : Nat) : Prop := ∀ (d d2 b l c : Nat) (h g : AH), TS a n T b h g l c → Opn (hAI g 373) w → hAI g 374 w = 0 → Fz a h g (am_C PG (d + K + 8) 95 [.ref 3, .int (nI w)] h) (Hd d2 w 1 g) ∨ ∃ h' g' b' l' c' V, am_C PG (d + K + 8) 95 [.ref 3, .int (nI w)] h = some (some (.int 1), h') ∧ Hd d2 w 1 g = Hd d2 w 0 g' ∧ PQ a n T w b l c h g b' l' c' h' g' ∧ NoOp n T w b' g' ∧ SemC (hAI h' (a + 15)) l l' (4 * w) V ∧ SemM (fun i => hAI g' 372 (1000 + i)) c c' w w (PrExpr (hAI g 373) w) (PoExpr w) V
/-- a part that stands for itself -/
theorem part_plain {a n w K d d2 b l c : Nat} {T : Nat → Nat} {h g : AH} (ha : 3 < a) (ha2 : a ≤ 30) (hw : w < 5) (S : TS a n T b h g l c) (hp : tkS n T b = 2 ∨ fct (wrd n T b) ≠ 0) : ∃ h' g' b' l' c' V, am_C PG (d + K + 4) 99 [.ref 3, .int (nI w)] h = some (some (.int 1), h') ∧ Hd d2 w 1 g = Hd d2 (drp (hAI g 373) w) 0 g' ∧ PQ a n T w b l c h g b' l' c' h' g' ∧ hAI g' 374 w = hAI g 374 w ∧ SemC (hAI h' (a + 15)) l l' (4 * w + 4) V ∧ SemM (fun i => hAI g' 372 (1000 + i)) c c' w (drp (hAI g 373) w) (MO (hAI g 373) w) (PoPart w) V := by
  have S0 := S
  obtain ⟨cx, mx, e1, e2, hl, hc⟩ := S
  have hn := cx.ff.2.2.2.2.2.2.2
  have hb : b < n := by
    rcases hp with z | z
    · exact (tkS_2 z).1
    · exact (tkS_1 (tk1 (fun q => z (by rw [q]; decide))).1).1
  have hx := (nxt_le (T := T) cx.le).2.2 hb
  -- the codes
  obtain ⟨v, x, hv, px, hval, kv, kx⟩ : ∃ v x : Int32, ¬ v < -4 ∧ Pln x ∧ (∀ b o k s, ev0 b o k s v = mval (fun i => if i = 1 then b else if i = 2 then o else if i = 3 then k else s) x) ∧ am_R PG (d + K + 4) 99 69 [some (.ref 3), some (.int (nI w)), some (.int 1), some (.int 0)] [] h = bV (am_C PG (d + K + 3) 115 [.ref 1] (sFI (sEI h (a + 15) l v) 401 (a + 14) (nI (l + 1)))) (fun h2 => some (some (.int 1), h2)) ∧ am_R PG (d2 + 4) 172 65 [some (.ref 348), some (.int (nI w)), some (.int 1), some (.int (fcM (wrd n T b))), some (.int 0), some (.int 0)] [] g = am_R PG (d2 + 4) 172 152 [some (.ref 348), some (.int (nI w)), some (.int 0), none, none, none] [] (sFI (sEI g 372 (1000 + c) x) 1233 348 (nI (1000 + (c + 1)))) := by
    obtain ⟨k3, k1, ka, k14, k17, kr2, kr4, kr5, kr6, kr7, kr8, kr9, kr10, kr11, kr12, kr13, kr18, kr21, kr22, kr24, nr2, nr4, nr5, nr6, nr7, nr8, nr9, nr10, nr11, nr12, nr13, nr18, nr21, nr22, nr24⟩ := cx.kl
    obtain ⟨f600, f601, f500, f506, f508, f509, f510, f511, f512, f513, f514, f515, f516, f517, f518, f519, f701, f704, f705, f707⟩ := cx.fr
    have k0 := mx.ff.1
    have ec := cx.ff.2.2.2.2.2.1
    have z1 : ((1 : Int32) = 0) = False := eq_false (by decide)
    have lt : (nI w < (5 : Int32)) = True := eq_true (nI_lt (b := 5) hw (by decide))
    have n5 : (nI w = (5 : Int32)) = False := eq_false (fun z => by have := (nI_eq (b := 5) (by omega) (by decide)).1 z; omega)
    by_cases y : tkS n T b = 2
    · obtain ⟨k, hk, ek⟩ := num_n y
      have w0 := (tk2 y).1
      have f0 : fcM 0 = 0 := by decide
      have y' : (nI (tkS n T b) = (2 : Int32)) = True := eq_true (by rw [y]; rfl)
      have nn : ¬ nI k < 0 := nI_pos (by omega)
      have n4 : ¬ nI k < -4 := fun z => nn (by rw [Int32.lt_iff_toInt_lt] at z ⊢; have a1 : Int32.toInt (-4) = -4 := rfl; have a2 : Int32.toInt 0 = 0 := rfl; omega)
      have n100 : ¬ (100 : Int32) + nI k < 100 := by
        rw [show (100 : Int32) = nI 100 from rfl, nI_add]
        exact nI_nlt (by omega) (by omega)
      have lt0 : ((0 : Int32) < 0) = False := eq_false (by decide)
      refine ⟨nI k, 100 + nI k, n4, Or.inr (Or.inr (Or.inr (Or.inr n100))), fun b o k' s => ?_, ?_, ?_⟩
      · unfold ev0 mval
        rw [if_neg nn, if_neg n100, Int32.add_comm, Int32.add_sub_cancel]
      · have ka' := c_ladd (d := d + K + 2) cx e1 (by omega) (nI k)
        rw [q_X6_part_69]
        simp only [am_kd, am_let_e, bR_s, am_nar4_0, am_nar4_1, if_true, if_false, z1, rd_hK_sEI, rd_hFR_sEI, rd_hLN_sEI, rd_hFI_sEI, rd_hFJ_sEI, rd_hK_sEJ, rd_hFR_sEJ, rd_hLN_sEJ, rd_hFI_sEJ, rd_hAI_sEJ, rd_hK_sFI, rd_hFR_sFI, rd_hLN_sFI, rd_hAI_sFI, k3, k1, ka, k14, k17, kr2, kr4, kr5, kr6, kr7, kr8, kr9, kr10, kr11, kr12, kr13, kr18, kr21, kr22, kr24, nr2, nr4, nr5, nr6, nr7, nr8, nr9, nr10, nr11, nr12, nr13, nr18, nr21, nr22, nr24, f600, f601, f500, f506, f508, f509, f510, f511, f512, f513, f514, f515, f516, f517, f518, f519, f701, f704, f705, f707, lt, ec, y', cx.num y, ek, ka', bV_s]
      · have kp := m_puts (d := d2 + 2) mx e2 (by omega) (100 + nI k)
        rw [q_X12_reads_65]
        simp only [am_kd, k0, if_true, if_false, n5, w0, f0, lt0, mx.num y, ek, kp, bV_s]
    · have f1 := hp.resolve_left y
      have y' : (nI (tkS n T b) = (2 : Int32)) = False := eq_false (fun q => y ((nI_eq (b := 2) (by have := tkS_le n T b; omega) (by decide)).1 q))
      have kf := r_fact (d := d + K + 2) cx
      have ka' := c_ladd (d := d + K + 2) cx e1 (by omega) (fct (wrd n T b))
      have kp := m_puts (d := d2 + 2) mx e2 (by omega) (fcM (wrd n T b))
      have fp : ((0 : Int32) < fcM (wrd n T b)) = True := by
        rcases fct_c (wrd n T b) with ⟨q, -⟩ | ⟨-, q, -⟩ | ⟨-, q, -⟩ | ⟨-, q, -⟩ | ⟨-, q, -⟩
        · exact absurd q f1
        all_goals
          rw [q]
          exact eq_true (by decide)
      refine ⟨fct (wrd n T b), fcM (wrd n T b), ?_, ?_, fun b o k' s => ?_, ?_, ?_⟩
      · rcases fct_c (wrd n T b) with ⟨q, -⟩ | ⟨q, -⟩ | ⟨q, -⟩ | ⟨q, -⟩ | ⟨q, -⟩
        · exact absurd q f1
        all_goals
          rw [q]
          decide
      · rcases fct_c (wrd n T b) with ⟨q, -⟩ | ⟨-, q, -⟩ | ⟨-, q, -⟩ | ⟨-, q, -⟩ | ⟨-, q, -⟩
        · exact absurd q f1
        all_goals
          rw [q]
          unfold Pln
          decide
      · rcases fct_c (wrd n T _) with ⟨q, -⟩ | ⟨p, q, -⟩ | ⟨p, q, -⟩ | ⟨p, q, -⟩ | ⟨p, q, -⟩
        · exact absurd q f1
        all_goals
          rw [p, q]
          rfl
      · rw [q_X6_part_69]
        simp only [am_kd, am_let_e, bR_s, am_nar4_0, am_nar4_1, if_true, if_false, z1, rd_hK_sEI, rd_hFR_sEI, rd_hLN_sEI, rd_hFI_sEI, rd_hFJ_sEI, rd_hK_sEJ, rd_hFR_sEJ, rd_hLN_sEJ, rd_hFI_sEJ, rd_hAI_sEJ, rd_hK_sFI, rd_hFR_sFI, rd_hLN_sFI, rd_hAI_sFI, k3, k1, ka, k14, k17, kr2, kr4, kr5, kr6, kr7, kr8, kr9, kr10, kr11, kr12, kr13, kr18, kr21, kr22, kr24, nr2, nr4, nr5, nr6, nr7, nr8, nr9, nr10, nr11, nr12, nr13, nr18, nr21, nr22, nr24, f600, f601, f500, f506, f508, f509, f510, f511, f512, f513, f514, f515, f516, f517, f518, f519, f701, f704, f705, f707, lt, ec, y', kf, bI_s, ka', bV_s]
      · rw [q_X12_reads_65]
        simp only [am_kd, k0, if_true, if_false, n5, fp, kp, bV_s]
  obtain ⟨h1, a1, a2, a3⟩ := r_adv (d := d + K) (cx.add ha ha2 l v)
  obtain ⟨g1, b1, b2, b3⟩ := m_put2 (d := d2 + 1) mx e2 (by omega) x
  have md := m_drop (d := d2) (x := 152) (mx.put c x).1.1 0 (Or.inl rfl) w (by omega)
  rw [b1, bV_s, rd_hAI_sFI, sEI_ne _ _ _ (by decide)] at md
  have pq : PQ a n T w b l c h g (nxt n T b) (l + 1) (c + 1) h1 g1 := by
    obtain ⟨r1, r2, r3, r4, r5, r6, r7, r8, r9⟩ := b2
    refine ⟨(CL.add h l v).tr (a2.ct.cl a), (ML.put g c x).tr (MQt.mt ⟨r1, r2, r3, r4, r5, r6, r7, r8, r9⟩).ml, ⟨a3, b3, ?_, ?_, by omega, by omega⟩, hx, by omega, by omega, by omega, by omega, fun i hi => ?_, fun i hi => ?_, fun i hi => ?_, fun i hi => ?_⟩
    · rw [a2.2.2.2.2.2.2.2.2 _ _ (by omega)]; exact sFI_at _ _ _ _
    · rw [r9 _ _ (by omega)]; exact sFI_at _ _ _ _
    · rw [a2.2.2.1, rd_hAI_sFI, sEI_at, pk_un (by omega)]
    · rw [r4, rd_hAI_sFI, sEI_at, pk_un (by omega)]
    · rw [r4, rd_hAI_sFI, sEI_ne _ _ _ (by decide)]
    · rw [r4, rd_hAI_sFI, sEI_ne _ _ _ (by decide)]
  refine ⟨h1, g1, nxt n T b, l + 1, c + 1, fun b o k s => ev0 b o k s v, ?_, ?_, pq, ?_, ?_, ?_⟩
  · rw [show d + K + 4 = d + K + 2 + 2 from rfl, (r_part (d := d + K + 2) cx (nI w)).1 hp]
    show am_R PG (d + K + 4) 99 69 _ [] h = _
    rw [kv, a1, bV_s]
  · rw [(m_part (d := d2) (w := w) mx).1 hp, kx, md]
  · rw [b2.2.2.2.1, rd_hAI_sFI, sEI_ne _ _ _ (by decide)]
  · exact SemC.plain (by rw [a2.2.2.1]; exact code_at h a l v) hv (by omega)
  · exact (SemM.plain (O := hAI g 373) (x := x) (by rw [b2.2.2.2.1, rd_hAI_sFI, sEI_at, pk_us]) px (by omega)).val (fun b o k s => (hval b o k s).symm)
/-- a part with a not ahead -/
theorem part_not {a n w K d d2 b l c : Nat} {T : Nat → Nat} {h g : AH} (ha : 3 < a) (ha2 : a ≤ 30) (hw : w < 5) (P : PartC a n T (w + 1) K) (S : TS a n T b h g l c) (hp : wrd n T b = 10631) : Fz a h g (am_C PG (d + K + 9) 99 [.ref 3, .int (nI w)] h) (Hd d2 w 1 g) ∨ ∃ h' g' b' l' c' V, am_C PG (d + K + 9) 99 [.ref 3, .int (nI w)] h = some (some (.int 1), h') ∧ Hd d2 w 1 g = Hd d2 (drp (hAI g 373) w) 0 g' ∧ PQ a n T w b l c h g b' l' c' h' g' ∧ hAI g' 374 w = hAI g 374 w ∧ SemC (hAI h' (a + 15)) l l' (4 * w + 4) V ∧ SemM (fun i => hAI g' 372 (1000 + i)) c c' w (drp (hAI g 373) w) (MO (hAI g 373) w) (PoPart w) V := by
  have S0 := S
  obtain ⟨cx, mx, e1, e2, hl, hc⟩ := S
  have hn := cx.ff.2.2.2.2.2.2.2
  have hb : b < n := (tkS_1 (tk1 (n := n) (T := T) (b := b) (by rw [hp]; decide)).1).1
  have hx := (nxt_le (T := T) cx.le).2.2 hb
  obtain ⟨k3, k1, ka, k14, k17, kr2, kr4, kr5, kr6, kr7, kr8, kr9, kr10, kr11, kr12, kr13, kr18, kr21, kr22, kr24, nr2, nr4, nr5, nr6, nr7, nr8, nr9, nr10, nr11, nr12, nr13, nr18, nr21, nr22, nr24⟩ := cx.kl
  obtain ⟨f600, f601, f500, f506, f508, f509, f510, f511, f512, f513, f514, f515, f516, f517, f518, f519, f701, f704, f705, f707⟩ := cx.fr
  have hm := mx.1.1
  have m0 := hm.1
  have f1234 : hFR _ 1234 348 = some 373 := (hm.2 24 (by decide)).1
  have k373 : hK _ 373 = 50 := (hm.2 24 (by decide)).2.1
  have n373 : hLN _ 373 = 7 := (hm.2 24 (by decide)).2.2
  have f1235 : hFR _ 1235 348 = some 374 := (hm.2 25 (by decide)).1
  have k374 : hK _ 374 = 52 := (hm.2 25 (by decide)).2.1
  have n374 : hLN _ 374 = 7 := (hm.2 25 (by decide)).2.2
  have z1 : ((1 : Int32) = 0) = False := eq_false (by decide)
  have lt : (nI w < (5 : Int32)) = True := eq_true (nI_lt (b := 5) hw (by decide))
  have n5 : (nI w = (5 : Int32)) = False := eq_false (fun z => by have := (nI_eq (b := 5) (by omega) (by decide)).1 z; omega)
  have ei : ∀ x, am_in (nI (w + 1)) 7 x = x := am_inN (by omega) (by decide)
  have ti : Int32.toNatClampNeg (nI (w + 1)) = w + 1 := nI_clamp (by omega)
  have kp := m_puts (d := d2 + 2) mx e2 (by omega) 30
  obtain ⟨h1, a1, a2, a3⟩ := r_adv (d := d + K + 5) cx
  obtain ⟨g1, b1, b2, b3⟩ := m_adv (d := d2 + 1) (((mx.put c 30).ei (r := 373) (w + 1) 1 (by decide)).ei (r := 374) (w + 1) 0 (by decide))
  have kM : Hd d2 w 1 g = Hd d2 (w + 1) 1 g1 := by
    rw [(m_part (d := d2) (w := w) mx).2.1 hp, q_X12_reads_65]
    simp only [am_kd, m0, f1234, k373, n373, f1235, k374, n374, if_true, if_false, n5, z1, kp, bV_s, bR_s, nI_1, ei, ti, am_let_e, am_nar4_0, rd_hK_sFI, rd_hK_sEI, rd_hFR_sFI, rd_hFR_sEI, rd_hLN_sFI, rd_hLN_sEI, b1]
    rfl
  have pq : PQ a n T w b l c h g (nxt n T b) l (c + 1) h1 g1 := PQ.step S0 hb a2 a3 (((ML.put g c 30).tr (ML.op _ (w + 1) 1 (Or.inl rfl))).tr (ML.op _ (w + 1) 0 (Or.inr rfl))) (by rw [rd_hFI_sEI, rd_hFI_sEI]; exact sFI_at _ _ _ _) (fun i hi => by rw [sEI_ne _ _ _ (by decide), sEI_ne _ _ _ (by decide), rd_hAI_sFI, sEI_at, pk_un (by omega)]) (fun i hi => by rw [sEI_ne _ _ _ (by decide), sEI_at, pk_un (by omega), rd_hAI_sFI, sEI_ne _ _ _ (by decide)]) (fun i hi => by rw [sEI_at, pk_un (by omega), sEI_ne _ _ _ (by decide), rd_hAI_sFI, sEI_ne _ _ _ (by decide)]) b2 b3
  have o1 : hAI g1 373 (w + 1) = 1 := by rw [b2.2.2.2.1, sEI_ne _ _ _ (by decide), sEI_at, pk_us]
  have x1 : hAI g1 372 (1000 + c) = 30 := by rw [b2.2.2.2.1, sEI_ne _ _ _ (by decide), sEI_ne _ _ _ (by decide), rd_hAI_sFI, sEI_at, pk_us]
  have y1 : hAI g1 374 w = hAI g 374 w := by rw [b2.2.2.2.1, sEI_at, pk_un (by omega), sEI_ne _ _ _ (by decide), rd_hAI_sFI, sEI_ne _ _ _ (by decide)]
  have dr : drp (hAI g1 373) (w + 1) = drp (hAI g 373) w := by
    show (if hAI g1 373 (w + 1) = 1 then drp (hAI g1 373) w else w + 1) = _
    rw [if_pos o1, drp_congr w (fun i _ h2 => pq.2.2.2.2.2.2.2.2.2.2.1 i h2)]
  have kC : am_C PG (d + K + 9) 99 [.ref 3, .int (nI w)] h = bI (am_C PG (d + K + 8) 99 [.ref 3, .int (nI (w + 1))] h1) (fun v h3 => if v = 0 then some (some (.int 0), h3) else am_kd h3 3 7 (bR (hFR h3 601 3) fun r5 => am_kd h3 r5 6 (bR (hFR h3 518 r5) fun r6 => am_kd h3 r6 5 (bV (am_C PG (d + K + 8) 44 [.ref r6, .int (-5)] h3) fun h7 => some (some (.int 1), h7))))) := by
    rw [show d + K + 9 = d + K + 7 + 2 from rfl, (r_part (d := d + K + 7) cx (nI w)).2.1 hp]
    have k3' : hK h1 3 = 7 := by rw [a2.1]; exact k3
    rw [q_X6_part_69]
    simp only [am_kd, k3, f600, k1, lt, if_true, bR_s, a1, bV_s, z1, if_false, k3', nI_1, am_nar4_0, am_nar4_1]
  rw [kM, kC]
  rcases P (d + 4) d2 (nxt n T b) l (c + 1) h1 g1 pq.2.2.1 with F | ⟨h2, g2, b', l', c', V, p1, p2, p3, p4, p5, p6⟩
  · left
    obtain ⟨f, h', g', f0, q1, q2, q3, q4⟩ := F
    rw [show d + 4 + K + 4 = d + K + 8 by omega] at q1
    refine ⟨f, h', g', f0, ?_, q2, (pq.1.cs ha).1.tr q3, pq.2.1.mz.tr q4⟩
    rw [q1, bI_s]
    rfl
  · right
    rw [show d + 4 + K + 4 = d + K + 8 by omega] at p1
    obtain ⟨cx2, mx2, t1, t2, t3, t4⟩ := p3.2.2.1
    have hb2 := p3.2.2.2.1
    have hl2 := p3.2.2.2.2.2.1
    have ka2 := c_ladd (d := d + K + 7) cx2 t1 (by have := cx2.le; omega) (-5)
    obtain ⟨k3, k1, ka, k14, k17, kr2, kr4, kr5, kr6, kr7, kr8, kr9, kr10, kr11, kr12, kr13, kr18, kr21, kr22, kr24, nr2, nr4, nr5, nr6, nr7, nr8, nr9, nr10, nr11, nr12, nr13, nr18, nr21, nr22, nr24⟩ := cx2.kl
    obtain ⟨f600, f601, f500, f506, f508, f509, f510, f511, f512, f513, f514, f515, f516, f517, f518, f519, f701, f704, f705, f707⟩ := cx2.fr
    have pq2 := (pq.tr (p3.low (Nat.le_succ w))).code ha ha2 (by omega) hl (-5)
    refine ⟨_, g2, b', l' + 1, c', fun b o k s => if V b o k s = 0 then 1 else 0, ?_, ?_, pq2, ?_, ?_, ?_⟩
    · rw [p1, bI_s]
      simp only [am_kd, am_let_e, bR_s, am_nar4_0, am_nar4_1, if_true, if_false, z1, rd_hK_sEI, rd_hFR_sEI, rd_hLN_sEI, rd_hFI_sEI, rd_hFJ_sEI, rd_hK_sEJ, rd_hFR_sEJ, rd_hLN_sEJ, rd_hFI_sEJ, rd_hAI_sEJ, rd_hK_sFI, rd_hFR_sFI, rd_hLN_sFI, rd_hAI_sFI, k3, k1, ka, k14, k17, kr2, kr4, kr5, kr6, kr7, kr8, kr9, kr10, kr11, kr12, kr13, kr18, kr21, kr22, kr24, nr2, nr4, nr5, nr6, nr7, nr8, nr9, nr10, nr11, nr12, nr13, nr18, nr21, nr22, nr24, f600, f601, f500, f506, f508, f509, f510, f511, f512, f513, f514, f515, f516, f517, f518, f519, f701, f704, f705, f707, ka2, bV_s]
    · rw [p2, dr]
    · exact (p3.2.2.2.2.2.2.2.2.2.2.2 w (by omega)).trans y1
    · exact SemC.not (code_at h2 a l' (-5)) (codeC (-5) (fun cs e b o k s f t F ht => p5 cs e b o k s f t F (by omega)))
    · refine SemM.neg (O1 := hAI g1 373) ((p3.2.2.2.2.2.2.2.2.2.1 c (by omega)).trans x1) (by have := p3.2.2.2.2.2.2.1; omega) hw (fun i _ h2 => pq.2.2.2.2.2.2.2.2.2.2.1 i h2) o1 p6
/-- a part in brackets -/
theorem part_par {a n w K d d2 b l c : Nat} {T : Nat → Nat} {h g : AH} (ha : 3 < a) (ha2 : a ≤ 30) (hw : w < 5) (E : ExprC a n T (w + 1) K) (S : TS a n T b h g l c) (hp : sgn n T b = 40) : Fz a h g (am_C PG (d + K + 9) 99 [.ref 3, .int (nI w)] h) (Hd d2 w 1 g) ∨ ∃ h' g' b' l' c' V, am_C PG (d + K + 9) 99 [.ref 3, .int (nI w)] h = some (some (.int 1), h') ∧ Hd d2 w 1 g = Hd d2 (drp (hAI g 373) w) 0 g' ∧ PQ a n T w b l c h g b' l' c' h' g' ∧ hAI g' 374 w = hAI g 374 w ∧ SemC (hAI h' (a + 15)) l l' (4 * w + 4) V ∧ SemM (fun i => hAI g' 372 (1000 + i)) c c' w (drp (hAI g 373) w) (MO (hAI g 373) w) (PoPart w) V := by
  have S0 := S
  obtain ⟨cx, mx, e1, e2, hl, hc⟩ := S
  have hn := cx.ff.2.2.2.2.2.2.2
  have hb : b < n := (tkS_3 (sgn_3 (n := n) (T := T) (b := b) (by rw [hp]; decide)).1).1
  have hx := (nxt_le (T := T) cx.le).2.2 hb
  obtain ⟨k3, k1, ka, k14, k17, kr2, kr4, kr5, kr6, kr7, kr8, kr9, kr10, kr11, kr12, kr13, kr18, kr21, kr22, kr24, nr2, nr4, nr5, nr6, nr7, nr8, nr9, nr10, nr11, nr12, nr13, nr18, nr21, nr22, nr24⟩ := cx.kl
  obtain ⟨f600, f601, f500, f506, f508, f509, f510, f511, f512, f513, f514, f515, f516, f517, f518, f519, f701, f704, f705, f707⟩ := cx.fr
  have hm := mx.1.1
  have m0 := hm.1
  have f1234 : hFR _ 1234 348 = some 373 := (hm.2 24 (by decide)).1
  have k373 : hK _ 373 = 50 := (hm.2 24 (by decide)).2.1
  have n373 : hLN _ 373 = 7 := (hm.2 24 (by decide)).2.2
  have f1235 : hFR _ 1235 348 = some 374 := (hm.2 25 (by decide)).1
  have k374 : hK _ 374 = 52 := (hm.2 25 (by decide)).2.1
  have n374 : hLN _ 374 = 7 := (hm.2 25 (by decide)).2.2
  have z1 : ((1 : Int32) = 0) = False := eq_false (by decide)
  have lt : (nI w < (5 : Int32)) = True := eq_true (nI_lt (b := 5) hw (by decide))
  have n5 : (nI w = (5 : Int32)) = False := eq_false (fun z => by have := (nI_eq (b := 5) (by omega) (by decide)).1 z; omega)
  have ei : ∀ x, am_in (nI (w + 1)) 7 x = x := am_inN (by omega) (by decide)
  have ti : Int32.toNatClampNeg (nI (w + 1)) = w + 1 := nI_clamp (by omega)
  have kp := m_puts (d := d2 + 2) mx e2 (by omega) 28
  obtain ⟨h1, a1, a2, a3⟩ := r_adv (d := d + K + 5) cx
  obtain ⟨g1, b1, b2, b3⟩ := m_adv (d := d2 + 1) (((mx.put c 28).ei (r := 373) (w + 1) 2 (by decide)).ei (r := 374) (w + 1) 0 (by decide))
  have kM : Hd d2 w 1 g = Hd d2 (w + 1) 1 g1 := by
    rw [(m_part (d := d2) (w := w) mx).2.2.1 hp, q_X12_reads_65]
    simp only [am_kd, m0, f1234, k373, n373, f1235, k374, n374, if_true, if_false, n5, z1, kp, bV_s, bR_s, nI_1, ei, ti, am_let_e, am_nar4_0, rd_hK_sFI, rd_hK_sEI, rd_hFR_sFI, rd_hFR_sEI, rd_hLN_sFI, rd_hLN_sEI, b1]
    rfl
  have pq : PQ a n T w b l c h g (nxt n T b) l (c + 1) h1 g1 := PQ.step S0 hb a2 a3 (((ML.put g c 28).tr (ML.op _ (w + 1) 2 (Or.inl rfl))).tr (ML.op _ (w + 1) 0 (Or.inr rfl))) (by rw [rd_hFI_sEI, rd_hFI_sEI]; exact sFI_at _ _ _ _) (fun i hi => by rw [sEI_ne _ _ _ (by decide), sEI_ne _ _ _ (by decide), rd_hAI_sFI, sEI_at, pk_un (by omega)]) (fun i hi => by rw [sEI_ne _ _ _ (by decide), sEI_at, pk_un (by omega), rd_hAI_sFI, sEI_ne _ _ _ (by decide)]) (fun i hi => by rw [sEI_at, pk_un (by omega), sEI_ne _ _ _ (by decide), rd_hAI_sFI, sEI_ne _ _ _ (by decide)]) b2 b3
  have o1 : hAI g1 373 (w + 1) ≠ 1 := by rw [b2.2.2.2.1, sEI_ne _ _ _ (by decide), sEI_at, pk_us]; decide
  have x1 : hAI g1 372 (1000 + c) = 28 := by rw [b2.2.2.2.1, sEI_ne _ _ _ (by decide), sEI_ne _ _ _ (by decide), rd_hAI_sFI, sEI_at, pk_us]
  have y1 : hAI g1 374 w = hAI g 374 w := by rw [b2.2.2.2.1, sEI_at, pk_un (by omega), sEI_ne _ _ _ (by decide), rd_hAI_sFI, sEI_ne _ _ _ (by decide)]
  have y2 : hAI g1 374 (w + 1) = 0 := by rw [b2.2.2.2.1, sEI_at, pk_us]
  have kC : am_C PG (d + K + 9) 99 [.ref 3, .int (nI w)] h = bI (am_C PG (d + K + 8) 95 [.ref 3, .int (nI (w + 1))] h1) (fun v h3 => if v = 0 then some (some (.int 0), h3) else am_kd h3 3 7 (bI (am_C PG (d + K + 8) 80 [.ref 3, .int 41] h3) fun v5 h5 => if v5 = 0 then some (some (.int 0), h5) else some (some (.int 1), h5))) := by
    rw [show d + K + 9 = d + K + 7 + 2 from rfl, (r_part (d := d + K + 7) cx (nI w)).2.2.1 hp]
    have k3' : hK h1 3 = 7 := by rw [a2.1]; exact k3
    rw [q_X6_part_69]
    simp only [am_kd, k3, f600, k1, lt, if_true, bR_s, a1, bV_s, k3', nI_1, am_nar4_0, am_nar4_1]
  rw [kM, kC]
  rcases E d d2 (nxt n T b) l (c + 1) h1 g1 pq.2.2.1 (Or.inr o1) y2 with F | ⟨h2, g2, b', l', c', V, p1, p2, p3, ⟨s1, s2, s3, s4, s5, s6⟩, p5, p6⟩
  · left
    obtain ⟨f, h', g', f0, q1, q2, q3, q4⟩ := F
    refine ⟨f, h', g', f0, ?_, q2, (pq.1.cs ha).1.tr q3, pq.2.1.mz.tr q4⟩
    rw [q1, bI_s]
    rfl
  · have T2 := p3.2.2.1
    obtain ⟨cx2, mx2, t1, t2, t3, t4⟩ := T2
    have hb2 := p3.2.2.2.1
    have hn2 := cx2.le
    have k3' := cx2.1
    rw [p2, p1, bI_s]
    simp only [am_kd, k3', if_true, z1, if_false]
    by_cases e : sgn n T b' = 41
    · right
      obtain ⟨h3, c1, c2, c3⟩ := (r_sign (d := d + K + 4) cx2 (show (41 : Int32) ≠ 0 by decide)).1 e
      have hb3 : b' < n := (tkS_3 (sgn_3 (n := n) (T := T) (b := b') (by rw [e]; decide)).1).1
      obtain ⟨g3, d1, d3, d4⟩ := m_h41 (d := d2) (w := w) mx2 t2 (by omega) (by omega) e
      have pq3 : PQ a n T w b' l' c' h2 g2 (nxt n T b') l' (c' + 1) h3 g3 := PQ.step ⟨cx2, mx2, t1, t2, t3, t4⟩ hb3 c2 c3 (ML.put g2 c' 29) (sFI_at _ _ _ _) (fun i hi => by rw [rd_hAI_sFI, sEI_at, pk_un (by omega)]) (fun i hi => by rw [rd_hAI_sFI, sEI_ne _ _ _ (by decide)]) (fun i hi => by rw [rd_hAI_sFI, sEI_ne _ _ _ (by decide)]) d3 d4
      have pr : ∀ i, i < c' → hAI g3 372 (1000 + i) = hAI g2 372 (1000 + i) := pq3.2.2.2.2.2.2.2.2.2.1
      have cc : c + 1 < c' := p3.2.2.2.2.2.2.1
      refine ⟨h3, g3, nxt n T b', l', c' + 1, V, ?_, ?_, (pq.tr (p3.low (Nat.le_succ w))).tr pq3, ?_, ?_, ?_⟩
      · rw [c1, bI_s, if_neg (by decide)]
      · rw [d1, drp_congr w (fun i _ h2 => (p3.2.2.2.2.2.2.2.2.2.2.1 i (by omega)).trans (pq.2.2.2.2.2.2.2.2.2.2.1 i h2))]
      · rw [d3.2.2.2.1, rd_hAI_sFI, sEI_ne _ _ _ (by decide)]
        exact (p3.2.2.2.2.2.2.2.2.2.2.2 w (by omega)).trans y1
      · rw [c2.2.2.1]
        exact p5
      · refine SemM.paren (O1 := hAI g1 373) ?_ ?_ (by omega) hw (fun i _ h2 => pq.2.2.2.2.2.2.2.2.2.2.1 i h2) o1 (p6.mono pr)
        · exact ((pr c (by omega)).trans (p3.2.2.2.2.2.2.2.2.2.1 c (by omega))).trans x1
        · show hAI g3 372 (1000 + c') = 29
          rw [d3.2.2.2.1, rd_hAI_sFI, sEI_at, pk_us]
    · left
      have kr := (r_sign (d := d + K + 4) cx2 (show (41 : Int32) ≠ 0 by decide)).2 e
      have km := m_hno (d := d2) (w := w + 1) mx2 (by omega) s1 s2 s3 s4 s5 s6 (Or.inl e) (Or.inr (by omega))
      refine ⟨_, h2, g2, fz_ne (k := 1) (by decide) (by decide) (show b' ≤ 1000 by omega), ?_, km, (pq.1.cs ha).1.tr (p3.1.cs ha).1, pq.2.1.mz.tr p3.2.1.mz⟩
      rw [kr, bI_s]
      rfl
/-- too deep, or nothing that can begin a part -/
theorem part_no {a n w d d2 b l c : Nat} {T : Nat → Nat} {h g : AH} (S : TS a n T b h g l c) (hp : w = 5 ∨ (tkS n T b ≠ 2 ∧ fct (wrd n T b) = 0 ∧ wrd n T b ≠ 10631 ∧ sgn n T b ≠ 40)) : Fz a h g (am_C PG (d + 4) 99 [.ref 3, .int (nI w)] h) (Hd d2 w 1 g) := by
  obtain ⟨cx, mx, e1, e2, hl, hc⟩ := S
  have hn := cx.ff.2.2.2.2.2.2.2
  have hb : b ≤ 1000 := by have := cx.le; omega
  by_cases q : tkS n T b ≠ 2 ∧ fct (wrd n T b) = 0 ∧ wrd n T b ≠ 10631 ∧ sgn n T b ≠ 40
  · obtain ⟨q1, q2, q3, q4⟩ := q
    exact ⟨_, h, g, fz_ne (k := 1) (by decide) (by decide) hb, (r_part (d := d + 2) cx (nI w)).2.2.2 q1 q2 q3 q4, (m_part (d := d2) (w := w) mx).2.2.2 q1 q2 q3 q4, CQ.rfl' _ _, MZ.rfl' _⟩
  · have w5 := hp.resolve_right q
    subst w5
    have k3 := cx.1
    have k0 := mx.ff.1
    have lt : (nI 5 < (5 : Int32)) = False := eq_false (by decide)
    have n5 : (nI 5 = (5 : Int32)) = True := eq_true rfl
    have rc : ∀ x y, am_R PG (d + 4) 99 69 [some (.ref 3), some (.int (nI 5)), some (.int x), some (.int y)] [] h = some (some (.int 0), sFI h 603 3 (5 + 16 * nI b)) := fun x y => by
      rw [q_X6_part_69]
      simp only [am_kd, k3, if_true, lt, if_false, r_wrong cx, bI_s, am_nar4_0]
    have rm : ∀ x y z, am_R PG (d2 + 4) 172 65 [some (.ref 348), some (.int (nI 5)), some (.int 1), some (.int x), some (.int y), some (.int z)] [] g = some (some (.int 0), sFI g 1209 348 (5 + 16 * nI b)) := fun x y z => by
      rw [q_X12_reads_65]
      simp only [am_kd, k0, if_true, n5, m_fails mx, bI_s, am_nar4_0]
    refine ⟨5 + 16 * nI b, h, g, fz_ne (k := 5) (by decide) (by decide) hb, ?_, ?_, CQ.rfl' _ _, MZ.rfl' _⟩
    · by_cases p1 : tkS n T b = 2 ∨ fct (wrd n T b) ≠ 0
      · exact ((r_part (d := d + 2) cx (nI 5)).1 p1).trans (rc _ _)
      · by_cases p2 : wrd n T b = 10631
        · exact ((r_part (d := d + 2) cx (nI 5)).2.1 p2).trans (rc _ _)
        · by_cases p3 : sgn n T b = 40
          · exact ((r_part (d := d + 2) cx (nI 5)).2.2.1 p3).trans (rc _ _)
          · exact absurd ⟨fun z => p1 (Or.inl z), Classical.byContradiction fun z => p1 (Or.inr z), p2, p3⟩ q
    · by_cases p1 : tkS n T b = 2 ∨ fct (wrd n T b) ≠ 0
      · exact ((m_part (d := d2) (w := 5) mx).1 p1).trans (rm _ _ _)
      · by_cases p2 : wrd n T b = 10631
        · exact ((m_part (d := d2) (w := 5) mx).2.1 p2).trans (rm _ _ _)
        · by_cases p3 : sgn n T b = 40
          · exact ((m_part (d := d2) (w := 5) mx).2.2.1 p3).trans (rm _ _ _)
          · exact absurd ⟨fun z => p1 (Or.inl z), Classical.byContradiction fun z => p1 (Or.inr z), p2, p3⟩ q
theorem PartC.five (a n : Nat) (T : Nat → Nat) (K : Nat) : PartC a n T 5 K := fun d d2 b l c h g S => Or.inl (part_no (d := d + K) S (Or.inl rfl))
theorem PartC.of {a n w K : Nat} {T : Nat → Nat} (ha : 3 < a) (ha2 : a ≤ 30) (hw : w < 5) (P : PartC a n T (w + 1) K) (E : ExprC a n T (w + 1) K) : PartC a n T w (K + 5) := fun d d2 b l c h g S => by
  by_cases p1 : tkS n T b = 2 ∨ fct (wrd n T b) ≠ 0
  · exact Or.inr (part_plain (K := K + 5) ha ha2 hw S p1)
  · by_cases p2 : wrd n T b = 10631
    · exact part_not ha ha2 hw P S p2
    · by_cases p3 : sgn n T b = 40
      · exact part_par ha ha2 hw E S p3
      · exact Or.inl (part_no (d := d + (K + 5)) S (Or.inr ⟨fun z => p1 (Or.inl z), Classical.byContradiction fun z => p1 (Or.inr z), p2, p3⟩))
