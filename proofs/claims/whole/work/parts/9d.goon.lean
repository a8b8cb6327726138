/-! A round: the class's side. -/
theorem am_cb5 {h : AH} {s t : Nat} (h1 : hLN h s = 5) (h2 : hLN h t = 5) (x : Option Res) : am_cb h s 0 t 0 5 x = x := am_cbT (n := 5) (by decide) (by omega) (by omega) x
theorem c_goLeaf {d s m t : Nat} {g h : AH} {O : Nat → Nat} {b : Option (Nat × (Nat → Nat))} {pa : Nat} {at_ been : Int32} (hc : ChoSh g) (q : Qt g h) (hs : hFI h 108 112 = nI s) (hs5 : s ≤ 5) (hm : s ≤ m) (hm5 : m ≤ 5) (ht : t ≤ 240) (ho : ∀ i, i < s → hAI h 117 i = nI (O i)) (hb : rdR s b (hFI h 109 112) (hAI h 118)) :
    ∃ h2, Qt g h2 ∧ hAI h2 116 = hAI h 116 ∧ hAI h2 117 = hAI h 117 ∧ hFI h2 108 112 = nI s ∧ rdR s (rdL t O b) (hFI h2 109 112) (hAI h2 118) ∧ am_C PG (d + 1) 21 [.ref 112, .ref pa, .int at_, .int (nI t), .int been, .int (nI m)] h = some (none, h2) := by
  obtain ⟨c0, -, cs⟩ := q.cho hc
  obtain ⟨r1, k1, l1⟩ := cs 4 (by decide)
  obtain ⟨r2, k2, l2⟩ := cs 5 (by decide)
  have r1 : hFR h 106 112 = some 117 := r1
  have k1 : hK h 117 = 50 := k1
  have l1 : hLN h 117 = 5 := l1
  have r2 : hFR h 107 112 = some 118 := r2
  have k2 : hK h 118 = 50 := k2
  have l2 : hLN h 118 = 5 := l2
  have dm : (nI m < nI s) = False := eq_false (nI_nlt hm (by omega))
  have set : ∃ h2, Qt g h2 ∧ hAI h2 116 = hAI h 116 ∧ hAI h2 117 = hAI h 117 ∧ hFI h2 108 112 = nI s ∧ rdR s (some (t, O)) (hFI h2 109 112) (hAI h2 118) ∧ h2 = sCP (sFI h 109 112 (nI t)) 117 0 118 0 5 := by
    refine ⟨_, ?_, ?_, ?_, ?_, ⟨?_, ht, ?_⟩, rfl⟩
    · exact (q.fih 109 112 _ (by unfold cFld; omega)).aih 118 _ (by omega)
    · show hAI (sAI (sFI h 109 112 (nI t)) 118 _) 116 = _
      rw [sAI_ne _ _ (by decide), rd_hAI_sFI]
    · show hAI (sAI (sFI h 109 112 (nI t)) 118 _) 117 = _
      rw [sAI_ne _ _ (by decide), rd_hAI_sFI]
    · show hFI (sFI h 109 112 (nI t)) 108 112 = _
      rw [sFI_o _ _ (Or.inl (by decide))]
      exact hs
    · show hFI (sFI h 109 112 (nI t)) 109 112 = _
      exact sFI_at _ _ _ _
    · intro i hi
      show hAI (sAI (sFI h 109 112 (nI t)) 118 (am_cpy (hAI (sFI h 109 112 (nI t)) 117) (hAI (sFI h 109 112 (nI t)) 118) 0 0 5)) 118 i = _
      rw [sAI_at, am_cpy0, rd_hAI_sFI, cp_lt _ _ (by omega)]
      exact ho i hi
  obtain ⟨h2, s1, s2, s3, s4, s5, s6⟩ := set
  have z0 : Int32.toNatClampNeg 0 = 0 := nI_cl0
  have z5 : Int32.toNatClampNeg 5 = 5 := by decide
  have wr : ∀ x, am_cb (sFI h 109 112 (nI t)) 117 (0 : Int32) 118 (0 : Int32) (5 : Int32) x = x := fun x => am_cb5 (h := sFI h 109 112 (nI t)) l1 l2 x
  cases b with
  | none =>
    have he : hFI h 109 112 = -1 := hb
    have d1 : ((-1 : Int32) < 0) = True := eq_true (by decide)
    refine ⟨h2, s1, s2, s3, s4, s5, ?_⟩
    rw [q_X1_goOn]
    simp only [am_kd, c0, hs, dm, he, d1, if_true, if_false, am_let_e, rd_hK_sFI, rd_hFR_sFI, r1, r2, k1, k2, bR_s, wr, z0, z5, s6]
  | some bb =>
    obtain ⟨u, O2⟩ := bb
    obtain ⟨he, hu, hO⟩ := hb
    have d1 : (nI u < 0) = False := eq_false (nI_pos (by omega))
    have hrd : rdL t O (some (u, O2)) = if t < u then some (t, O) else some (u, O2) := rfl
    rw [hrd]
    by_cases c1 : t < u
    · have d2 : (nI t < nI u) = True := eq_true (nI_lt c1 (by omega))
      rw [if_pos c1]
      refine ⟨h2, s1, s2, s3, s4, s5, ?_⟩
      rw [q_X1_goOn]
      simp only [am_kd, c0, hs, dm, he, d1, d2, if_true, if_false, am_let_e, rd_hK_sFI, rd_hFR_sFI, r1, r2, k1, k2, bR_s, wr, z0, z5, s6]
    · have d2 : (nI t < nI u) = False := eq_false (nI_nlt (by omega) (by omega))
      rw [if_neg c1]
      refine ⟨h, q, rfl, rfl, hs, ⟨he, hu, hO⟩, ?_⟩
      rw [q_X1_goOn]
      simp only [am_kd, c0, hs, dm, he, d1, d2, if_true, if_false]
theorem c_goOn {p np nc ne nw len n s : Nat} {W : Int32 → Int32 → Int32 → Int32 → Int32} {g : AH} {dm : Nat → Nat → Option Nat} {dl : Nat → Option Nat} (L : Lk g g p np nc ne nw len n W) (hp4 : p = 4 ∨ p = 30) (hc : ChoSh g) (hdm : ∀ a b, a < np → b < np → hAI g (p + 3) (5 * a + b) = oC (dm a b) ∧ ∀ k, dm a b = some k → k ≤ 9999) (hdl : ∀ a k, dl a = some k → k ≤ 240) (hs5 : s ≤ 5) :
    ∀ r d V O m at_ t b h, m + r = s → at_ < np → t ≤ 240 → Qt g h → (∀ j, j < 5 → hAI h 116 j = oC (dl j)) → hFI h 108 112 = nI s → (∀ i, i < m → hAI h 117 i = nI (O i)) → rdR s b (hFI h 109 112) (hAI h 118) →
    ∃ h2, Qt g h2 ∧ hAI h2 116 = hAI h 116 ∧ (∀ i, i < m → hAI h2 117 i = hAI h 117 i) ∧ hFI h2 108 112 = nI s ∧ rdR s (rdF dm dl np r V O m at_ t b) (hFI h2 109 112) (hAI h2 118) ∧ am_C PG (d + r + 2) 21 [.ref 112, .ref p, .int (nI at_), .int (nI t), .int (bitN V 6), .int (nI m)] h = some (none, h2) := by
  intro r
  induction r with
  | zero =>
    intro d V O m at_ t b h hmr hat ht q h116 h108 h117 hb
    obtain ⟨h2, s1, s2, s3, s4, s5, s6⟩ := c_goLeaf (d := d + 1) (m := m) (pa := p) (at_ := nI at_) (been := bitN V 6) hc q h108 hs5 (by omega) (by omega) ht (fun i hi => h117 i (by omega)) hb
    exact ⟨h2, s1, s2, fun i _ => by rw [s3], s4, s5, s6⟩
  | succ r ih =>
    intro d V O m at_ t b h hmr hat ht q h116 h108 h117 hb
    have hn5 : np ≤ 5 := L.1.2.2.2.2.2.1
    have e5 : (nI m < nI s) = True := eq_true (nI_lt (by omega) (by omega))
    have e6 : (nI m < (5 : Int32)) = True := eq_true (nI_lt (b := 5) (by omega) (by decide))
    have em : ∀ x, am_in (nI m) 5 x = x := am_inN (by omega) (by decide)
    have tm : Int32.toNatClampNeg (nI m) = m := nI_clamp (by omega)
    have lp : ∀ j, j ≤ np → ∃ h2, Qt g h2 ∧ hAI h2 116 = hAI h 116 ∧ (∀ i, i < m → hAI h2 117 i = hAI h 117 i) ∧ hFI h2 108 112 = nI s ∧ rdR s (foldB (rdP (fun p t2 b => rdF dm dl np r (fun k => decide (k = p) || V k) (updN O m p) (m + 1) p t2 b) (dm at_) dl V t) j b) (hFI h2 109 112) (hAI h2 118) ∧ am_C PG (d + (r + 1) + 2) 21 [.ref 112, .ref p, .int (nI at_), .int (nI t), .int (bitN V 6), .int (nI m)] h = am_R PG (d + r + 2 + 1) 21 53 [some (.ref 112), some (.ref p), some (.int (nI at_)), some (.int (nI t)), some (.int (bitN V 6)), some (.int (nI m)), some (.int (nI j)), none, none] [] h2 := by
      intro j
      induction j with
      | zero =>
        intro _
        refine ⟨h, q, rfl, fun _ _ => rfl, h108, hb, ?_⟩
        have c0 := (q.cho hc).1
        rw [show d + (r + 1) + 2 = d + r + 2 + 1 by omega, q_X1_goOn]
        simp only [am_kd, c0, h108, e5, e6, if_true]
        rfl
      | succ j ihj =>
        intro hj
        obtain ⟨h1, q1, a1, a2, a3, a4, a5⟩ := ihj (by omega)
        have hf : ∀ F : Nat → Option (Nat × (Nat → Nat)) → Option (Nat × (Nat → Nat)), foldB F (j + 1) b = F j (foldB F j b) := fun F => rfl
        rw [hf]
        generalize foldB (rdP (fun p t2 b => rdF dm dl np r (fun k => decide (k = p) || V k) (updN O m p) (m + 1) p t2 b) (dm at_) dl V t) j b = B at a4
        obtain ⟨c0, -, cs⟩ := q1.cho hc
        obtain ⟨r1, k1, l1⟩ := cs 4 (by decide)
        obtain ⟨r2, k2, l2⟩ := cs 3 (by decide)
        have r1 : hFR h1 106 112 = some 117 := r1
        have k1 : hK h1 117 = 50 := k1
        have l1 : hLN h1 117 = 5 := l1
        have r2 : hFR h1 105 112 = some 116 := r2
        have k2 : hK h1 116 = 50 := k2
        have l2 : hLN h1 116 = 5 := l2
        have L1 := L.qt q1 hp4
        have p0 := L1.1.1.1.1
        have f501 := L1.1.2.1
        have ks := c_short (d := d + r + 1) (q := at_) (t := j) L1.1 (by omega) (by omega)
        have hd1 : hAI h1 (p + 3) (5 * at_ + j) = oC (dm at_ j) := by
          rw [q1.row (by unfold cRow; omega)]
          exact (hdm at_ j hat (by omega)).1
        have hdb := (hdm at_ j hat (by omega)).2
        have hl1 : hAI h1 116 j = oC (dl j) := by rw [a1]; exact h116 j (by omega)
        have hlb := hdl j
        rw [hd1] at ks
        have ej : ∀ x, am_in (nI j) 5 x = x := am_inN (by omega) (by decide)
        have tj : Int32.toNatClampNeg (nI j) = j := nI_clamp (by omega)
        have e7 : (nI j < nI np) = True := eq_true (nI_lt (by omega) (by omega))
        have zz : ((0 : Int32) = 0) = True := eq_true rfl
        have z1 : ((1 : Int32) = 0) = False := eq_false (by decide)
        have hbit := bit_at V (show j < 6 by omega)
        have hbor := bit_or V (show j < 6 by omega)
        have skip : rdR s B (hFI h1 109 112) (hAI h1 118) → am_R PG (d + r + 2 + 1) 21 53 [some (.ref 112), some (.ref p), some (.int (nI at_)), some (.int (nI t)), some (.int (bitN V 6)), some (.int (nI m)), some (.int (nI j)), none, none] [] h1 = am_R PG (d + r + 2 + 1) 21 53 [some (.ref 112), some (.ref p), some (.int (nI at_)), some (.int (nI t)), some (.int (bitN V 6)), some (.int (nI m)), some (.int (nI (j + 1))), none, none] [] h1 → ∃ h2, Qt g h2 ∧ hAI h2 116 = hAI h 116 ∧ (∀ i, i < m → hAI h2 117 i = hAI h 117 i) ∧ hFI h2 108 112 = nI s ∧ rdR s B (hFI h2 109 112) (hAI h2 118) ∧ am_C PG (d + (r + 1) + 2) 21 [.ref 112, .ref p, .int (nI at_), .int (nI t), .int (bitN V 6), .int (nI m)] h = am_R PG (d + r + 2 + 1) 21 53 [some (.ref 112), some (.ref p), some (.int (nI at_)), some (.int (nI t)), some (.int (bitN V 6)), some (.int (nI m)), some (.int (nI (j + 1))), none, none] [] h2 := fun z1 z2 => ⟨h1, q1, a1, a2, a3, z1, a5.trans z2⟩
        cases hdl1 : dl j with
        | none =>
          rw [rdP_no (Or.inl hdl1)]
          rw [hdl1] at hl1
          have hl1 : hAI h1 116 j = -1 := hl1
          have d1 : ((-1 : Int32) < 0) = True := eq_true (by decide)
          refine skip a4 ?_
          rw [q_X1_goOn_53]
          simp only [am_kd, p0, f501, e7, if_true, ks, bI_s, c0, r2, k2, l2, bR_s, ej, tj, hl1, d1, zz, nI_1]
        | some k =>
          rw [hdl1] at hl1
          have hl1 : hAI h1 116 j = nI k := hl1
          have hk := hlb k hdl1
          have d1 : (nI k < 0) = False := eq_false (nI_pos (by omega))
          cases hV : V j with
          | true =>
            rw [hV, if_pos rfl] at hbit
            have hb1 : ((bitN V 6 >>> (nI j &&& 31)) &&& 1 = 0) = False := by rw [hbit]; exact eq_false (by decide)
            rw [rdP_no (Or.inr (Or.inl hV))]
            refine skip a4 ?_
            rw [q_X1_goOn_53]
            simp only [am_kd, p0, f501, e7, if_true, if_false, ks, bI_s, c0, r2, k2, l2, bR_s, ej, tj, hl1, d1, hb1, zz, nI_1]
          | false =>
            rw [hV, if_neg (by decide)] at hbit
            have hb1 : ((bitN V 6 >>> (nI j &&& 31)) &&& 1 = 0) = True := eq_true hbit
            cases hx : dm at_ j with
            | none =>
              rw [hx] at ks
              have ks : am_C PG (d + r + 2) 53 [.ref p, .int (nI at_), .int (nI j)] h1 = some (some (.int (-1)), h1) := ks
              have d2 : ((-1 : Int32) < 0) = True := eq_true (by decide)
              rw [rdP_no (Or.inr (Or.inr (Or.inl hx)))]
              refine skip a4 ?_
              rw [q_X1_goOn_53]
              simp only [am_kd, p0, f501, e7, if_true, if_false, ks, bI_s, c0, r2, k2, l2, bR_s, ej, tj, hl1, d1, hb1, z1, d2, nI_1]
            | some x =>
              rw [hx] at ks
              have ks : am_C PG (d + r + 2) 53 [.ref p, .int (nI at_), .int (nI j)] h1 = some (some (.int (nI x)), h1) := ks
              have hxb := hdb x hx
              have d2 : (nI x < 0) = False := eq_false (nI_pos (by omega))
              have ha : nI t + nI x = nI (t + x) := nI_add _ _
              by_cases c1 : t + x ≤ k
              · have d3 : (nI k < nI (t + x)) = False := eq_false (nI_nlt c1 (by omega))
                rw [rdP_yes hdl1 hx hV c1]
                have q2 : Qt g (sEI h1 117 m (nI j)) := q1.eih _ _ _ (by omega)
                have w16 : hAI (sEI h1 117 m (nI j)) 116 = hAI h1 116 := sEI_ne _ _ _ (by decide)
                have w18 : hAI (sEI h1 117 m (nI j)) 118 = hAI h1 118 := sEI_ne _ _ _ (by decide)
                have w17 : hAI (sEI h1 117 m (nI j)) 117 = upd (hAI h1 117) m (nI j) := sEI_at _ _ _ _
                obtain ⟨h2, b1, b2, b3, b4, b5, b6⟩ := ih d (fun k => decide (k = j) || V k) (updN O m j) (m + 1) j (t + x) B (sEI h1 117 m (nI j)) (by omega) (by omega) (by omega) q2 (fun i hi => by rw [w16, a1]; exact h116 i hi) a3 (fun i hi => by
                  rw [w17]
                  by_cases e : i = m
                  · subst e
                    rw [pk_us, updN_s]
                  · rw [pk_un e, updN_n _ _ e, a2 i (by omega)]
                    exact h117 i (by omega)) (by rw [w18]; exact a4)
                rw [← hbor] at b6
                refine ⟨h2, b1, by rw [b2, w16, a1], fun i hi => ?_, b4, b5, ?_⟩
                · rw [b3 i (by omega), w17, pk_un (by omega)]
                  exact a2 i hi
                · rw [a5, q_X1_goOn_53]
                  simp only [am_kd, p0, f501, e7, if_true, if_false, ks, bI_s, c0, r1, k1, l1, r2, k2, l2, bR_s, ej, tj, em, tm, hl1, d1, hb1, z1, d2, ha, d3, am_let_e, rd_hK_sEI, b6, bV_s, nI_1]
              · have d3 : (nI k < nI (t + x)) = True := eq_true (nI_lt (by omega) (by omega))
                rw [rdP_no (Or.inr (Or.inr (Or.inr ⟨k, x, hdl1, hx, by omega⟩)))]
                refine skip a4 ?_
                rw [q_X1_goOn_53]
                simp only [am_kd, p0, f501, e7, if_true, if_false, ks, bI_s, c0, r2, k2, l2, bR_s, ej, tj, hl1, d1, hb1, z1, d2, ha, d3, nI_1]
    obtain ⟨h2, q2, a1, a2, a3, a4, a5⟩ := lp np (Nat.le_refl _)
    have L1 := L.qt q2 hp4
    have p0 := L1.1.1.1.1
    have f501 := L1.1.2.1
    have e7 : (nI np < nI np) = False := eq_false (nI_nlt (Nat.le_refl _) (by omega))
    refine ⟨h2, q2, a1, a2, a3, a4, ?_⟩
    rw [a5, q_X1_goOn_53]
    simp only [am_kd, p0, f501, e7, if_true, if_false]
