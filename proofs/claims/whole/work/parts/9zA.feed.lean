/-! feed: the model, and both. -/
theorem c_mput {d i : Nat} {h : AH} {s : Nat × (Nat → Int32)} (hm : MSh h) (hs : s.1 ≤ 1000) (a b c s0 : Int64) : am_R PG (d + 1) 164 39 [some (.ref 348), some (.long a), none, some (.long b), none, some (.long c), none, some (.int (nI i)), none, none, none] [.long s0] (Tm h s) = am_R PG (d + 1) 164 8 [some (.ref 348), some (.long a), none, some (.long b), none, some (.long c), none, some (.int (nI (i + 1))), none, none, none] [] (Tm h (ptS (by8 s0 (56 - 8 * (nI i &&& 7))) s)) := by
  have m0 := hm.1
  have f1202 : hFR h 1202 348 = some 349 := (hm.2 0 (by decide)).1
  have k349 : hK h 349 = 50 := (hm.2 0 (by decide)).2.1
  have n349 : hLN h 349 = 1000 := (hm.2 0 (by decide)).2.2
  have w1 : hFI (Tm h s) 1201 348 = nI s.1 := sFI_at _ _ _ _
  have w2 : hFR (Tm h s) = hFR h := rfl
  have w3 : hK (Tm h s) = hK h := rfl
  have w4 : hLN (Tm h s) = hLN h := rfl
  rw [q_X12_feed_39]
  simp only [by8_m, w3, am_kd, m0, if_true, w1]
  generalize by8 s0 (56 - 8 * (nI i &&& 7)) = v
  by_cases hl : s.1 < 1000
  · have e5 : (nI s.1 < (1000 : Int32)) = True := eq_true (nI_lt (b := 1000) hl (by decide))
    have ei : ∀ x, am_in (nI s.1) 1000 x = x := am_inN hl (by decide)
    have ti : Int32.toNatClampNeg (nI s.1) = s.1 := nI_clamp (by omega)
    have w5 : sEI (Tm h s) 349 s.1 v = sFI (sAI h 349 (upd s.2 s.1 v)) 1201 348 (nI s.1) := by
      unfold Tm
      rw [sEI_e, rd_hAI_sFI, sAI_at, sFI_sAI, sAI_sAI]
    have w6 : hFI (sFI (sAI h 349 (upd s.2 s.1 v)) 1201 348 (nI s.1)) 1201 348 = nI s.1 := sFI_at _ _ _ _
    by_cases hv : okS v
    · have e : ptS v s = (s.1 + 1, upd s.2 s.1 v) := if_pos ⟨hv, hl⟩
      have e2 : Tm h (s.1 + 1, upd s.2 s.1 v) = sFI (sAI h 349 (upd s.2 s.1 v)) 1201 348 (nI (s.1 + 1)) := rfl
      rw [e, e2]
      by_cases h10 : v = 10
      · simp only [eq_true h10, if_true, e5, am_kd, w2, w3, w4, m0, f1202, k349, n349, bR_s, ei, ti, w5, w6, am_let_e, rd_hK_sFI, rd_hK_sAI, nI_1, sFI_sFI]
      · obtain ⟨hv1, hv2⟩ := hv.resolve_left h10
        simp only [eq_false h10, eq_false hv1, eq_false hv2, if_true, if_false, e5, am_kd, w2, w3, w4, m0, f1202, k349, n349, bR_s, ei, ti, w5, w6, am_let_e, rd_hK_sFI, rd_hK_sAI, nI_1, sFI_sFI]
    · have e : ptS v s = s := if_neg (fun z => hv z.1)
      have h10 : ¬ v = 10 := fun z => hv (Or.inl z)
      rw [e]
      by_cases c1 : v < 32
      · simp only [eq_false h10, eq_true c1, if_true, if_false, e5, nI_1]
      · have c2 : 126 < v := Classical.byContradiction (fun z => hv (Or.inr ⟨c1, z⟩))
        simp only [eq_false h10, eq_false c1, eq_true c2, if_true, if_false, e5, nI_1]
  · have e : ptS v s = s := if_neg (fun z => hl z.2)
    have e5 : (nI s.1 < (1000 : Int32)) = False := eq_false (nI_nlt (b := 1000) (by omega) (by omega))
    rw [e]
    simp only [e5, if_false, nI_1]
theorem c_mfeed {d : Nat} {h : AH} {s : Nat × (Nat → Int32)} (hm : MSh h) (hs : s.1 ≤ 1000) (a b c : Int64) : am_R PG (d + 1) 164 8 [some (.ref 348), some (.long a), none, some (.long b), none, some (.long c), none, some (.int 0), none, none, none] [] (Tm h s) = some (some (.int (nI (fdS a b c s 24).1)), Tm h (fdS a b c s 24)) := by
  have lp : ∀ i, i ≤ 24 → am_R PG (d + 1) 164 8 [some (.ref 348), some (.long a), none, some (.long b), none, some (.long c), none, some (.int 0), none, none, none] [] (Tm h s) = am_R PG (d + 1) 164 8 [some (.ref 348), some (.long a), none, some (.long b), none, some (.long c), none, some (.int (nI i)), none, none, none] [] (Tm h (fdS a b c s i)) := by
    intro i
    induction i with
    | zero => intro _; rfl
    | succ i ih =>
      intro hi
      have e5 : nI i < (24 : Int32) := nI_lt (b := 24) (by omega) (by decide)
      rw [ih (by omega), q_X12_feed_8, if_pos e5]
      rw [show fdS a b c s (i + 1) = ptS (by8 (selL a b c i) (56 - 8 * (nI i &&& 7))) (fdS a b c s i) from rfl]
      by_cases c1 : i < 8
      · rw [if_pos (show nI i < (8 : Int32) from nI_lt (b := 8) c1 (by decide)), c_mput hm (fdS_le hs i), show selL a b c i = a from if_pos c1]
      · rw [if_neg (show ¬ nI i < (8 : Int32) from nI_nlt (b := 8) (by omega) (by omega))]
        by_cases c2 : i < 16
        · rw [if_pos (show nI i < (16 : Int32) from nI_lt (b := 16) c2 (by decide)), c_mput hm (fdS_le hs i), show selL a b c i = b by unfold selL; rw [if_neg c1, if_pos c2]]
        · rw [if_neg (show ¬ nI i < (16 : Int32) from nI_nlt (b := 16) (by omega) (by omega)), c_mput hm (fdS_le hs i), show selL a b c i = c by unfold selL; rw [if_neg c1, if_neg c2]]
  have w1 : hFI (Tm h (fdS a b c s 24)) 1201 348 = nI (fdS a b c s 24).1 := sFI_at _ _ _ _
  have w3 : hK (Tm h (fdS a b c s 24)) = hK h := rfl
  have m0 := hm.1
  rw [lp 24 (Nat.le_refl _), q_X12_feed_8, if_neg (by decide)]
  generalize fdS a b c s 24 = z at w1 w3 ⊢
  simp only [am_kd, w3, m0, if_true, w1]
/-- the tapes alike -/
def TR (s t : Nat × (Nat → Int32)) : Prop := s.1 = t.1 ∧ s.1 ≤ 1000 ∧ ∀ i, i < s.1 → ∃ c, c < 128 ∧ s.2 i = nI c ∧ t.2 i = nI c
theorem TR.pt {s t : Nat × (Nat → Int32)} (r : TR s t) (v : Int32) : TR (ptS v s) (ptS v t) := by
  obtain ⟨r1, r2, r3⟩ := r
  unfold ptS
  rw [← r1]
  by_cases c : okS v ∧ s.1 < 1000
  · rw [if_pos c, if_pos c]
    refine ⟨rfl, by show s.1 + 1 ≤ 1000; omega, fun i hi => ?_⟩
    have hi : i < s.1 + 1 := hi
    show ∃ c, c < 128 ∧ upd s.2 s.1 v i = nI c ∧ upd t.2 s.1 v i = nI c
    by_cases e : i = s.1
    · subst e
      rw [pk_us, pk_us]
      obtain ⟨k, hk, hv⟩ := okS_n c.1
      exact ⟨k, by omega, hv, hv⟩
    · rw [pk_un e, pk_un e]
      exact r3 i (by omega)
  · rw [if_neg c, if_neg c]
    exact ⟨r1, r2, r3⟩
theorem TR.fd {s t : Nat × (Nat → Int32)} (r : TR s t) (a b c : Int64) : ∀ i, TR (fdS a b c s i) (fdS a b c t i)
  | 0 => r
  | i + 1 => (r.fd a b c i).pt _
theorem Tc_self {h : AH} {n : Nat} (e : hFI h 901 1 = nI n) : Tc h (n, hAI h 2) = h := by
  unfold Tc
  rw [sAI_self]
  have : sFI h 901 1 (nI n) = sFI h 901 1 (hFI h 901 1) := by rw [e]
  rw [this]
  exact AH_ext rfl (am_up2_self _ _ _) rfl rfl rfl rfl rfl rfl rfl
theorem Tm_self {h : AH} {n : Nat} (e : hFI h 1201 348 = nI n) : Tm h (n, hAI h 349) = h := by
  unfold Tm
  rw [sAI_self]
  have : sFI h 1201 348 (nI n) = sFI h 1201 348 (hFI h 1201 348) := by rw [e]
  rw [this]
  exact AH_ext rfl (am_up2_self _ _ _) rfl rfl rfl rfl rfl rfl rfl
theorem st_feed {B L d : Nat} {xs : Nat → Int32} {h : AH} (I : Inv B L xs h) (a b c : Int64) : Stq B L xs h (fun h => am_C PG (d + 20) 125 [.ref 0, .long a, .long b, .long c] h) (fun h => am_C PG (d + 20) 164 [.ref 348, .long a, .long b, .long c] h) := by
  obtain ⟨k0, f1100, -, -, -, -, -, -, -, ⟨k1, f1, k2, n2⟩, -⟩ := I.1
  have hm : MSh h := I.ex.2.2.2.2.2.2.2.2.2.2.2.2.2.2.2.1
  obtain ⟨n, hn, t1, t2, t3⟩ := I.2.2.2.2.2.1
  have m0 := hm.1
  have r0 : TR (n, hAI h 2) (n, hAI h 349) := ⟨rfl, hn, t3⟩
  have r1 := r0.fd a b c 24
  have s1 := c_eight (d := d + 17) (s := (n, hAI h 2)) k0 f1100 k1 f1 k2 n2 hn a
  have s2 := c_eight (d := d + 17) k0 f1100 k1 f1 k2 n2 (eiS_le (l := a) (s := (n, hAI h 2)) hn) b
  have s3 := c_eight (d := d + 17) k0 f1100 k1 f1 k2 n2 (eiS_le (l := b) (eiS_le (l := a) (s := (n, hAI h 2)) hn)) c
  rw [Tc_self t1] at s1
  rw [← fdS_24] at s3
  generalize eiS b (eiS a (n, hAI h 2)) = S2 at s2 s3
  generalize eiS a (n, hAI h 2) = S1 at s1 s2
  generalize fdS a b c (n, hAI h 2) 24 = S3 at s3 r1
  have kc : am_C PG (d + 20) 125 [.ref 0, .long a, .long b, .long c] h = some (some (.int (nI S3.1)), Tc h S3) := by
    have w1 : hK (Tc h S1) 0 = 12 := k0
    have w2 : hK (Tc h S2) 0 = 12 := k0
    have w3 : hK (Tc h S3) 0 = 12 := k0
    have w4 : hK (Tc h S3) 1 = 10 := k1
    have w5 : hFR (Tc h S3) 1100 0 = some 1 := f1100
    have w6 : hFI (Tc h S3) 901 1 = nI S3.1 := sFI_at _ _ _ _
    rw [q_X11_feed]
    simp only [am_kd, k0, if_true, s1, bV_s, w1, s2, w2, s3, w3, w5, bR_s, w4, w6]
  have hm1 : MSh (sFI (Tc h S3) 1200 348 0) := hm.to rfl (fun _ => rfl) rfl
  have e1 : hFI (sFI (Tc h S3) 1200 348 0) 1201 348 = nI n := by
    rw [sFI_o _ _ (Or.inl (by decide))]
    unfold Tc
    rw [sFI_o _ _ (Or.inl (by decide)), rd_hFI_sAI]
    exact t2
  have e2 : hAI (sFI (Tc h S3) 1200 348 0) 349 = hAI h 349 := by
    rw [rd_hAI_sFI]
    unfold Tc
    rw [rd_hAI_sFI, sAI_ne _ _ (by decide)]
  have km := c_mfeed (d := d + 19) (s := (n, hAI h 349)) hm1 hn a b c
  have e3 := Tm_self e1
  rw [e2] at e3
  rw [e3] at km
  generalize fdS a b c (n, hAI h 349) 24 = S4 at km r1
  have q1 : Qp h (Tc h S3) := ⟨⟨rfl, rfl, rfl, rfl, rfl, rfl, rfl⟩, fun x h1 h2 => by unfold Tc; rw [rd_hAI_sFI, sAI_ne _ _ h1], fun j x h1 h2 h3 => by unfold Tc; rw [sFI_o _ _ h1, rd_hFI_sAI]⟩
  have q2 : Qp (Tc h S3) (sFI (Tc h S3) 1200 348 0) := ⟨⟨rfl, rfl, rfl, rfl, rfl, rfl, rfl⟩, fun x h1 h2 => rfl, fun j x h1 h2 h3 => sFI_o _ _ h3⟩
  have q3 : Qp (sFI (Tc h S3) 1200 348 0) (Tm (sFI (Tc h S3) 1200 348 0) S4) := ⟨⟨rfl, rfl, rfl, rfl, rfl, rfl, rfl⟩, fun x h1 h2 => by unfold Tm; rw [rd_hAI_sFI, sAI_ne _ _ h2], fun j x h1 h2 h3 => by unfold Tm; rw [sFI_o _ _ h2, rd_hFI_sAI]⟩
  obtain ⟨u1, u2, u3⟩ := r1
  refine ⟨nI S3.1, Tc h S3, Tm (sFI (Tc h S3) 1200 348 0) S4, kc, ?_, q1.law, (q2.tr q3).law, rfl, ((q1.tr (q2.tr q3)).inv ⟨S3.1, u2, ?_, ?_, fun i hi => ?_⟩ I).mono (by omega)⟩
  · dsimp only
    have w3 : hK (Tc h S3) 348 = 13 := m0
    rw [q_X12_feed]
    simp only [am_kd, w3, if_true, am_let_e]
    rw [km, u1]
  · unfold Tm
    rw [sFI_o _ _ (Or.inl (by decide)), rd_hFI_sAI, sFI_o _ _ (Or.inl (by decide))]
    exact sFI_at _ _ _ _
  · rw [u1]
    exact sFI_at _ _ _ _
  · have v1 : hAI (Tm (sFI (Tc h S3) 1200 348 0) S4) 2 = S3.2 := by
      unfold Tm
      rw [rd_hAI_sFI, sAI_ne _ _ (by decide), rd_hAI_sFI]
      unfold Tc
      rw [rd_hAI_sFI, sAI_at]
    have v2 : hAI (Tm (sFI (Tc h S3) 1200 348 0) S4) 349 = S4.2 := by
      unfold Tm
      rw [rd_hAI_sFI, sAI_at]
    rw [v1, v2]
    exact u3 i hi
