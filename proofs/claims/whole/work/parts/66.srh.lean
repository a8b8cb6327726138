/-! Hands keep the class's State and the reference's row alike. -/
theorem i1 : (1 : Int32).toInt = 1 := rfl
theorem i999 : (999 : Int32).toInt = 999 := rfl
theorem SR_draw {M : Nat → Nat → Int32} {np nc ne nw hr e q : Nat} {R : SV} {Q : MQv} {s : Int32} (h : SR M np nc ne nw hr R Q) (he : e < ne) (hq : q < np) (h1 : ¬ s < 1) (h2 : ¬ 999 < s) (g1 : ¬ Q.1.2.2.2.2.2.2.2.1 q < s) (g2 : ¬ 999 < Q.1.2.2.2.2.2.1 e + s) : SR M np nc ne nw hr (xdraw e q s R) (xdraw e q s Q.1, Q.2) := by
  obtain ⟨s1, s2, s3, s4, s5, s6, s7, s8, s9, s10, s11, s12, s13, s14, s15⟩ := h
  rw [i_lt] at h1 h2 g1 g2
  have v1 := i1
  have v2 := i999
  have w1 := (s9 e he).2
  have w2 := s10 q hq
  have a1 : (Q.1.2.2.2.2.2.1 e + s).toInt = (Q.1.2.2.2.2.2.1 e).toInt + s.toInt := i_add (by omega) (by omega)
  have a2 : (Q.1.2.2.2.2.2.2.2.1 q - s).toInt = (Q.1.2.2.2.2.2.2.2.1 q).toInt - s.toInt := i_sub (by omega) (by omega)
  refine ⟨s1, s2, s3, ?_, ?_, s6, s7, s8, ?_, ?_, s11, s12, ?_, ?_, s15⟩
  · intro k hk
    obtain ⟨b1, b2, b3⟩ := s4 k hk
    refine ⟨b1, ?_, b3⟩
    show upd R.2.2.2.2.2.1 e _ k = upd Q.1.2.2.2.2.2.1 e _ k
    by_cases c : k = e
    · subst c
      rw [pk_us, pk_us, b2]
    · rw [pk_un c, pk_un c, b2]
  · intro k hk
    show upd R.2.2.2.2.2.2.2.1 q _ k = upd Q.1.2.2.2.2.2.2.2.1 q _ k
    by_cases c : k = q
    · subst c
      rw [pk_us, pk_us, s5 k hk]
    · rw [pk_un c, pk_un c, s5 k hk]
  · intro k hk
    refine ⟨(s9 k hk).1, ?_⟩
    show 0 ≤ (upd Q.1.2.2.2.2.2.1 e _ k).toInt ∧ (upd Q.1.2.2.2.2.2.1 e _ k).toInt ≤ 999
    by_cases c : k = e
    · subst c
      rw [pk_us]
      omega
    · rw [pk_un c]
      exact (s9 k hk).2
  · intro k hk
    show 0 ≤ (upd Q.1.2.2.2.2.2.2.2.1 q _ k).toInt ∧ (upd Q.1.2.2.2.2.2.2.2.1 q _ k).toInt ≤ 9999
    by_cases c : k = q
    · subst c
      rw [pk_us]
      omega
    · rw [pk_un c]
      exact s10 k hk
  · intro k h1 h2
    obtain ⟨b1, b2, b3⟩ := s13 k h1 h2
    refine ⟨b1, ?_, b3⟩
    show upd Q.1.2.2.2.2.2.1 e _ k = 0
    rw [pk_un (by omega), b2]
  · intro k h1 h2
    show upd Q.1.2.2.2.2.2.2.2.1 q _ k = 0
    rw [pk_un (by omega), s14 k h1 h2]
/-- what a clock has, set -/
def xhas (c : Nat) (v : Int32) (R : SV) : SV := (R.1, upd R.2.1 c v, R.2.2)
theorem SR_has {M : Nat → Nat → Int32} {np nc ne nw hr c : Nat} {R : SV} {Q : MQv} {v : Int32} (h : SR M np nc ne nw hr R Q) (hc : c < nc) (g1 : 0 ≤ v.toInt) (g2 : v.toInt ≤ (M 359 c).toInt) : SR M np nc ne nw hr (xhas c v R) (xhas c v Q.1, Q.2) := by
  obtain ⟨s1, s2, s3, s4, s5, s6, s7, s8, s9, s10, s11, s12, s13, s14, s15⟩ := h
  refine ⟨s1, s2, ?_, s4, s5, s6, s7, ?_, s9, s10, s11, ?_, s13, s14, s15⟩
  · intro k hk
    have b := s3 k hk
    show (upd R.2.1 c v k, (getc R k).2) = (upd Q.1.2.1 c v k, (getc Q.1 k).2)
    by_cases e : k = c
    · subst e
      rw [pk_us, pk_us, b]
    · rw [pk_un e, pk_un e]
      exact b
  · intro k hk
    have b := s8 k hk
    by_cases e : k = c
    · subst e
      refine ⟨?_, ?_, b.2.2⟩
      · show 0 ≤ (upd Q.1.2.1 k v k).toInt
        rw [pk_us]
        exact g1
      · show (upd Q.1.2.1 k v k).toInt ≤ _
        rw [pk_us]
        exact g2
    · have z : getc (xhas c v Q.1) k = getc Q.1 k := by
        show (upd Q.1.2.1 c v k, (getc Q.1 k).2) = _
        rw [pk_un e]
        rfl
      show okc (M 359 k) (getc (xhas c v Q.1) k)
      rw [z]
      exact b
  · intro k h1 h2
    have b := s12 k h1 h2
    show (upd Q.1.2.1 c v k, (getc Q.1 k).2) = _
    rw [pk_un (by omega)]
    exact b
theorem xrob_has (c : Nat) (s : Int32) (R : SV) : xrob c s R = xhas c (R.2.1 c - s) R := rfl
theorem SR_rob {M : Nat → Nat → Int32} {np nc ne nw hr c : Nat} {R : SV} {Q : MQv} {s : Int32} (h : SR M np nc ne nw hr R Q) (h9 : (M 359 c).toInt ≤ 999) (hc : c < nc) (h1 : ¬ s < 1) (h2 : ¬ 999 < s) (g1 : ¬ Q.1.2.1 c < s) : SR M np nc ne nw hr (xrob c s R) (xrob c s Q.1, Q.2) := by
  have b : R.2.1 c = Q.1.2.1 c := congrArg Prod.fst (h.2.2.1 c hc)
  have ok := h.2.2.2.2.2.2.2.1 c hc
  rw [i_lt] at h1 h2 g1
  have v1 := i1
  have v2 := i999
  have o1 : 0 ≤ (Q.1.2.1 c).toInt := ok.1
  have o2 : (Q.1.2.1 c).toInt ≤ (M 359 c).toInt := ok.2.1
  have a1 : (Q.1.2.1 c - s).toInt = (Q.1.2.1 c).toInt - s.toInt := i_sub (by omega) (by omega)
  rw [xrob_has, xrob_has, b]
  exact SR_has h hc (by omega) (by omega)
theorem SR_water {M : Nat → Nat → Int32} {np nc ne nw hr e : Nat} {R : SV} {Q : MQv} {v : Int32} (h : SR M np nc ne nw hr R Q) (he : e < ne) (g1 : 0 ≤ v.toInt) (g2 : v.toInt ≤ 999) : SR M np nc ne nw hr (R.1, R.2.1, R.2.2.1, R.2.2.2.1, R.2.2.2.2.1, upd R.2.2.2.2.2.1 e v, R.2.2.2.2.2.2) ((Q.1.1, Q.1.2.1, Q.1.2.2.1, Q.1.2.2.2.1, Q.1.2.2.2.2.1, upd Q.1.2.2.2.2.2.1 e v, Q.1.2.2.2.2.2.2), Q.2) := by
  obtain ⟨s1, s2, s3, s4, s5, s6, s7, s8, s9, s10, s11, s12, s13, s14, s15⟩ := h
  refine ⟨s1, s2, s3, ?_, s5, s6, s7, s8, ?_, s10, s11, s12, ?_, s14, s15⟩
  · intro k hk
    obtain ⟨b1, b2, b3⟩ := s4 k hk
    refine ⟨b1, ?_, b3⟩
    show upd R.2.2.2.2.2.1 e _ k = upd Q.1.2.2.2.2.2.1 e _ k
    by_cases c : k = e
    · subst c
      rw [pk_us, pk_us]
    · rw [pk_un c, pk_un c, b2]
  · intro k hk
    refine ⟨(s9 k hk).1, ?_⟩
    show 0 ≤ (upd Q.1.2.2.2.2.2.1 e _ k).toInt ∧ (upd Q.1.2.2.2.2.2.1 e _ k).toInt ≤ 999
    by_cases c : k = e
    · subst c
      rw [pk_us]
      omega
    · rw [pk_un c]
      exact (s9 k hk).2
  · intro k h1 h2
    obtain ⟨b1, b2, b3⟩ := s13 k h1 h2
    refine ⟨b1, ?_, b3⟩
    show upd Q.1.2.2.2.2.2.1 e _ k = 0
    rw [pk_un (by omega), b2]
theorem SR_pour {M : Nat → Nat → Int32} {np nc ne nw hr e c : Nat} {R : SV} {Q : MQv} {s : Int32} (h : SR M np nc ne nw hr R Q) (h9 : (M 359 c).toInt ≤ 999) (he : e < ne) (hc : c < nc) (h1 : ¬ s < 1) (h2 : ¬ 999 < s) (g1 : ¬ Q.1.2.2.2.2.2.1 e < s) (g2 : ¬ M 359 c < Q.1.2.1 c + s) : SR M np nc ne nw hr (xpour e c s R) (xpour e c s Q.1, Q.2) := by
  have b : R.2.1 c = Q.1.2.1 c := congrArg Prod.fst (h.2.2.1 c hc)
  have b2 : R.2.2.2.2.2.1 e = Q.1.2.2.2.2.2.1 e := (h.2.2.2.1 e he).2.1
  have ok := h.2.2.2.2.2.2.2.1 c hc
  have w1 := (h.2.2.2.2.2.2.2.2.1 e he).2
  rw [i_lt] at h1 h2 g1 g2
  have v1 := i1
  have v2 := i999
  have o1 : 0 ≤ (Q.1.2.1 c).toInt := ok.1
  have o2 : (Q.1.2.1 c).toInt ≤ (M 359 c).toInt := ok.2.1
  have a1 : (Q.1.2.1 c + s).toInt = (Q.1.2.1 c).toInt + s.toInt := i_add (by omega) (by omega)
  have a2 : (Q.1.2.2.2.2.2.1 e - s).toInt = (Q.1.2.2.2.2.2.1 e).toInt - s.toInt := i_sub (by omega) (by omega)
  have k := SR_water (SR_has h hc (v := Q.1.2.1 c + s) (by omega) (by omega)) he (v := Q.1.2.2.2.2.2.1 e - s) (by omega) (by omega)
  unfold xpour
  rw [b, b2]
  exact k
theorem SR_go {M : Nat → Nat → Int32} {np nc ne nw hr e t : Nat} {R : SV} {Q : MQv} (h : SR M np nc ne nw hr R Q) (he : e < ne) (ht : t < np) : SR M np nc ne nw hr (xgo e (nI t) R) (xgo e (nI t) Q.1, Q.2) := by
  obtain ⟨s1, s2, s3, s4, s5, s6, s7, s8, s9, s10, s11, s12, s13, s14, s15⟩ := h
  refine ⟨s1, s2, s3, ?_, s5, s6, s7, s8, ?_, s10, s11, s12, ?_, s14, s15⟩
  · intro k hk
    obtain ⟨b1, b2, b3⟩ := s4 k hk
    refine ⟨?_, b2, b3⟩
    show upd R.2.2.2.2.1 e _ k = upd Q.1.2.2.2.2.1 e _ k
    by_cases c : k = e
    · subst c
      rw [pk_us, pk_us]
    · rw [pk_un c, pk_un c, b1]
  · intro k hk
    refine ⟨?_, (s9 k hk).2⟩
    show ∃ q, q < np ∧ upd Q.1.2.2.2.2.1 e _ k = nI q
    by_cases c : k = e
    · subst c
      exact ⟨t, ht, pk_us⟩
    · rw [pk_un c]
      exact (s9 k hk).1
  · intro k h1 h2
    obtain ⟨b1, b2, b3⟩ := s13 k h1 h2
    refine ⟨?_, b2, b3⟩
    show upd Q.1.2.2.2.2.1 e _ k = 0
    rw [pk_un (by omega), b1]
/-- a State copied as far as its rows go: the reference row tells nothing apart -/
theorem cp_in {n k : Nat} {f g : Nat → Int32} (h : k < n) : cp n f g k = f k := by
  unfold cp
  rw [if_pos h]
theorem SR_cpS {M : Nat → Nat → Int32} {np nc ne nw hr : Nat} {R T : SV} {Q : MQv} (hn : np ≤ 5 ∧ nc ≤ 6 ∧ ne ≤ 4 ∧ nw ≤ 6) (h : SR M np nc ne nw hr R Q) : SR M np nc ne nw hr (cpS R T) Q := by
  obtain ⟨s1, s2, s3, s4, s5, s6, s7⟩ := h
  refine ⟨s1, s2, ?_, ?_, ?_, ?_, s7⟩
  · intro c hc
    rw [← s3 c hc]
    show (cp 6 _ _ c, cp 6 _ _ c, cp 6 _ _ c) = (_, _, _)
    rw [cp_in (by omega), cp_in (by omega), cp_in (by omega)]
  · intro e he
    obtain ⟨b1, b2, b3⟩ := s4 e he
    refine ⟨?_, ?_, ?_⟩
    · show cp 4 _ _ e = _
      rw [cp_in (by omega), b1]
    · show cp 4 _ _ e = _
      rw [cp_in (by omega), b2]
    · show cp 4 _ _ e = _
      rw [cp_in (by omega), b3]
  · intro k hk
    show cp 5 _ _ k = _
    rw [cp_in (by omega), s5 k hk]
  · intro k hk
    show cp 6 _ _ k = _
    rw [cp_in (by omega)]
    exact s6 k hk
