/-! years: sums of a row's piece against sums over those that are there. -/
theorem sumN_up {f : Nat → Int32} {n : Nat} : ∀ k, (∀ j, n ≤ j → j < n + k → f j = 0) → sumN f (n + k) = sumN f n
  | 0, _ => rfl
  | k + 1, h => by
    show sumN f (n + k) + f (n + k) = _
    rw [h (n + k) (by omega) (by omega), add0]
    exact sumN_up k (fun j h1 h2 => h j h1 (by omega))
theorem SR_drysum {M : Nat → Nat → Int32} {np nc ne nw hr : Nat} {R : SV} {Q : MQv} (hn : ne ≤ 4) (h : SR M np nc ne nw hr R Q) : sumN (fun i => enc Q (32 + i)) 4 = sumN R.2.2.2.2.2.2.1 ne := by
  obtain ⟨s1, s2, s3, s4, s5, s6, s7, s8, s9, s10, s11, s12, s13, s14, s15⟩ := h
  obtain ⟨k, hk⟩ : ∃ k, 4 = ne + k := ⟨4 - ne, by omega⟩
  rw [hk, sumN_up k]
  · apply sumN_congr
    intro j hj
    rw [enc_d Q (show j < 4 by omega), (s4 j hj).2.2]
  · intro j h1 h2
    show enc Q (32 + j) = 0
    rw [enc_d Q (show j < 4 by omega), (s13 j h1 (by omega)).2.2]
theorem SR_stillsum {M : Nat → Nat → Int32} {np nc ne nw hr : Nat} {R : SV} {Q : MQv} (hn : nc ≤ 6) (h : SR M np nc ne nw hr R Q) : sumN (fun i => enc Q (18 + i)) 6 = sumN R.2.2.2.1 nc := by
  obtain ⟨s1, s2, s3, s4, s5, s6, s7, s8, s9, s10, s11, s12, s13, s14, s15⟩ := h
  obtain ⟨k, hk⟩ : ∃ k, 6 = nc + k := ⟨6 - nc, by omega⟩
  rw [hk, sumN_up k]
  · apply sumN_congr
    intro j hj
    rw [enc_t Q (show j < 6 by omega)]
    exact (congrArg (fun x => x.2.2) (s3 j hj)).symm
  · intro j h1 h2
    show enc Q (18 + j) = 0
    rw [enc_t Q (show j < 6 by omega)]
    exact congrArg (fun x => x.2.2) (s12 j h1 (by omega))
