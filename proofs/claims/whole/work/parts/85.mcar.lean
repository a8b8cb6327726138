/-! The reference's caravan, from its first loop on. -/
theorem c_mcar {d n c legs : Nat} {W : Int32 → Int32 → Int32 → Int32 → Int32} {h : AH} {ch mi : Int32} {ρ : Nat → Nat → Int32} (hm : MSh h) (hl : MoL h n W) (hc : c < 6) (h1 : legs ≤ 12) (hfin : cG legs ch mi (legs + 1) = true) :
    ∃ k τ, k ≤ legs ∧ (∀ j, 1 ≤ j → j ≤ k → cG legs ch mi j = false) ∧ cG legs ch mi (k + 1) = true ∧ am_R PG (d + 5) 251 60 [some (.ref 348), some (.int (nI c)), some (.int (nI legs)), some (.int ch), some (.int mi), some (.long 1), none, some (.int 0), none, none, none, none, none, none, none] [] (mV h ρ) = some (some (.int (xneed W (hAI h 357) (hAI h 361) (hAI h 369) c 0 0 (legs + k)).1), mV h τ) := by
  have hmm := hm
  have m0 := hmm.1
  have f1217 : hFR _ 1217 348 = some 357 := (hmm.2 8 (by decide)).1
  have k357 : hK _ 357 = 50 := (hmm.2 8 (by decide)).2.1
  have n357 : hLN _ 357 = 12 := (hmm.2 8 (by decide)).2.2
  have hne : p10 legs ≠ 0 := (p10_pos ⟨legs, by omega⟩).1
  have c12 : ∀ x, am_in (nI c) 12 x = x := am_inN (by omega) (by decide)
  have tc : Int32.toNatClampNeg (nI c) = c := nI_clamp (by omega)
  have o7 : ∀ ρ, hAI (mV h ρ) 357 = hAI h 357 := fun ρ => mV_out _ _ (by decide)
  have d2 : ∀ x, am_dz (2 : Int32) x = x := fun x => am_dz_t (by decide) x
  generalize hN : (fun i => (xneed W (hAI h 357) (hAI h 361) (hAI h 369) c 0 0 i).1) = N
  have hNs : ∀ i, i < 100 → N (i + 1) = N i + xth W (hAI h 357) (hAI h 361) (hAI h 369) c i (if hAI h 357 c = 2 then nI (i / 2) else nI i) := by
    intro i hi
    rw [← hN]
    exact xneed_s (by omega)
  have hNi : ∀ i, (xneed W (hAI h 357) (hAI h 361) (hAI h 369) c 0 0 i).1 = N i := fun i => by rw [← hN]
  have lp : ∀ i, i ≤ legs → am_R PG (d + 5) 251 60 [some (.ref 348), some (.int (nI c)), some (.int (nI legs)), some (.int ch), some (.int mi), some (.long 1), none, some (.int 0), none, none, none, none, none, none, none] [] (mV h ρ) = am_R PG (d + 5) 251 60 [some (.ref 348), some (.int (nI c)), some (.int (nI legs)), some (.int ch), some (.int mi), some (.long (p10 i)), none, some (.int (nI i)), none, none, none, none, none, none, none] [] (mV h ρ) := by
    intro i
    induction i with
    | zero => intro _; rfl
    | succ i ih =>
      intro hi
      rw [ih (by omega), q_X12_caravan_60, if_pos (nI_lt (by omega) (by omega)), nI_1]
      rfl
  generalize am_R PG (d + 5) 251 60 [some (.ref 348), some (.int (nI c)), some (.int (nI legs)), some (.int ch), some (.int mi), some (.long 1), none, some (.int 0), none, none, none, none, none, none, none] [] (mV h ρ) = Z at lp ⊢
  have lp2 : ∀ i, i ≤ legs → ∃ τ, Z = am_R PG (d + 5) 251 89 [some (.ref 348), some (.int (nI c)), some (.int (nI legs)), some (.int ch), some (.int mi), some (.long (p10 legs)), none, some (.int (N i)), some (.long 0), none, some (.int (nI i)), none, none, none, none] [] (mV h τ) := by
    intro i
    induction i with
    | zero =>
      intro _
      refine ⟨ρ, ?_⟩
      rw [lp legs (Nat.le_refl _), q_X12_caravan_60, if_neg (nI_nlt (Nat.le_refl _) (by omega)), ← hN]
      rfl
    | succ i ih =>
      intro hi
      obtain ⟨τ, k1⟩ := ih (by omega)
      have e2 : (2 : Int32) * nI legs = nI (2 * legs) := pk_mul 2 legs
      have eh : nI i / 2 = nI (i / 2) := pk_div (d := 2) (by omega) (by decide) (by decide)
      obtain ⟨τ2, k2⟩ := c_mthV (dp := d) (ρ := τ) hm hl (show c < 12 by omega) (show i < 2 ^ 31 by omega) (if hAI h 357 c = 2 then nI (i / 2) else nI i)
      refine ⟨τ2, ?_⟩
      rw [k1, q_X12_caravan_89, e2, if_neg (nI_nlt (by omega) (by omega)), if_pos (nI_lt (by omega) (by omega)), hNs i (by omega)]
      by_cases z : hAI h 357 c = 2
      · rw [if_pos z] at k2 ⊢
        simp only [rd_hK_mV, rd_hFR_mV, rd_hLN_mV, am_kd, m0, f1217, k357, n357, if_true, bR_s, c12, tc, o7, if_pos z, d2, eh, k2, bI_s, nI_1]
      · rw [if_neg z] at k2 ⊢
        simp only [rd_hK_mV, rd_hFR_mV, rd_hLN_mV, am_kd, m0, f1217, k357, n357, if_true, bR_s, c12, tc, o7, if_neg z, k2, bI_s, nI_1]
  have stp : ∀ k τ, k ≤ legs → ∃ τ2, am_R PG (d + 5) 251 89 [some (.ref 348), some (.int (nI c)), some (.int (nI legs)), some (.int ch), some (.int mi), some (.long (p10 legs)), none, some (.int (N (legs + k))), some (.long (wE legs ch k)), none, some (.int (nI (legs + k))), none, none, none, none] [] (mV h τ) = (if lg_cmp (wE legs ch (k + 1) * (1000000 : Int64) / p10 legs) mi.toInt64 < 0 then am_R PG (d + 5) 251 89 [some (.ref 348), some (.int (nI c)), some (.int (nI legs)), some (.int ch), some (.int mi), some (.long (p10 legs)), none, some (.int (N (legs + k + 1))), some (.long (wE legs ch (k + 1))), none, some (.int (nI (legs + k + 1))), none, none, none, none] [] (mV h τ2) else some (some (.int (N (legs + k))), mV h τ)) := by
    intro k τ hk
    have e2 : (2 : Int32) * nI legs = nI (2 * legs) := pk_mul 2 legs
    have ek : nI (legs + k) - nI legs = nI k := by rw [pk_sub (by omega), show legs + k - legs = k by omega]
    have eh : nI (legs + k) / 2 = nI ((legs + k) / 2) := pk_div (d := 2) (by omega) (by decide) (by decide)
    obtain ⟨τ2, k2⟩ := c_mthV (dp := d) (ρ := τ) hm hl (show c < 12 by omega) (show legs + k < 2 ^ 31 by omega) (if hAI h 357 c = 2 then nI ((legs + k) / 2) else nI (legs + k))
    have wl : ∀ i, i ≤ k → am_R PG (d + 5) 251 89 [some (.ref 348), some (.int (nI c)), some (.int (nI legs)), some (.int ch), some (.int mi), some (.long (p10 legs)), none, some (.int (N (legs + k))), some (.long (wE legs ch k)), none, some (.int (nI (legs + k))), none, none, none, none] [] (mV h τ) = am_R PG (d + 5) 251 115 [some (.ref 348), some (.int (nI c)), some (.int (nI legs)), some (.int ch), some (.int mi), some (.long (p10 legs)), none, some (.int (N (legs + k))), some (.long (wE legs ch k)), none, some (.int (nI (legs + k))), some (.int (nI k)), some (.long (wA legs i)), none, some (.int (nI i))] [] (mV h τ) := by
      intro i
      induction i with
      | zero => intro _; rw [q_X12_caravan_89, e2, if_neg (nI_nlt (by omega) (by omega)), if_neg (nI_nlt (by omega) (by omega)), ek]; rfl
      | succ i ih =>
        intro hi
        rw [ih (by omega), q_X12_caravan_115, if_pos (nI_lt (by omega) (by omega)), nI_1, am_dzJ_t (l0 (by omega) (by omega))]
        rfl
    have wl2 : ∀ i, i ≤ legs → am_R PG (d + 5) 251 89 [some (.ref 348), some (.int (nI c)), some (.int (nI legs)), some (.int ch), some (.int mi), some (.long (p10 legs)), none, some (.int (N (legs + k))), some (.long (wE legs ch k)), none, some (.int (nI (legs + k))), none, none, none, none] [] (mV h τ) = am_R PG (d + 5) 251 147 [some (.ref 348), some (.int (nI c)), some (.int (nI legs)), some (.int ch), some (.int mi), some (.long (p10 legs)), none, some (.int (N (legs + k))), some (.long (wE legs ch k)), none, some (.int (nI (legs + k))), some (.int (nI k)), some (.long (wB legs k ch i)), none, some (.int (nI i))] [] (mV h τ) := by
      intro i
      induction i with
      | zero => intro _; rw [wl k (Nat.le_refl _), q_X12_caravan_115, if_neg (nI_nlt (Nat.le_refl _) (by omega))]; rfl
      | succ i ih =>
        intro hi
        have e : wB legs k ch (i + 1) = wB legs k ch i * (if i < k then ch else 10 - ch).toInt64 := rfl
        rw [ih (by omega), q_X12_caravan_147, if_pos (nI_lt (by omega) (by omega)), nI_1, e]
        by_cases z : i < k
        · rw [if_pos (nI_lt z (by omega)), if_pos z]
        · rw [if_neg (nI_nlt (by omega) (by omega)), if_neg z]
    have ew : wE legs ch k + wB legs k ch legs = wE legs ch (k + 1) := rfl
    refine ⟨τ2, ?_⟩
    rw [wl2 legs (Nat.le_refl _), q_X12_caravan_147, if_neg (nI_nlt (Nat.le_refl _) (by omega)), am_dzJ_t hne, ew, hNs (legs + k) (by omega)]
    by_cases g : lg_cmp (wE legs ch (k + 1) * (1000000 : Int64) / p10 legs) mi.toInt64 < 0
    · rw [if_pos g, if_pos g]
      by_cases z : hAI h 357 c = 2
      · rw [if_pos z] at k2 ⊢
        simp only [rd_hK_mV, rd_hFR_mV, rd_hLN_mV, am_kd, m0, f1217, k357, n357, if_true, bR_s, c12, tc, o7, if_pos z, d2, eh, k2, bI_s, nI_1]
      · rw [if_neg z] at k2 ⊢
        simp only [rd_hK_mV, rd_hFR_mV, rd_hLN_mV, am_kd, m0, f1217, k357, n357, if_true, bR_s, c12, tc, o7, if_neg z, k2, bI_s, nI_1]
    · rw [if_neg g, if_neg g]
  have lp3 : ∀ k, k ≤ legs → (∃ k τ, k ≤ legs ∧ (∀ j, 1 ≤ j → j ≤ k → cG legs ch mi j = false) ∧ cG legs ch mi (k + 1) = true ∧ Z = some (some (.int (N (legs + k))), mV h τ)) ∨ ∃ τ, (∀ j, 1 ≤ j → j ≤ k → cG legs ch mi j = false) ∧ Z = am_R PG (d + 5) 251 89 [some (.ref 348), some (.int (nI c)), some (.int (nI legs)), some (.int ch), some (.int mi), some (.long (p10 legs)), none, some (.int (N (legs + k))), some (.long (wE legs ch k)), none, some (.int (nI (legs + k))), none, none, none, none] [] (mV h τ) := by
    intro k
    induction k with
    | zero =>
      intro _
      obtain ⟨τ, q⟩ := lp2 legs (Nat.le_refl _)
      exact Or.inr ⟨τ, fun j h1 h2 => by omega, q⟩
    | succ k ih =>
      intro hk
      rcases ih (by omega) with z | ⟨τ, z1, z2⟩
      · exact Or.inl z
      · obtain ⟨τ2, q⟩ := stp k τ (by omega)
        rw [q] at z2
        by_cases g : lg_cmp (wE legs ch (k + 1) * (1000000 : Int64) / p10 legs) mi.toInt64 < 0
        · rw [if_pos g] at z2
          refine Or.inr ⟨τ2, fun j h1 h2 => ?_, z2⟩
          by_cases e : j = k + 1
          · rw [e]
            unfold cG
            rw [decide_eq_true g]
            rfl
          · exact z1 j h1 (by omega)
        · rw [if_neg g] at z2
          exact Or.inl ⟨k, τ, by omega, z1, by unfold cG; rw [decide_eq_false g]; rfl, z2⟩
  simp only [hNi]
  rcases lp3 legs (Nat.le_refl _) with z | ⟨τ, z1, z2⟩
  · exact z
  · obtain ⟨τ2, q⟩ := stp legs τ (Nat.le_refl _)
    have g : ¬ lg_cmp (wE legs ch (legs + 1) * (1000000 : Int64) / p10 legs) mi.toInt64 < 0 := by
      intro g
      unfold cG at hfin
      rw [decide_eq_true g] at hfin
      cases hfin
    rw [q, if_neg g] at z2
    exact ⟨legs, τ, Nat.le_refl _, z1, hfin, z2⟩
