/-! Ahead.sealedSips. -/
def cG (legs : Nat) (ch mi : Int32) (k : Nat) : Bool := !decide (lg_cmp (wE legs ch k * (1000000 : Int64) / p10 legs) mi.toInt64 < 0)
theorem c_sealed {d p np nc ne nw len c legs : Nat} {W : Int32 → Int32 → Int32 → Int32 → Int32} {h : AH} {ch mi : Int32} (hp : PoC h p np nc ne nw) (hl : PoL h p len W) (hc : c < 6) (h1 : legs ≤ 12) :
    ∃ k f, k ≤ legs + 1 ∧ (∀ j, j < k → cG legs ch mi j = false) ∧ (k = legs + 1 ∨ cG legs ch mi k = true) ∧ am_C PG (d + 4) 7 [.ref 93, .ref p, .int (nI c), .int (nI legs), .int ch, .int mi] h = some (some (.int (if k = 0 then 0 else (xneed W (hAI h (p + 4)) (hAI h (p + 7)) (hAI h (p + 13)) c 0 0 (legs + k - 1)).1)), sAI h (p + 16) f) := by
  have p0 := hp.1.1.1
  have hne : p10 legs ≠ 0 := (p10_pos ⟨legs, by omega⟩).1
  have lp : ∀ i, i ≤ legs → am_C PG (d + 4) 7 [.ref 93, .ref p, .int (nI c), .int (nI legs), .int ch, .int mi] h = am_R PG (d + 4) 7 6 [none, some (.ref p), some (.int (nI c)), some (.int (nI legs)), some (.int ch), some (.int mi), some (.long (p10 i)), none, some (.int (nI i)), none, none] [] h := by
    intro i
    induction i with
    | zero => intro _; rw [q_X0_sealedSips]; rfl
    | succ i ih =>
      intro hi
      rw [ih (by omega), q_X0_sealedSips_6, if_pos (nI_lt (by omega) (by omega)), nI_1]
      rfl
  have kn : ∀ n, n ≤ 24 → ∃ f, am_C PG (d + 3) 58 [.ref p, .int (nI c), .int 0, .int 0, .int (nI n)] h = some (some (.int (xneed W (hAI h (p + 4)) (hAI h (p + 7)) (hAI h (p + 13)) c 0 0 n).1), sAI h (p + 16) f) := fun n hn => c_need (d := d) (hr := 0) hp hl hc (by omega) 0
  have lp2 : ∀ k, k ≤ legs + 1 → (∃ k f, k ≤ legs + 1 ∧ (∀ j, j < k → cG legs ch mi j = false) ∧ (k = legs + 1 ∨ cG legs ch mi k = true) ∧ am_C PG (d + 4) 7 [.ref 93, .ref p, .int (nI c), .int (nI legs), .int ch, .int mi] h = some (some (.int (if k = 0 then 0 else (xneed W (hAI h (p + 4)) (hAI h (p + 7)) (hAI h (p + 13)) c 0 0 (legs + k - 1)).1)), sAI h (p + 16) f)) ∨ ((∀ j, j < k → cG legs ch mi j = false) ∧ am_C PG (d + 4) 7 [.ref 93, .ref p, .int (nI c), .int (nI legs), .int ch, .int mi] h = am_R PG (d + 4) 7 32 [none, some (.ref p), some (.int (nI c)), some (.int (nI legs)), some (.int ch), some (.int mi), some (.long (p10 legs)), none, some (.long (wE legs ch k)), none, some (.int (nI k))] [] h) := by
    intro k
    induction k with
    | zero =>
      intro _
      refine Or.inr ⟨fun j hj => by omega, ?_⟩
      rw [lp legs (Nat.le_refl _), q_X0_sealedSips_6, if_neg (nI_nlt (Nat.le_refl _) (by omega))]
      rfl
    | succ k ih =>
      intro hk
      rcases ih (by omega) with z | ⟨z1, z2⟩
      · exact Or.inl z
      · rw [q_X0_sealedSips_32, if_neg (nI_nlt (by omega) (by omega)), am_dzJ_t hne] at z2
        by_cases g : lg_cmp (wE legs ch k * (1000000 : Int64) / p10 legs) mi.toInt64 < 0
        · rw [if_pos g, c_ways h1 (by omega), bJ_s, nI_1] at z2
          refine Or.inr ⟨fun j hj => ?_, z2⟩
          by_cases e : j = k
          · rw [e]
            unfold cG
            rw [decide_eq_true g]
            rfl
          · exact z1 j (by omega)
        · have hg : cG legs ch mi k = true := by
            unfold cG
            rw [decide_eq_false g]
            rfl
          rw [if_neg g] at z2
          by_cases k0 : k = 0
          · rw [if_pos (by rw [k0]; rfl)] at z2
            exact Or.inl ⟨k, hAI h (p + 16), by omega, z1, Or.inr hg, by rw [z2, if_pos k0, sAI_self]⟩
          · obtain ⟨f, q⟩ := kn (legs + k - 1) (by omega)
            have e : nI legs + nI k - 1 = nI (legs + k - 1) := by rw [nI_add]; exact pk_sub (b := 1) (by omega)
            rw [if_neg (nI_ne0 (by omega) (by omega)), am_kd_t p0, e, q, bI_s] at z2
            exact Or.inl ⟨k, f, by omega, z1, Or.inr hg, by rw [z2, if_neg k0]⟩
  rcases lp2 (legs + 1) (Nat.le_refl _) with z | ⟨z1, z2⟩
  · exact z
  · obtain ⟨f, q⟩ := kn (2 * legs) (by omega)
    have e : (2 : Int32) * nI legs = nI (2 * legs) := pk_mul 2 legs
    rw [q_X0_sealedSips_32, if_pos (nI_lt (by omega) (by omega)), am_kd_t p0, e, q, bI_s] at z2
    exact ⟨legs + 1, f, Nat.le_refl _, z1, Or.inl rfl, by rw [z2, if_neg (by omega), show legs + (legs + 1) - 1 = 2 * legs by omega]⟩
