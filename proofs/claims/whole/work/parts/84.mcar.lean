/-! The reference's caravan, from the loop over hours on. -/
theorem mV_mV' (h : AH) (ρ τ : Nat → Nat → Int32) : mV (mV h ρ) τ = mV h τ := by
  apply AH_ext
  all_goals (try rfl)
  funext a
  unfold mV
  show (if 375 ≤ a ∧ a ≤ 384 then τ a else (if 375 ≤ a ∧ a ≤ 384 then ρ a else hAI h a)) = (if 375 ≤ a ∧ a ≤ 384 then τ a else hAI h a)
  by_cases c : 375 ≤ a ∧ a ≤ 384
  · rw [if_pos c, if_pos c]
  · rw [if_neg c, if_neg c, if_neg c]
theorem c_mthV {dp n c hr : Nat} {W : Int32 → Int32 → Int32 → Int32 → Int32} {h : AH} {ρ : Nat → Nat → Int32} (hm : MSh h) (hl : MoL h n W) (hc : c < 12) (hh : hr < 2 ^ 31) (s : Int32) :
    ∃ τ, am_C PG (dp + 4) 212 [.ref 348, .int (nI c), .int (nI hr), .int s] (mV h ρ) = some (some (.int (xth W (hAI h 357) (hAI h 361) (hAI h 369) c hr s)), mV h τ) := by
  have o : ∀ a, a < 375 → hAI (mV h ρ) a = hAI h a := fun a ha => mV_out _ _ (Or.inl ha)
  obtain ⟨τ, k⟩ := c_mthirst (dp := dp) (h := mV h ρ) (hm.to rfl (fun _ => rfl) rfl) (hl.to (o _ (by decide)) (o _ (by decide)) (o _ (by decide))) hc hh s
  rw [o _ (by decide), o _ (by decide), o _ (by decide), mV_mV'] at k
  exact ⟨τ, k⟩
