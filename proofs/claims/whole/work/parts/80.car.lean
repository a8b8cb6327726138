/-! What a sealed clock needs: shown counted from 0. -/
theorem xneed_sh {W : Int32 → Int32 → Int32 → Int32 → Int32} {kd sp he : Nat → Int32} {c : Nat} : ∀ n, n < 2 ^ 31 → (xneed W kd sp he c 0 0 n).2 = if kd c = 2 then nI (n / 2) else nI n
  | 0, _ => by
    by_cases k : kd c = 2
    · rw [if_pos k]
      rfl
    · rw [if_neg k]
      rfl
  | n + 1, hn => by
    have ih := xneed_sh (W := W) (kd := kd) (sp := sp) (he := he) (c := c) n (by omega)
    show xnext (kd c) (nI (0 + n)) (xneed W kd sp he c 0 0 n).2 = _
    rw [ih, Nat.zero_add]
    unfold xnext
    have r : am_rem (nI n) 2 = nI (n % 2) := rem_nI (d := 2) (by omega) (by decide) (by decide)
    by_cases k : kd c = 2
    · rw [if_pos k, if_pos k, if_pos k, r]
      by_cases z : n % 2 = 0
      · rw [z, if_pos (show nI 0 = 0 from rfl), show (n + 1) / 2 = n / 2 by omega]
      · rw [show n % 2 = 1 by omega, if_neg (show ¬ nI 1 = 0 by decide), nI_1, show (n + 1) / 2 = n / 2 + 1 by omega]
    · rw [if_neg k, if_neg k, if_neg k, nI_1]
theorem xneed_s {W : Int32 → Int32 → Int32 → Int32 → Int32} {kd sp he : Nat → Int32} {c n : Nat} (hn : n < 2 ^ 31) : (xneed W kd sp he c 0 0 (n + 1)).1 = (xneed W kd sp he c 0 0 n).1 + xth W kd sp he c n (if kd c = 2 then nI (n / 2) else nI n) := by
  show (xneed W kd sp he c 0 0 n).1 + xth W kd sp he c (0 + n) (xneed W kd sp he c 0 0 n).2 = _
  rw [xneed_sh n hn, Nat.zero_add]
