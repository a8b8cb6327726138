/-! All ways together are ten to the power of the legs. -/
def wE (legs : Nat) (ch : Int32) : Nat → Int64
  | 0 => 0
  | k + 1 => wE legs ch k + wB legs k ch legs
def p10 : Nat → Int64
  | 0 => 1
  | i + 1 => p10 i * 10
theorem wE_all : ∀ legs : Fin 13, ∀ ch : Fin 11, wE legs.1 (nI ch.1) (legs.1 + 1) = p10 legs.1 := by decide +kernel
theorem wE_tot {legs ch : Nat} (h1 : legs ≤ 12) (h2 : ch ≤ 10) : wE legs (nI ch) (legs + 1) = p10 legs := wE_all ⟨legs, by omega⟩ ⟨ch, by omega⟩
theorem p10_pos : ∀ legs : Fin 13, p10 legs.1 ≠ 0 ∧ p10 legs.1 * 1000000 / p10 legs.1 = 1000000 := by decide +kernel
