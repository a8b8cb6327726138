/-! The law: a step for each call, all steps. -/
set_option maxRecDepth 100000 in
theorem lw_step {d B L j : Nat} {xs : Nat → Int32} {h : AH} (I : Inv B L xs h) (hB : B + 24 < 2 ^ 30) (hL : L ≤ 3584) (hj : 7 * j + 7 ≤ L) : ∃ g, am_R PG (d + 41) 274 23 [some (.ref 1000101), some (.ref 0), some (.ref 348), some (.ref 410), some (.int (nI (7 * j))), none, none] [] h = am_R PG (d + 41) 274 23 [some (.ref 1000101), some (.ref 0), some (.ref 348), some (.ref 410), some (.int (nI (7 * (j + 1)))), none, none] [] g ∧ Inv (B + 24) L xs g ∧ hNX g ≤ hNX h + 1 := by
  obtain ⟨k0, -, -, -, -, -, -, -, -, -, -, -, -, -, -, -, -, -, -, -, -, -, ms, k410, kS, lS⟩ := id I.1
  have hB0 : B < 2 ^ 30 := by omega
  have m0 : hK h 348 = 13 := ms.1
  have nlt : ¬ Int32.ofNat L - (7 : Int32) < nI (7 * j) := by
    have e : Int32.ofNat L - (7 : Int32) = nI (L - 7) := nI_subN (a := L) (b := 7) (by omega)
    rw [e]
    exact nI_nlt (by omega) (by omega)
  have in0 : ∀ x, am_in (nI (7 * j)) L x = x := am_inN (by omega) (by omega)
  have in1 : ∀ x, am_in (nI (7 * j) + (1 : Int32)) L x = x := by
    rw [show (1 : Int32) = nI 1 from rfl, nI_add]
    exact am_inN (by omega) (by omega)
  have in2 : ∀ x, am_in (nI (7 * j) + (2 : Int32)) L x = x := by
    rw [show (2 : Int32) = nI 2 from rfl, nI_add]
    exact am_inN (by omega) (by omega)
  have in3 : ∀ x, am_in (nI (7 * j) + (3 : Int32)) L x = x := by
    rw [show (3 : Int32) = nI 3 from rfl, nI_add]
    exact am_inN (by omega) (by omega)
  have in4 : ∀ x, am_in (nI (7 * j) + (4 : Int32)) L x = x := by
    rw [show (4 : Int32) = nI 4 from rfl, nI_add]
    exact am_inN (by omega) (by omega)
  have in5 : ∀ x, am_in (nI (7 * j) + (5 : Int32)) L x = x := by
    rw [show (5 : Int32) = nI 5 from rfl, nI_add]
    exact am_inN (by omega) (by omega)
  have in6 : ∀ x, am_in (nI (7 * j) + (6 : Int32)) L x = x := by
    rw [show (6 : Int32) = nI 6 from rfl, nI_add]
    exact am_inN (by omega) (by omega)
  have eNx : nI (7 * j) + (7 : Int32) = nI (7 * (j + 1)) := by rw [show (7 : Int32) = nI 7 from rfl, nI_add]; rfl
  rw [q_L_law_23, am_kd_t kS, lS, if_neg nlt, am_kd_t kS, in0]
  generalize hAI h 1000101 (Int32.toNatClampNeg (nI (7 * j))) &&& (31 : Int32) = kk
  by_cases e0 : Int32.toInt kk = (0 : Int)
  · rw [if_pos e0]
    have S : Stq B L xs h (fun y => am_C PG (d + 40) 125 [.ref 0, .long (((Int32.toInt64 (hAI h 1000101 (Int32.toNatClampNeg (nI (7 * j) + (1 : Int32))))) <<< (Int32.toInt64 (32 : Int32) &&& 63)) ||| ((Int32.toInt64 (hAI h 1000101 (Int32.toNatClampNeg (nI (7 * j) + (2 : Int32))))) &&& (4294967295 : Int64))), .long (((Int32.toInt64 (hAI h 1000101 (Int32.toNatClampNeg (nI (7 * j) + (3 : Int32))))) <<< (Int32.toInt64 (32 : Int32) &&& 63)) ||| ((Int32.toInt64 (hAI h 1000101 (Int32.toNatClampNeg (nI (7 * j) + (4 : Int32))))) &&& (4294967295 : Int64))), .long (((Int32.toInt64 (hAI h 1000101 (Int32.toNatClampNeg (nI (7 * j) + (5 : Int32))))) <<< (Int32.toInt64 (32 : Int32) &&& 63)) ||| ((Int32.toInt64 (hAI h 1000101 (Int32.toNatClampNeg (nI (7 * j) + (6 : Int32))))) &&& (4294967295 : Int64)))] y) (fun y => am_C PG (d + 40) 164 [.ref 348, .long (((Int32.toInt64 (hAI h 1000101 (Int32.toNatClampNeg (nI (7 * j) + (1 : Int32))))) <<< (Int32.toInt64 (32 : Int32) &&& 63)) ||| ((Int32.toInt64 (hAI h 1000101 (Int32.toNatClampNeg (nI (7 * j) + (2 : Int32))))) &&& (4294967295 : Int64))), .long (((Int32.toInt64 (hAI h 1000101 (Int32.toNatClampNeg (nI (7 * j) + (3 : Int32))))) <<< (Int32.toInt64 (32 : Int32) &&& 63)) ||| ((Int32.toInt64 (hAI h 1000101 (Int32.toNatClampNeg (nI (7 * j) + (4 : Int32))))) &&& (4294967295 : Int64))), .long (((Int32.toInt64 (hAI h 1000101 (Int32.toNatClampNeg (nI (7 * j) + (5 : Int32))))) <<< (Int32.toInt64 (32 : Int32) &&& 63)) ||| ((Int32.toInt64 (hAI h 1000101 (Int32.toNatClampNeg (nI (7 * j) + (6 : Int32))))) &&& (4294967295 : Int64)))] y) := st_feed (d := d + 20) I _ _ _
    obtain ⟨r, g1, g2, c, m, ⟨w1, w2, w3⟩, K2, nx, I2⟩ := S
    have c : am_C PG (d + 40) 125 [.ref 0, .long (((Int32.toInt64 (hAI h 1000101 (Int32.toNatClampNeg (nI (7 * j) + (1 : Int32))))) <<< (Int32.toInt64 (32 : Int32) &&& 63)) ||| ((Int32.toInt64 (hAI h 1000101 (Int32.toNatClampNeg (nI (7 * j) + (2 : Int32))))) &&& (4294967295 : Int64))), .long (((Int32.toInt64 (hAI h 1000101 (Int32.toNatClampNeg (nI (7 * j) + (3 : Int32))))) <<< (Int32.toInt64 (32 : Int32) &&& 63)) ||| ((Int32.toInt64 (hAI h 1000101 (Int32.toNatClampNeg (nI (7 * j) + (4 : Int32))))) &&& (4294967295 : Int64))), .long (((Int32.toInt64 (hAI h 1000101 (Int32.toNatClampNeg (nI (7 * j) + (5 : Int32))))) <<< (Int32.toInt64 (32 : Int32) &&& 63)) ||| ((Int32.toInt64 (hAI h 1000101 (Int32.toNatClampNeg (nI (7 * j) + (6 : Int32))))) &&& (4294967295 : Int64)))] h = some (some (.int r), g1) := c
    have m : am_C PG (d + 40) 164 [.ref 348, .long (((Int32.toInt64 (hAI h 1000101 (Int32.toNatClampNeg (nI (7 * j) + (1 : Int32))))) <<< (Int32.toInt64 (32 : Int32) &&& 63)) ||| ((Int32.toInt64 (hAI h 1000101 (Int32.toNatClampNeg (nI (7 * j) + (2 : Int32))))) &&& (4294967295 : Int64))), .long (((Int32.toInt64 (hAI h 1000101 (Int32.toNatClampNeg (nI (7 * j) + (3 : Int32))))) <<< (Int32.toInt64 (32 : Int32) &&& 63)) ||| ((Int32.toInt64 (hAI h 1000101 (Int32.toNatClampNeg (nI (7 * j) + (4 : Int32))))) &&& (4294967295 : Int64))), .long (((Int32.toInt64 (hAI h 1000101 (Int32.toNatClampNeg (nI (7 * j) + (5 : Int32))))) <<< (Int32.toInt64 (32 : Int32) &&& 63)) ||| ((Int32.toInt64 (hAI h 1000101 (Int32.toNatClampNeg (nI (7 * j) + (6 : Int32))))) &&& (4294967295 : Int64)))] g1 = some (some (.int r), g2) := m
    have kS1 : hK g1 1000101 = 57 := by rw [w1]; exact kS
    have lS1 : hLN g1 1000101 = L := by rw [w2]; exact lS
    have m1 : hK g1 348 = 13 := by rw [w1]; exact m0
    refine ⟨g2, ?_, I2, by omega⟩
    rw [am_kd_t kS, in1, am_kd_t kS, in2, am_kd_t kS, in3, am_kd_t kS, in4, am_kd_t kS, in5, am_kd_t kS, in6, am_kd_t k0, c, bI_s, am_kd_t kS1, lS1, in1, am_kd_t kS1, in2, am_kd_t kS1, in3, am_kd_t kS1, in4, am_kd_t kS1, in5, am_kd_t kS1, in6, w3, am_kd_t m1, m, bI_s, if_pos rfl, eNx]
  rw [if_neg e0]
  by_cases e1 : Int32.toInt kk = (1 : Int)
  · rw [if_pos e1]
    have S : Stq B L xs h (fun y => am_C PG (d + 40) 127 [.ref 0] y) (fun y => am_C PG (d + 40) 207 [.ref 348] y) := st_post (d := d + 3) (d2 := d + 32) I
    obtain ⟨r, g1, g2, c, m, ⟨w1, w2, w3⟩, K2, nx, I2⟩ := S
    have c : am_C PG (d + 40) 127 [.ref 0] h = some (some (.int r), g1) := c
    have m : am_C PG (d + 40) 207 [.ref 348] g1 = some (some (.int r), g2) := m
    have m1 : hK g1 348 = 13 := by rw [w1]; exact m0
    refine ⟨g2, ?_, I2, by omega⟩
    rw [am_kd_t k0, c, bI_s, am_kd_t m1, m, bI_s, if_pos rfl, eNx]
  rw [if_neg e1]
  by_cases e2 : Int32.toInt kk = (2 : Int)
  · rw [if_pos e2]
    have S : Stq B L xs h (fun y => am_C PG (d + 40) 129 [.ref 0] y) (fun y => am_C PG (d + 40) 208 [.ref 348] y) := st_days (d := d + 32) (d2 := d + 34) I
    obtain ⟨r, g1, g2, c, m, ⟨w1, w2, w3⟩, K2, nx, I2⟩ := S
    have c : am_C PG (d + 40) 129 [.ref 0] h = some (some (.int r), g1) := c
    have m : am_C PG (d + 40) 208 [.ref 348] g1 = some (some (.int r), g2) := m
    have m1 : hK g1 348 = 13 := by rw [w1]; exact m0
    refine ⟨g2, ?_, I2, by omega⟩
    rw [am_kd_t k0, c, bI_s, am_kd_t m1, m, bI_s, if_pos rfl, eNx]
  rw [if_neg e2]
  by_cases e3 : Int32.toInt kk = (3 : Int)
  · rw [if_pos e3]
    have S : Stq B L xs h (fun y => am_C PG (d + 40) 130 [.ref 0, .int (hAI h 1000101 (Int32.toNatClampNeg (nI (7 * j) + (1 : Int32)))), .int (hAI h 1000101 (Int32.toNatClampNeg (nI (7 * j) + (2 : Int32))))] y) (fun y => am_C PG (d + 40) 216 [.ref 348, .int (hAI h 1000101 (Int32.toNatClampNeg (nI (7 * j) + (1 : Int32)))), .int (hAI h 1000101 (Int32.toNatClampNeg (nI (7 * j) + (2 : Int32))))] y) := (st_timer (d := d + 20) I hB0 _ _).stp I
    obtain ⟨r, g1, g2, c, m, ⟨w1, w2, w3⟩, K2, nx, I2⟩ := S
    have c : am_C PG (d + 40) 130 [.ref 0, .int (hAI h 1000101 (Int32.toNatClampNeg (nI (7 * j) + (1 : Int32)))), .int (hAI h 1000101 (Int32.toNatClampNeg (nI (7 * j) + (2 : Int32))))] h = some (some (.int r), g1) := c
    have m : am_C PG (d + 40) 216 [.ref 348, .int (hAI h 1000101 (Int32.toNatClampNeg (nI (7 * j) + (1 : Int32)))), .int (hAI h 1000101 (Int32.toNatClampNeg (nI (7 * j) + (2 : Int32))))] g1 = some (some (.int r), g2) := m
    have kS1 : hK g1 1000101 = 57 := by rw [w1]; exact kS
    have lS1 : hLN g1 1000101 = L := by rw [w2]; exact lS
    have m1 : hK g1 348 = 13 := by rw [w1]; exact m0
    refine ⟨g2, ?_, I2, by omega⟩
    rw [am_kd_t kS, in1, am_kd_t kS, in2, am_kd_t k0, c, bI_s, am_kd_t kS1, lS1, in1, am_kd_t kS1, in2, w3, am_kd_t m1, m, bI_s, if_pos rfl, eNx]
  rw [if_neg e3]
  by_cases e4 : Int32.toInt kk = (4 : Int)
  · rw [if_pos e4]
    have S : Stq B L xs h (fun y => am_C PG (d + 40) 131 [.ref 0, .int (hAI h 1000101 (Int32.toNatClampNeg (nI (7 * j) + (1 : Int32)))), .int (hAI h 1000101 (Int32.toNatClampNeg (nI (7 * j) + (2 : Int32))))] y) (fun y => am_C PG (d + 40) 217 [.ref 348, .int (hAI h 1000101 (Int32.toNatClampNeg (nI (7 * j) + (1 : Int32)))), .int (hAI h 1000101 (Int32.toNatClampNeg (nI (7 * j) + (2 : Int32))))] y) := (st_person (d := d + 20) I _ _).stp I
    obtain ⟨r, g1, g2, c, m, ⟨w1, w2, w3⟩, K2, nx, I2⟩ := S
    have c : am_C PG (d + 40) 131 [.ref 0, .int (hAI h 1000101 (Int32.toNatClampNeg (nI (7 * j) + (1 : Int32)))), .int (hAI h 1000101 (Int32.toNatClampNeg (nI (7 * j) + (2 : Int32))))] h = some (some (.int r), g1) := c
    have m : am_C PG (d + 40) 217 [.ref 348, .int (hAI h 1000101 (Int32.toNatClampNeg (nI (7 * j) + (1 : Int32)))), .int (hAI h 1000101 (Int32.toNatClampNeg (nI (7 * j) + (2 : Int32))))] g1 = some (some (.int r), g2) := m
    have kS1 : hK g1 1000101 = 57 := by rw [w1]; exact kS
    have lS1 : hLN g1 1000101 = L := by rw [w2]; exact lS
    have m1 : hK g1 348 = 13 := by rw [w1]; exact m0
    refine ⟨g2, ?_, I2, by omega⟩
    rw [am_kd_t kS, in1, am_kd_t kS, in2, am_kd_t k0, c, bI_s, am_kd_t kS1, lS1, in1, am_kd_t kS1, in2, w3, am_kd_t m1, m, bI_s, if_pos rfl, eNx]
  rw [if_neg e4]
  by_cases e5 : Int32.toInt kk = (5 : Int)
  · rw [if_pos e5]
    have S : Stq B L xs h (fun y => am_C PG (d + 40) 132 [.ref 0, .int (hAI h 1000101 (Int32.toNatClampNeg (nI (7 * j) + (1 : Int32)))), .int (hAI h 1000101 (Int32.toNatClampNeg (nI (7 * j) + (2 : Int32))))] y) (fun y => am_C PG (d + 40) 218 [.ref 348, .int (hAI h 1000101 (Int32.toNatClampNeg (nI (7 * j) + (1 : Int32)))), .int (hAI h 1000101 (Int32.toNatClampNeg (nI (7 * j) + (2 : Int32))))] y) := (st_work (d := d + 20) I _ _).stp I
    obtain ⟨r, g1, g2, c, m, ⟨w1, w2, w3⟩, K2, nx, I2⟩ := S
    have c : am_C PG (d + 40) 132 [.ref 0, .int (hAI h 1000101 (Int32.toNatClampNeg (nI (7 * j) + (1 : Int32)))), .int (hAI h 1000101 (Int32.toNatClampNeg (nI (7 * j) + (2 : Int32))))] h = some (some (.int r), g1) := c
    have m : am_C PG (d + 40) 218 [.ref 348, .int (hAI h 1000101 (Int32.toNatClampNeg (nI (7 * j) + (1 : Int32)))), .int (hAI h 1000101 (Int32.toNatClampNeg (nI (7 * j) + (2 : Int32))))] g1 = some (some (.int r), g2) := m
    have kS1 : hK g1 1000101 = 57 := by rw [w1]; exact kS
    have lS1 : hLN g1 1000101 = L := by rw [w2]; exact lS
    have m1 : hK g1 348 = 13 := by rw [w1]; exact m0
    refine ⟨g2, ?_, I2, by omega⟩
    rw [am_kd_t kS, in1, am_kd_t kS, in2, am_kd_t k0, c, bI_s, am_kd_t kS1, lS1, in1, am_kd_t kS1, in2, w3, am_kd_t m1, m, bI_s, if_pos rfl, eNx]
  rw [if_neg e5]
  by_cases e6 : Int32.toInt kk = (6 : Int)
  · rw [if_pos e6]
    have S : Stq B L xs h (fun y => am_C PG (d + 40) 133 [.ref 0, .int (hAI h 1000101 (Int32.toNatClampNeg (nI (7 * j) + (1 : Int32))))] y) (fun y => am_C PG (d + 40) 219 [.ref 348, .int (hAI h 1000101 (Int32.toNatClampNeg (nI (7 * j) + (1 : Int32))))] y) := (st_well (d := d + 20) I _).stp I
    obtain ⟨r, g1, g2, c, m, ⟨w1, w2, w3⟩, K2, nx, I2⟩ := S
    have c : am_C PG (d + 40) 133 [.ref 0, .int (hAI h 1000101 (Int32.toNatClampNeg (nI (7 * j) + (1 : Int32))))] h = some (some (.int r), g1) := c
    have m : am_C PG (d + 40) 219 [.ref 348, .int (hAI h 1000101 (Int32.toNatClampNeg (nI (7 * j) + (1 : Int32))))] g1 = some (some (.int r), g2) := m
    have kS1 : hK g1 1000101 = 57 := by rw [w1]; exact kS
    have lS1 : hLN g1 1000101 = L := by rw [w2]; exact lS
    have m1 : hK g1 348 = 13 := by rw [w1]; exact m0
    refine ⟨g2, ?_, I2, by omega⟩
    rw [am_kd_t kS, in1, am_kd_t k0, c, bI_s, am_kd_t kS1, lS1, in1, w3, am_kd_t m1, m, bI_s, if_pos rfl, eNx]
  rw [if_neg e6]
  by_cases e7 : Int32.toInt kk = (7 : Int)
  · rw [if_pos e7]
    have S : Stq B L xs h (fun y => am_C PG (d + 40) 134 [.ref 0, .int (hAI h 1000101 (Int32.toNatClampNeg (nI (7 * j) + (1 : Int32)))), .int (hAI h 1000101 (Int32.toNatClampNeg (nI (7 * j) + (2 : Int32))))] y) (fun y => am_C PG (d + 40) 220 [.ref 348, .int (hAI h 1000101 (Int32.toNatClampNeg (nI (7 * j) + (1 : Int32)))), .int (hAI h 1000101 (Int32.toNatClampNeg (nI (7 * j) + (2 : Int32))))] y) := (st_way (d := d + 20) I _ _).stp I
    obtain ⟨r, g1, g2, c, m, ⟨w1, w2, w3⟩, K2, nx, I2⟩ := S
    have c : am_C PG (d + 40) 134 [.ref 0, .int (hAI h 1000101 (Int32.toNatClampNeg (nI (7 * j) + (1 : Int32)))), .int (hAI h 1000101 (Int32.toNatClampNeg (nI (7 * j) + (2 : Int32))))] h = some (some (.int r), g1) := c
    have m : am_C PG (d + 40) 220 [.ref 348, .int (hAI h 1000101 (Int32.toNatClampNeg (nI (7 * j) + (1 : Int32)))), .int (hAI h 1000101 (Int32.toNatClampNeg (nI (7 * j) + (2 : Int32))))] g1 = some (some (.int r), g2) := m
    have kS1 : hK g1 1000101 = 57 := by rw [w1]; exact kS
    have lS1 : hLN g1 1000101 = L := by rw [w2]; exact lS
    have m1 : hK g1 348 = 13 := by rw [w1]; exact m0
    refine ⟨g2, ?_, I2, by omega⟩
    rw [am_kd_t kS, in1, am_kd_t kS, in2, am_kd_t k0, c, bI_s, am_kd_t kS1, lS1, in1, am_kd_t kS1, in2, w3, am_kd_t m1, m, bI_s, if_pos rfl, eNx]
  rw [if_neg e7]
  by_cases e8 : Int32.toInt kk = (8 : Int)
  · rw [if_pos e8]
    have S : Stq B L xs h (fun y => am_C PG (d + 40) 135 [.ref 0, .int (hAI h 1000101 (Int32.toNatClampNeg (nI (7 * j) + (1 : Int32))))] y) (fun y => am_C PG (d + 40) 223 [.ref 348, .int (hAI h 1000101 (Int32.toNatClampNeg (nI (7 * j) + (1 : Int32))))] y) := st_hours (d := d + 20) I hB0 _
    obtain ⟨r, g1, g2, c, m, ⟨w1, w2, w3⟩, K2, nx, I2⟩ := S
    have c : am_C PG (d + 40) 135 [.ref 0, .int (hAI h 1000101 (Int32.toNatClampNeg (nI (7 * j) + (1 : Int32))))] h = some (some (.int r), g1) := c
    have m : am_C PG (d + 40) 223 [.ref 348, .int (hAI h 1000101 (Int32.toNatClampNeg (nI (7 * j) + (1 : Int32))))] g1 = some (some (.int r), g2) := m
    have kS1 : hK g1 1000101 = 57 := by rw [w1]; exact kS
    have lS1 : hLN g1 1000101 = L := by rw [w2]; exact lS
    have m1 : hK g1 348 = 13 := by rw [w1]; exact m0
    refine ⟨g2, ?_, I2, by omega⟩
    rw [am_kd_t kS, in1, am_kd_t k0, c, bI_s, am_kd_t kS1, lS1, in1, w3, am_kd_t m1, m, bI_s, if_pos rfl, eNx]
  rw [if_neg e8]
  by_cases e9 : Int32.toInt kk = (9 : Int)
  · rw [if_pos e9]
    have S : Stq B L xs h (fun y => am_C PG (d + 40) 136 [.ref 0, .int (hAI h 1000101 (Int32.toNatClampNeg (nI (7 * j) + (1 : Int32)))), .int (hAI h 1000101 (Int32.toNatClampNeg (nI (7 * j) + (2 : Int32))))] y) (fun y => am_C PG (d + 40) 226 [.ref 348, .int (hAI h 1000101 (Int32.toNatClampNeg (nI (7 * j) + (1 : Int32)))), .int (hAI h 1000101 (Int32.toNatClampNeg (nI (7 * j) + (2 : Int32))))] y) := st_draw (d := d + 20) I _ _
    obtain ⟨r, g1, g2, c, m, ⟨w1, w2, w3⟩, K2, nx, I2⟩ := S
    have c : am_C PG (d + 40) 136 [.ref 0, .int (hAI h 1000101 (Int32.toNatClampNeg (nI (7 * j) + (1 : Int32)))), .int (hAI h 1000101 (Int32.toNatClampNeg (nI (7 * j) + (2 : Int32))))] h = some (some (.int r), g1) := c
    have m : am_C PG (d + 40) 226 [.ref 348, .int (hAI h 1000101 (Int32.toNatClampNeg (nI (7 * j) + (1 : Int32)))), .int (hAI h 1000101 (Int32.toNatClampNeg (nI (7 * j) + (2 : Int32))))] g1 = some (some (.int r), g2) := m
    have kS1 : hK g1 1000101 = 57 := by rw [w1]; exact kS
    have lS1 : hLN g1 1000101 = L := by rw [w2]; exact lS
    have m1 : hK g1 348 = 13 := by rw [w1]; exact m0
    refine ⟨g2, ?_, I2, by omega⟩
    rw [am_kd_t kS, in1, am_kd_t kS, in2, am_kd_t k0, c, bI_s, am_kd_t kS1, lS1, in1, am_kd_t kS1, in2, w3, am_kd_t m1, m, bI_s, if_pos rfl, eNx]
  rw [if_neg e9]
  by_cases e10 : Int32.toInt kk = (10 : Int)
  · rw [if_pos e10]
    have S : Stq B L xs h (fun y => am_C PG (d + 40) 137 [.ref 0, .int (hAI h 1000101 (Int32.toNatClampNeg (nI (7 * j) + (1 : Int32)))), .int (hAI h 1000101 (Int32.toNatClampNeg (nI (7 * j) + (2 : Int32)))), .int (hAI h 1000101 (Int32.toNatClampNeg (nI (7 * j) + (3 : Int32))))] y) (fun y => am_C PG (d + 40) 229 [.ref 348, .int (hAI h 1000101 (Int32.toNatClampNeg (nI (7 * j) + (1 : Int32)))), .int (hAI h 1000101 (Int32.toNatClampNeg (nI (7 * j) + (2 : Int32)))), .int (hAI h 1000101 (Int32.toNatClampNeg (nI (7 * j) + (3 : Int32))))] y) := st_pour (d := d + 20) I _ _ _
    obtain ⟨r, g1, g2, c, m, ⟨w1, w2, w3⟩, K2, nx, I2⟩ := S
    have c : am_C PG (d + 40) 137 [.ref 0, .int (hAI h 1000101 (Int32.toNatClampNeg (nI (7 * j) + (1 : Int32)))), .int (hAI h 1000101 (Int32.toNatClampNeg (nI (7 * j) + (2 : Int32)))), .int (hAI h 1000101 (Int32.toNatClampNeg (nI (7 * j) + (3 : Int32))))] h = some (some (.int r), g1) := c
    have m : am_C PG (d + 40) 229 [.ref 348, .int (hAI h 1000101 (Int32.toNatClampNeg (nI (7 * j) + (1 : Int32)))), .int (hAI h 1000101 (Int32.toNatClampNeg (nI (7 * j) + (2 : Int32)))), .int (hAI h 1000101 (Int32.toNatClampNeg (nI (7 * j) + (3 : Int32))))] g1 = some (some (.int r), g2) := m
    have kS1 : hK g1 1000101 = 57 := by rw [w1]; exact kS
    have lS1 : hLN g1 1000101 = L := by rw [w2]; exact lS
    have m1 : hK g1 348 = 13 := by rw [w1]; exact m0
    refine ⟨g2, ?_, I2, by omega⟩
    rw [am_kd_t kS, in1, am_kd_t kS, in2, am_kd_t kS, in3, am_kd_t k0, c, bI_s, am_kd_t kS1, lS1, in1, am_kd_t kS1, in2, am_kd_t kS1, in3, w3, am_kd_t m1, m, bI_s, if_pos rfl, eNx]
  rw [if_neg e10]
  by_cases e11 : Int32.toInt kk = (11 : Int)
  · rw [if_pos e11]
    have S : Stq B L xs h (fun y => am_C PG (d + 40) 138 [.ref 0, .int (hAI h 1000101 (Int32.toNatClampNeg (nI (7 * j) + (1 : Int32)))), .int (hAI h 1000101 (Int32.toNatClampNeg (nI (7 * j) + (2 : Int32))))] y) (fun y => am_C PG (d + 40) 232 [.ref 348, .int (hAI h 1000101 (Int32.toNatClampNeg (nI (7 * j) + (1 : Int32)))), .int (hAI h 1000101 (Int32.toNatClampNeg (nI (7 * j) + (2 : Int32))))] y) := st_go (d := d + 20) I hB0 _ _
    obtain ⟨r, g1, g2, c, m, ⟨w1, w2, w3⟩, K2, nx, I2⟩ := S
    have c : am_C PG (d + 40) 138 [.ref 0, .int (hAI h 1000101 (Int32.toNatClampNeg (nI (7 * j) + (1 : Int32)))), .int (hAI h 1000101 (Int32.toNatClampNeg (nI (7 * j) + (2 : Int32))))] h = some (some (.int r), g1) := c
    have m : am_C PG (d + 40) 232 [.ref 348, .int (hAI h 1000101 (Int32.toNatClampNeg (nI (7 * j) + (1 : Int32)))), .int (hAI h 1000101 (Int32.toNatClampNeg (nI (7 * j) + (2 : Int32))))] g1 = some (some (.int r), g2) := m
    have kS1 : hK g1 1000101 = 57 := by rw [w1]; exact kS
    have lS1 : hLN g1 1000101 = L := by rw [w2]; exact lS
    have m1 : hK g1 348 = 13 := by rw [w1]; exact m0
    refine ⟨g2, ?_, I2, by omega⟩
    rw [am_kd_t kS, in1, am_kd_t kS, in2, am_kd_t k0, c, bI_s, am_kd_t kS1, lS1, in1, am_kd_t kS1, in2, w3, am_kd_t m1, m, bI_s, if_pos rfl, eNx]
  rw [if_neg e11]
  by_cases e12 : Int32.toInt kk = (12 : Int)
  · rw [if_pos e12]
    have S : Stq B L xs h (fun y => am_C PG (d + 40) 139 [.ref 0, .int (hAI h 1000101 (Int32.toNatClampNeg (nI (7 * j) + (1 : Int32)))), .int (hAI h 1000101 (Int32.toNatClampNeg (nI (7 * j) + (2 : Int32))))] y) (fun y => am_C PG (d + 40) 233 [.ref 348, .int (hAI h 1000101 (Int32.toNatClampNeg (nI (7 * j) + (1 : Int32)))), .int (hAI h 1000101 (Int32.toNatClampNeg (nI (7 * j) + (2 : Int32))))] y) := st_steal (d := d + 20) I _ _
    obtain ⟨r, g1, g2, c, m, ⟨w1, w2, w3⟩, K2, nx, I2⟩ := S
    have c : am_C PG (d + 40) 139 [.ref 0, .int (hAI h 1000101 (Int32.toNatClampNeg (nI (7 * j) + (1 : Int32)))), .int (hAI h 1000101 (Int32.toNatClampNeg (nI (7 * j) + (2 : Int32))))] h = some (some (.int r), g1) := c
    have m : am_C PG (d + 40) 233 [.ref 348, .int (hAI h 1000101 (Int32.toNatClampNeg (nI (7 * j) + (1 : Int32)))), .int (hAI h 1000101 (Int32.toNatClampNeg (nI (7 * j) + (2 : Int32))))] g1 = some (some (.int r), g2) := m
    have kS1 : hK g1 1000101 = 57 := by rw [w1]; exact kS
    have lS1 : hLN g1 1000101 = L := by rw [w2]; exact lS
    have m1 : hK g1 348 = 13 := by rw [w1]; exact m0
    refine ⟨g2, ?_, I2, by omega⟩
    rw [am_kd_t kS, in1, am_kd_t kS, in2, am_kd_t k0, c, bI_s, am_kd_t kS1, lS1, in1, am_kd_t kS1, in2, w3, am_kd_t m1, m, bI_s, if_pos rfl, eNx]
  rw [if_neg e12]
  by_cases e13 : Int32.toInt kk = (13 : Int)
  · rw [if_pos e13]
    have S : Stq B L xs h (fun y => am_C PG (d + 40) 141 [.ref 0] y) (fun y => am_C PG (d + 40) 234 [.ref 348] y) := st_undo (d := d + 20) I
    obtain ⟨r, g1, g2, c, m, ⟨w1, w2, w3⟩, K2, nx, I2⟩ := S
    have c : am_C PG (d + 40) 141 [.ref 0] h = some (some (.int r), g1) := c
    have m : am_C PG (d + 40) 234 [.ref 348] g1 = some (some (.int r), g2) := m
    have m1 : hK g1 348 = 13 := by rw [w1]; exact m0
    refine ⟨g2, ?_, I2, by omega⟩
    rw [am_kd_t k0, c, bI_s, am_kd_t m1, m, bI_s, if_pos rfl, eNx]
  rw [if_neg e13]
  by_cases e14 : Int32.toInt kk = (14 : Int)
  · rw [if_pos e14]
    have S : Stq B L xs h (fun y => am_C PG (d + 40) 142 [.ref 0, .int (hAI h 1000101 (Int32.toNatClampNeg (nI (7 * j) + (1 : Int32))))] y) (fun y => am_C PG (d + 40) 237 [.ref 348, .int (hAI h 1000101 (Int32.toNatClampNeg (nI (7 * j) + (1 : Int32))))] y) := (st_judged (d := d + 20) I _).stp I
    obtain ⟨r, g1, g2, c, m, ⟨w1, w2, w3⟩, K2, nx, I2⟩ := S
    have c : am_C PG (d + 40) 142 [.ref 0, .int (hAI h 1000101 (Int32.toNatClampNeg (nI (7 * j) + (1 : Int32))))] h = some (some (.int r), g1) := c
    have m : am_C PG (d + 40) 237 [.ref 348, .int (hAI h 1000101 (Int32.toNatClampNeg (nI (7 * j) + (1 : Int32))))] g1 = some (some (.int r), g2) := m
    have kS1 : hK g1 1000101 = 57 := by rw [w1]; exact kS
    have lS1 : hLN g1 1000101 = L := by rw [w2]; exact lS
    have m1 : hK g1 348 = 13 := by rw [w1]; exact m0
    refine ⟨g2, ?_, I2, by omega⟩
    rw [am_kd_t kS, in1, am_kd_t k0, c, bI_s, am_kd_t kS1, lS1, in1, w3, am_kd_t m1, m, bI_s, if_pos rfl, eNx]
  rw [if_neg e14]
  by_cases e15 : Int32.toInt kk = (15 : Int)
  · rw [if_pos e15]
    have S : Stq B L xs h (fun y => am_C PG (d + 40) 143 [.ref 0, .int (hAI h 1000101 (Int32.toNatClampNeg (nI (7 * j) + (1 : Int32)))), .int (hAI h 1000101 (Int32.toNatClampNeg (nI (7 * j) + (2 : Int32))))] y) (fun y => am_C PG (d + 40) 238 [.ref 348, .int (hAI h 1000101 (Int32.toNatClampNeg (nI (7 * j) + (1 : Int32)))), .int (hAI h 1000101 (Int32.toNatClampNeg (nI (7 * j) + (2 : Int32))))] y) := (st_shows (d := d + 20) I hB0 _ _).stp I
    obtain ⟨r, g1, g2, c, m, ⟨w1, w2, w3⟩, K2, nx, I2⟩ := S
    have c : am_C PG (d + 40) 143 [.ref 0, .int (hAI h 1000101 (Int32.toNatClampNeg (nI (7 * j) + (1 : Int32)))), .int (hAI h 1000101 (Int32.toNatClampNeg (nI (7 * j) + (2 : Int32))))] h = some (some (.int r), g1) := c
    have m : am_C PG (d + 40) 238 [.ref 348, .int (hAI h 1000101 (Int32.toNatClampNeg (nI (7 * j) + (1 : Int32)))), .int (hAI h 1000101 (Int32.toNatClampNeg (nI (7 * j) + (2 : Int32))))] g1 = some (some (.int r), g2) := m
    have kS1 : hK g1 1000101 = 57 := by rw [w1]; exact kS
    have lS1 : hLN g1 1000101 = L := by rw [w2]; exact lS
    have m1 : hK g1 348 = 13 := by rw [w1]; exact m0
    refine ⟨g2, ?_, I2, by omega⟩
    rw [am_kd_t kS, in1, am_kd_t kS, in2, am_kd_t k0, c, bI_s, am_kd_t kS1, lS1, in1, am_kd_t kS1, in2, w3, am_kd_t m1, m, bI_s, if_pos rfl, eNx]
  rw [if_neg e15]
  by_cases e16 : Int32.toInt kk = (16 : Int)
  · rw [if_pos e16]
    have S : Stq B L xs h (fun y => am_C PG (d + 40) 144 [.ref 0, .int (hAI h 1000101 (Int32.toNatClampNeg (nI (7 * j) + (1 : Int32))))] y) (fun y => am_C PG (d + 40) 240 [.ref 348, .int (hAI h 1000101 (Int32.toNatClampNeg (nI (7 * j) + (1 : Int32))))] y) := (st_stops (d := d + 20) I hB0 _).stp I
    obtain ⟨r, g1, g2, c, m, ⟨w1, w2, w3⟩, K2, nx, I2⟩ := S
    have c : am_C PG (d + 40) 144 [.ref 0, .int (hAI h 1000101 (Int32.toNatClampNeg (nI (7 * j) + (1 : Int32))))] h = some (some (.int r), g1) := c
    have m : am_C PG (d + 40) 240 [.ref 348, .int (hAI h 1000101 (Int32.toNatClampNeg (nI (7 * j) + (1 : Int32))))] g1 = some (some (.int r), g2) := m
    have kS1 : hK g1 1000101 = 57 := by rw [w1]; exact kS
    have lS1 : hLN g1 1000101 = L := by rw [w2]; exact lS
    have m1 : hK g1 348 = 13 := by rw [w1]; exact m0
    refine ⟨g2, ?_, I2, by omega⟩
    rw [am_kd_t kS, in1, am_kd_t k0, c, bI_s, am_kd_t kS1, lS1, in1, w3, am_kd_t m1, m, bI_s, if_pos rfl, eNx]
  rw [if_neg e16]
  by_cases e17 : Int32.toInt kk = (17 : Int)
  · rw [if_pos e17]
    have S : Stq B L xs h (fun y => am_C PG (d + 40) 145 [.ref 0, .int (hAI h 1000101 (Int32.toNatClampNeg (nI (7 * j) + (1 : Int32)))), .int (hAI h 1000101 (Int32.toNatClampNeg (nI (7 * j) + (2 : Int32))))] y) (fun y => am_C PG (d + 40) 241 [.ref 348, .int (hAI h 1000101 (Int32.toNatClampNeg (nI (7 * j) + (1 : Int32)))), .int (hAI h 1000101 (Int32.toNatClampNeg (nI (7 * j) + (2 : Int32))))] y) := (st_late (d := d + 20) I hB0 _ _).stp I
    obtain ⟨r, g1, g2, c, m, ⟨w1, w2, w3⟩, K2, nx, I2⟩ := S
    have c : am_C PG (d + 40) 145 [.ref 0, .int (hAI h 1000101 (Int32.toNatClampNeg (nI (7 * j) + (1 : Int32)))), .int (hAI h 1000101 (Int32.toNatClampNeg (nI (7 * j) + (2 : Int32))))] h = some (some (.int r), g1) := c
    have m : am_C PG (d + 40) 241 [.ref 348, .int (hAI h 1000101 (Int32.toNatClampNeg (nI (7 * j) + (1 : Int32)))), .int (hAI h 1000101 (Int32.toNatClampNeg (nI (7 * j) + (2 : Int32))))] g1 = some (some (.int r), g2) := m
    have kS1 : hK g1 1000101 = 57 := by rw [w1]; exact kS
    have lS1 : hLN g1 1000101 = L := by rw [w2]; exact lS
    have m1 : hK g1 348 = 13 := by rw [w1]; exact m0
    refine ⟨g2, ?_, I2, by omega⟩
    rw [am_kd_t kS, in1, am_kd_t kS, in2, am_kd_t k0, c, bI_s, am_kd_t kS1, lS1, in1, am_kd_t kS1, in2, w3, am_kd_t m1, m, bI_s, if_pos rfl, eNx]
  rw [if_neg e17]
  by_cases e18 : Int32.toInt kk = (18 : Int)
  · rw [if_pos e18]
    have S : Stq B L xs h (fun y => am_C PG (d + 40) 146 [.ref 0, .int (hAI h 1000101 (Int32.toNatClampNeg (nI (7 * j) + (1 : Int32)))), .int (hAI h 1000101 (Int32.toNatClampNeg (nI (7 * j) + (2 : Int32))))] y) (fun y => am_C PG (d + 40) 245 [.ref 348, .int (hAI h 1000101 (Int32.toNatClampNeg (nI (7 * j) + (1 : Int32)))), .int (hAI h 1000101 (Int32.toNatClampNeg (nI (7 * j) + (2 : Int32))))] y) := (st_siege (d := d + 20) I _ _).stp I
    obtain ⟨r, g1, g2, c, m, ⟨w1, w2, w3⟩, K2, nx, I2⟩ := S
    have c : am_C PG (d + 40) 146 [.ref 0, .int (hAI h 1000101 (Int32.toNatClampNeg (nI (7 * j) + (1 : Int32)))), .int (hAI h 1000101 (Int32.toNatClampNeg (nI (7 * j) + (2 : Int32))))] h = some (some (.int r), g1) := c
    have m : am_C PG (d + 40) 245 [.ref 348, .int (hAI h 1000101 (Int32.toNatClampNeg (nI (7 * j) + (1 : Int32)))), .int (hAI h 1000101 (Int32.toNatClampNeg (nI (7 * j) + (2 : Int32))))] g1 = some (some (.int r), g2) := m
    have kS1 : hK g1 1000101 = 57 := by rw [w1]; exact kS
    have lS1 : hLN g1 1000101 = L := by rw [w2]; exact lS
    have m1 : hK g1 348 = 13 := by rw [w1]; exact m0
    refine ⟨g2, ?_, I2, by omega⟩
    rw [am_kd_t kS, in1, am_kd_t kS, in2, am_kd_t k0, c, bI_s, am_kd_t kS1, lS1, in1, am_kd_t kS1, in2, w3, am_kd_t m1, m, bI_s, if_pos rfl, eNx]
  rw [if_neg e18]
  by_cases e19 : Int32.toInt kk = (19 : Int)
  · rw [if_pos e19]
    have S : Stq B L xs h (fun y => am_C PG (d + 40) 147 [.ref 0, .int (hAI h 1000101 (Int32.toNatClampNeg (nI (7 * j) + (1 : Int32)))), .int (hAI h 1000101 (Int32.toNatClampNeg (nI (7 * j) + (2 : Int32)))), .int (hAI h 1000101 (Int32.toNatClampNeg (nI (7 * j) + (3 : Int32))))] y) (fun y => am_C PG (d + 40) 246 [.ref 348, .int (hAI h 1000101 (Int32.toNatClampNeg (nI (7 * j) + (1 : Int32)))), .int (hAI h 1000101 (Int32.toNatClampNeg (nI (7 * j) + (2 : Int32)))), .int (hAI h 1000101 (Int32.toNatClampNeg (nI (7 * j) + (3 : Int32))))] y) := st_say (d := d + 20) I _ _ _
    obtain ⟨r, g1, g2, c, m, ⟨w1, w2, w3⟩, K2, nx, I2⟩ := S
    have c : am_C PG (d + 40) 147 [.ref 0, .int (hAI h 1000101 (Int32.toNatClampNeg (nI (7 * j) + (1 : Int32)))), .int (hAI h 1000101 (Int32.toNatClampNeg (nI (7 * j) + (2 : Int32)))), .int (hAI h 1000101 (Int32.toNatClampNeg (nI (7 * j) + (3 : Int32))))] h = some (some (.int r), g1) := c
    have m : am_C PG (d + 40) 246 [.ref 348, .int (hAI h 1000101 (Int32.toNatClampNeg (nI (7 * j) + (1 : Int32)))), .int (hAI h 1000101 (Int32.toNatClampNeg (nI (7 * j) + (2 : Int32)))), .int (hAI h 1000101 (Int32.toNatClampNeg (nI (7 * j) + (3 : Int32))))] g1 = some (some (.int r), g2) := m
    have kS1 : hK g1 1000101 = 57 := by rw [w1]; exact kS
    have lS1 : hLN g1 1000101 = L := by rw [w2]; exact lS
    have m1 : hK g1 348 = 13 := by rw [w1]; exact m0
    refine ⟨g2, ?_, I2, by omega⟩
    rw [am_kd_t kS, in1, am_kd_t kS, in2, am_kd_t kS, in3, am_kd_t k0, c, bI_s, am_kd_t kS1, lS1, in1, am_kd_t kS1, in2, am_kd_t kS1, in3, w3, am_kd_t m1, m, bI_s, if_pos rfl, eNx]
  rw [if_neg e19]
  by_cases e20 : Int32.toInt kk = (20 : Int)
  · rw [if_pos e20]
    have S : Stq B L xs h (fun y => am_C PG (d + 40) 148 [.ref 0, .int (hAI h 1000101 (Int32.toNatClampNeg (nI (7 * j) + (1 : Int32))))] y) (fun y => am_C PG (d + 40) 248 [.ref 348, .int (hAI h 1000101 (Int32.toNatClampNeg (nI (7 * j) + (1 : Int32))))] y) := (st_truth (d := d + 20) I _).stp I
    obtain ⟨r, g1, g2, c, m, ⟨w1, w2, w3⟩, K2, nx, I2⟩ := S
    have c : am_C PG (d + 40) 148 [.ref 0, .int (hAI h 1000101 (Int32.toNatClampNeg (nI (7 * j) + (1 : Int32))))] h = some (some (.int r), g1) := c
    have m : am_C PG (d + 40) 248 [.ref 348, .int (hAI h 1000101 (Int32.toNatClampNeg (nI (7 * j) + (1 : Int32))))] g1 = some (some (.int r), g2) := m
    have kS1 : hK g1 1000101 = 57 := by rw [w1]; exact kS
    have lS1 : hLN g1 1000101 = L := by rw [w2]; exact lS
    have m1 : hK g1 348 = 13 := by rw [w1]; exact m0
    refine ⟨g2, ?_, I2, by omega⟩
    rw [am_kd_t kS, in1, am_kd_t k0, c, bI_s, am_kd_t kS1, lS1, in1, w3, am_kd_t m1, m, bI_s, if_pos rfl, eNx]
  rw [if_neg e20]
  by_cases e21 : Int32.toInt kk = (21 : Int)
  · rw [if_pos e21]
    have S : Stq B L xs h (fun y => am_C PG (d + 40) 149 [.ref 0, .int (hAI h 1000101 (Int32.toNatClampNeg (nI (7 * j) + (1 : Int32)))), .int (hAI h 1000101 (Int32.toNatClampNeg (nI (7 * j) + (2 : Int32))))] y) (fun y => am_C PG (d + 40) 250 [.ref 348, .int (hAI h 1000101 (Int32.toNatClampNeg (nI (7 * j) + (1 : Int32)))), .int (hAI h 1000101 (Int32.toNatClampNeg (nI (7 * j) + (2 : Int32))))] y) := (st_round (d := d + 20) I hB0 _ _).stp I
    obtain ⟨r, g1, g2, c, m, ⟨w1, w2, w3⟩, K2, nx, I2⟩ := S
    have c : am_C PG (d + 40) 149 [.ref 0, .int (hAI h 1000101 (Int32.toNatClampNeg (nI (7 * j) + (1 : Int32)))), .int (hAI h 1000101 (Int32.toNatClampNeg (nI (7 * j) + (2 : Int32))))] h = some (some (.int r), g1) := c
    have m : am_C PG (d + 40) 250 [.ref 348, .int (hAI h 1000101 (Int32.toNatClampNeg (nI (7 * j) + (1 : Int32)))), .int (hAI h 1000101 (Int32.toNatClampNeg (nI (7 * j) + (2 : Int32))))] g1 = some (some (.int r), g2) := m
    have kS1 : hK g1 1000101 = 57 := by rw [w1]; exact kS
    have lS1 : hLN g1 1000101 = L := by rw [w2]; exact lS
    have m1 : hK g1 348 = 13 := by rw [w1]; exact m0
    refine ⟨g2, ?_, I2, by omega⟩
    rw [am_kd_t kS, in1, am_kd_t kS, in2, am_kd_t k0, c, bI_s, am_kd_t kS1, lS1, in1, am_kd_t kS1, in2, w3, am_kd_t m1, m, bI_s, if_pos rfl, eNx]
  rw [if_neg e21]
  by_cases e22 : Int32.toInt kk = (22 : Int)
  · rw [if_pos e22]
    have S : Stq B L xs h (fun y => am_C PG (d + 40) 150 [.ref 0, .int (hAI h 1000101 (Int32.toNatClampNeg (nI (7 * j) + (1 : Int32)))), .int (hAI h 1000101 (Int32.toNatClampNeg (nI (7 * j) + (2 : Int32)))), .int (hAI h 1000101 (Int32.toNatClampNeg (nI (7 * j) + (3 : Int32)))), .int (hAI h 1000101 (Int32.toNatClampNeg (nI (7 * j) + (4 : Int32))))] y) (fun y => am_C PG (d + 40) 251 [.ref 348, .int (hAI h 1000101 (Int32.toNatClampNeg (nI (7 * j) + (1 : Int32)))), .int (hAI h 1000101 (Int32.toNatClampNeg (nI (7 * j) + (2 : Int32)))), .int (hAI h 1000101 (Int32.toNatClampNeg (nI (7 * j) + (3 : Int32)))), .int (hAI h 1000101 (Int32.toNatClampNeg (nI (7 * j) + (4 : Int32))))] y) := (st_caravan (d := d + 20) I _ _ _ _).stp I
    obtain ⟨r, g1, g2, c, m, ⟨w1, w2, w3⟩, K2, nx, I2⟩ := S
    have c : am_C PG (d + 40) 150 [.ref 0, .int (hAI h 1000101 (Int32.toNatClampNeg (nI (7 * j) + (1 : Int32)))), .int (hAI h 1000101 (Int32.toNatClampNeg (nI (7 * j) + (2 : Int32)))), .int (hAI h 1000101 (Int32.toNatClampNeg (nI (7 * j) + (3 : Int32)))), .int (hAI h 1000101 (Int32.toNatClampNeg (nI (7 * j) + (4 : Int32))))] h = some (some (.int r), g1) := c
    have m : am_C PG (d + 40) 251 [.ref 348, .int (hAI h 1000101 (Int32.toNatClampNeg (nI (7 * j) + (1 : Int32)))), .int (hAI h 1000101 (Int32.toNatClampNeg (nI (7 * j) + (2 : Int32)))), .int (hAI h 1000101 (Int32.toNatClampNeg (nI (7 * j) + (3 : Int32)))), .int (hAI h 1000101 (Int32.toNatClampNeg (nI (7 * j) + (4 : Int32))))] g1 = some (some (.int r), g2) := m
    have kS1 : hK g1 1000101 = 57 := by rw [w1]; exact kS
    have lS1 : hLN g1 1000101 = L := by rw [w2]; exact lS
    have m1 : hK g1 348 = 13 := by rw [w1]; exact m0
    refine ⟨g2, ?_, I2, by omega⟩
    rw [am_kd_t kS, in1, am_kd_t kS, in2, am_kd_t kS, in3, am_kd_t kS, in4, am_kd_t k0, c, bI_s, am_kd_t kS1, lS1, in1, am_kd_t kS1, in2, am_kd_t kS1, in3, am_kd_t kS1, in4, w3, am_kd_t m1, m, bI_s, if_pos rfl, eNx]
  rw [if_neg e22]
  by_cases e23 : Int32.toInt kk = (23 : Int)
  · rw [if_pos e23]
    have S : Stq B L xs h (fun y => am_C PG (d + 40) 151 [.ref 0, .int (hAI h 1000101 (Int32.toNatClampNeg (nI (7 * j) + (1 : Int32)))), .int (hAI h 1000101 (Int32.toNatClampNeg (nI (7 * j) + (2 : Int32))))] y) (fun y => am_C PG (d + 40) 252 [.ref 348, .int (hAI h 1000101 (Int32.toNatClampNeg (nI (7 * j) + (1 : Int32)))), .int (hAI h 1000101 (Int32.toNatClampNeg (nI (7 * j) + (2 : Int32))))] y) := st_tell (d := d + 20) I _ _
    obtain ⟨r, g1, g2, c, m, ⟨w1, w2, w3⟩, K2, nx, I2⟩ := S
    have c : am_C PG (d + 40) 151 [.ref 0, .int (hAI h 1000101 (Int32.toNatClampNeg (nI (7 * j) + (1 : Int32)))), .int (hAI h 1000101 (Int32.toNatClampNeg (nI (7 * j) + (2 : Int32))))] h = some (some (.int r), g1) := c
    have m : am_C PG (d + 40) 252 [.ref 348, .int (hAI h 1000101 (Int32.toNatClampNeg (nI (7 * j) + (1 : Int32)))), .int (hAI h 1000101 (Int32.toNatClampNeg (nI (7 * j) + (2 : Int32))))] g1 = some (some (.int r), g2) := m
    have kS1 : hK g1 1000101 = 57 := by rw [w1]; exact kS
    have lS1 : hLN g1 1000101 = L := by rw [w2]; exact lS
    have m1 : hK g1 348 = 13 := by rw [w1]; exact m0
    refine ⟨g2, ?_, I2, by omega⟩
    rw [am_kd_t kS, in1, am_kd_t kS, in2, am_kd_t k0, c, bI_s, am_kd_t kS1, lS1, in1, am_kd_t kS1, in2, w3, am_kd_t m1, m, bI_s, if_pos rfl, eNx]
  rw [if_neg e23]
  by_cases e24 : Int32.toInt kk = (24 : Int)
  · rw [if_pos e24]
    have S : Stq B L xs h (fun y => am_C PG (d + 40) 152 [.ref 0, .int (hAI h 1000101 (Int32.toNatClampNeg (nI (7 * j) + (1 : Int32))))] y) (fun y => am_C PG (d + 40) 255 [.ref 348, .int (hAI h 1000101 (Int32.toNatClampNeg (nI (7 * j) + (1 : Int32))))] y) := (st_laws (d := d + 20) I _).stp I
    obtain ⟨r, g1, g2, c, m, ⟨w1, w2, w3⟩, K2, nx, I2⟩ := S
    have c : am_C PG (d + 40) 152 [.ref 0, .int (hAI h 1000101 (Int32.toNatClampNeg (nI (7 * j) + (1 : Int32))))] h = some (some (.int r), g1) := c
    have m : am_C PG (d + 40) 255 [.ref 348, .int (hAI h 1000101 (Int32.toNatClampNeg (nI (7 * j) + (1 : Int32))))] g1 = some (some (.int r), g2) := m
    have kS1 : hK g1 1000101 = 57 := by rw [w1]; exact kS
    have lS1 : hLN g1 1000101 = L := by rw [w2]; exact lS
    have m1 : hK g1 348 = 13 := by rw [w1]; exact m0
    refine ⟨g2, ?_, I2, by omega⟩
    rw [am_kd_t kS, in1, am_kd_t k0, c, bI_s, am_kd_t kS1, lS1, in1, w3, am_kd_t m1, m, bI_s, if_pos rfl, eNx]
  rw [if_neg e24]
  by_cases e25 : Int32.toInt kk = (25 : Int)
  · rw [if_pos e25]
    have S : Stq B L xs h (fun y => am_C PG (d + 40) 153 [.ref 0, .int (hAI h 1000101 (Int32.toNatClampNeg (nI (7 * j) + (1 : Int32)))), .int (hAI h 1000101 (Int32.toNatClampNeg (nI (7 * j) + (2 : Int32)))), .int (hAI h 1000101 (Int32.toNatClampNeg (nI (7 * j) + (3 : Int32)))), .int (hAI h 1000101 (Int32.toNatClampNeg (nI (7 * j) + (4 : Int32))))] y) (fun y => am_C PG (d + 40) 257 [.ref 348, .int (hAI h 1000101 (Int32.toNatClampNeg (nI (7 * j) + (1 : Int32)))), .int (hAI h 1000101 (Int32.toNatClampNeg (nI (7 * j) + (2 : Int32)))), .int (hAI h 1000101 (Int32.toNatClampNeg (nI (7 * j) + (3 : Int32)))), .int (hAI h 1000101 (Int32.toNatClampNeg (nI (7 * j) + (4 : Int32))))] y) := (st_theft (d := d + 20) I _ _ _ _).stp I
    obtain ⟨r, g1, g2, c, m, ⟨w1, w2, w3⟩, K2, nx, I2⟩ := S
    have c : am_C PG (d + 40) 153 [.ref 0, .int (hAI h 1000101 (Int32.toNatClampNeg (nI (7 * j) + (1 : Int32)))), .int (hAI h 1000101 (Int32.toNatClampNeg (nI (7 * j) + (2 : Int32)))), .int (hAI h 1000101 (Int32.toNatClampNeg (nI (7 * j) + (3 : Int32)))), .int (hAI h 1000101 (Int32.toNatClampNeg (nI (7 * j) + (4 : Int32))))] h = some (some (.int r), g1) := c
    have m : am_C PG (d + 40) 257 [.ref 348, .int (hAI h 1000101 (Int32.toNatClampNeg (nI (7 * j) + (1 : Int32)))), .int (hAI h 1000101 (Int32.toNatClampNeg (nI (7 * j) + (2 : Int32)))), .int (hAI h 1000101 (Int32.toNatClampNeg (nI (7 * j) + (3 : Int32)))), .int (hAI h 1000101 (Int32.toNatClampNeg (nI (7 * j) + (4 : Int32))))] g1 = some (some (.int r), g2) := m
    have kS1 : hK g1 1000101 = 57 := by rw [w1]; exact kS
    have lS1 : hLN g1 1000101 = L := by rw [w2]; exact lS
    have m1 : hK g1 348 = 13 := by rw [w1]; exact m0
    refine ⟨g2, ?_, I2, by omega⟩
    rw [am_kd_t kS, in1, am_kd_t kS, in2, am_kd_t kS, in3, am_kd_t kS, in4, am_kd_t k0, c, bI_s, am_kd_t kS1, lS1, in1, am_kd_t kS1, in2, am_kd_t kS1, in3, am_kd_t kS1, in4, w3, am_kd_t m1, m, bI_s, if_pos rfl, eNx]
  rw [if_neg e25]
  by_cases e26 : Int32.toInt kk = (26 : Int)
  · rw [if_pos e26]
    have S : Stq B L xs h (fun y => am_C PG (d + 40) 154 [.ref 0, .int (hAI h 1000101 (Int32.toNatClampNeg (nI (7 * j) + (1 : Int32)))), .int (hAI h 1000101 (Int32.toNatClampNeg (nI (7 * j) + (2 : Int32)))), .int (hAI h 1000101 (Int32.toNatClampNeg (nI (7 * j) + (3 : Int32))))] y) (fun y => am_C PG (d + 40) 259 [.ref 348, .int (hAI h 1000101 (Int32.toNatClampNeg (nI (7 * j) + (1 : Int32)))), .int (hAI h 1000101 (Int32.toNatClampNeg (nI (7 * j) + (2 : Int32)))), .int (hAI h 1000101 (Int32.toNatClampNeg (nI (7 * j) + (3 : Int32))))] y) := (st_cups (d := d + 20) I hB0 _ _ _).stp I
    obtain ⟨r, g1, g2, c, m, ⟨w1, w2, w3⟩, K2, nx, I2⟩ := S
    have c : am_C PG (d + 40) 154 [.ref 0, .int (hAI h 1000101 (Int32.toNatClampNeg (nI (7 * j) + (1 : Int32)))), .int (hAI h 1000101 (Int32.toNatClampNeg (nI (7 * j) + (2 : Int32)))), .int (hAI h 1000101 (Int32.toNatClampNeg (nI (7 * j) + (3 : Int32))))] h = some (some (.int r), g1) := c
    have m : am_C PG (d + 40) 259 [.ref 348, .int (hAI h 1000101 (Int32.toNatClampNeg (nI (7 * j) + (1 : Int32)))), .int (hAI h 1000101 (Int32.toNatClampNeg (nI (7 * j) + (2 : Int32)))), .int (hAI h 1000101 (Int32.toNatClampNeg (nI (7 * j) + (3 : Int32))))] g1 = some (some (.int r), g2) := m
    have kS1 : hK g1 1000101 = 57 := by rw [w1]; exact kS
    have lS1 : hLN g1 1000101 = L := by rw [w2]; exact lS
    have m1 : hK g1 348 = 13 := by rw [w1]; exact m0
    refine ⟨g2, ?_, I2, by omega⟩
    rw [am_kd_t kS, in1, am_kd_t kS, in2, am_kd_t kS, in3, am_kd_t k0, c, bI_s, am_kd_t kS1, lS1, in1, am_kd_t kS1, in2, am_kd_t kS1, in3, w3, am_kd_t m1, m, bI_s, if_pos rfl, eNx]
  rw [if_neg e26]
  by_cases e27 : Int32.toInt kk = (27 : Int)
  · rw [if_pos e27]
    obtain ⟨r, s, g1, g2, c, m, t, t0, ⟨w1, w2, w3⟩, ⟨v1, v2, v3⟩, nx, I2⟩ := st_rests (d := d) I (hAI h 1000101 (Int32.toNatClampNeg (nI (7 * j) + (1 : Int32)))) (hAI h 1000101 (Int32.toNatClampNeg (nI (7 * j) + (2 : Int32)))) (hAI h 1000101 (Int32.toNatClampNeg (nI (7 * j) + (3 : Int32))))
    have kS1 : hK g1 1000101 = 57 := by rw [w1]; exact kS
    have lS1 : hLN g1 1000101 = L := by rw [w2]; exact lS
    have m1 : hK g1 348 = 13 := by rw [w1]; exact m0
    have m2 : hK g2 348 = 13 := by rw [v1]; exact m1
    have th : am_C PG (d + 40) 160 [.ref 348] g2 = some (some (.int r), g2) := by rw [q_X12_thrown, am_kd_t m2, t]
    have k2 : hK g2 410 = 53 := by rw [v1, w1]; exact k410.1
    have l2 : hLN g2 410 = 1 := by rw [v2, w2]; exact k410.2
    have i0 : ∀ x, am_in (0 : Int32) 1 x = x := am_inN (i := 0) (by decide) (by decide)
    refine ⟨g2, ?_, I2.mono (by omega), nx⟩
    rw [am_kd_t kS, in1, am_kd_t kS, in2, am_kd_t kS, in3, c, bI_s, am_kd_t kS1, lS1, in1, am_kd_t kS1, in2, am_kd_t kS1, in3, w3, am_kd_t m1, m, bI_s, am_kd_t m2, th, bI_s, if_pos rfl]
    by_cases z : r = 0
    · rw [if_pos z, am_kd_t k2, l2, i0, nI_cl0, t0 z, lg_cmp_self, if_pos rfl, eNx]
    · rw [if_neg z, eNx]
  rw [if_neg e27]
  by_cases e28 : Int32.toInt kk = (28 : Int)
  · rw [if_pos e28]
    have S : Stq B L xs h (fun y => am_C PG (d + 40) 156 [.ref 0, .int (hAI h 1000101 (Int32.toNatClampNeg (nI (7 * j) + (1 : Int32)))), .int (hAI h 1000101 (Int32.toNatClampNeg (nI (7 * j) + (2 : Int32)))), .int (hAI h 1000101 (Int32.toNatClampNeg (nI (7 * j) + (3 : Int32))))] y) (fun y => am_C PG (d + 40) 266 [.ref 348, .int (hAI h 1000101 (Int32.toNatClampNeg (nI (7 * j) + (1 : Int32)))), .int (hAI h 1000101 (Int32.toNatClampNeg (nI (7 * j) + (2 : Int32)))), .int (hAI h 1000101 (Int32.toNatClampNeg (nI (7 * j) + (3 : Int32))))] y) := (st_years (d := d + 20) I hB0 _ _ _).stp I
    obtain ⟨r, g1, g2, c, m, ⟨w1, w2, w3⟩, K2, nx, I2⟩ := S
    have c : am_C PG (d + 40) 156 [.ref 0, .int (hAI h 1000101 (Int32.toNatClampNeg (nI (7 * j) + (1 : Int32)))), .int (hAI h 1000101 (Int32.toNatClampNeg (nI (7 * j) + (2 : Int32)))), .int (hAI h 1000101 (Int32.toNatClampNeg (nI (7 * j) + (3 : Int32))))] h = some (some (.int r), g1) := c
    have m : am_C PG (d + 40) 266 [.ref 348, .int (hAI h 1000101 (Int32.toNatClampNeg (nI (7 * j) + (1 : Int32)))), .int (hAI h 1000101 (Int32.toNatClampNeg (nI (7 * j) + (2 : Int32)))), .int (hAI h 1000101 (Int32.toNatClampNeg (nI (7 * j) + (3 : Int32))))] g1 = some (some (.int r), g2) := m
    have kS1 : hK g1 1000101 = 57 := by rw [w1]; exact kS
    have lS1 : hLN g1 1000101 = L := by rw [w2]; exact lS
    have m1 : hK g1 348 = 13 := by rw [w1]; exact m0
    refine ⟨g2, ?_, I2, by omega⟩
    rw [am_kd_t kS, in1, am_kd_t kS, in2, am_kd_t kS, in3, am_kd_t k0, c, bI_s, am_kd_t kS1, lS1, in1, am_kd_t kS1, in2, am_kd_t kS1, in3, w3, am_kd_t m1, m, bI_s, if_pos rfl, eNx]
  rw [if_neg e28]
  by_cases e29 : Int32.toInt kk = (29 : Int)
  · rw [if_pos e29]
    by_cases z : hAI h 1000101 (Int32.toNatClampNeg (nI (7 * j) + (2 : Int32))) = 0
    · have st := st_mark (d := d + 20) I (hAI h 1000101 (Int32.toNatClampNeg (nI (7 * j) + (1 : Int32)))) 0
      have S : Stq B L xs h (fun y => am_C PG (d + 40) 157 [.ref 0, .int (hAI h 1000101 (Int32.toNatClampNeg (nI (7 * j) + (1 : Int32)))), .int (0 : Int32)] y) (fun y => am_C PG (d + 40) 267 [.ref 348, .int (hAI h 1000101 (Int32.toNatClampNeg (nI (7 * j) + (1 : Int32)))), .int (0 : Int32)] y) := st
      obtain ⟨r, g1, g2, c, m, ⟨w1, w2, w3⟩, K2, nx, I2⟩ := S
      have c : am_C PG (d + 40) 157 [.ref 0, .int (hAI h 1000101 (Int32.toNatClampNeg (nI (7 * j) + (1 : Int32)))), .int (0 : Int32)] h = some (some (.int r), g1) := c
      have m : am_C PG (d + 40) 267 [.ref 348, .int (hAI h 1000101 (Int32.toNatClampNeg (nI (7 * j) + (1 : Int32)))), .int (0 : Int32)] g1 = some (some (.int r), g2) := m
      have kS1 : hK g1 1000101 = 57 := by rw [w1]; exact kS
      have lS1 : hLN g1 1000101 = L := by rw [w2]; exact lS
      have m1 : hK g1 348 = 13 := by rw [w1]; exact m0
      refine ⟨g2, ?_, I2, by omega⟩
      rw [am_kd_t kS, in1, am_kd_t kS, in2, if_pos z, am_kd_t k0, c, bI_s, am_kd_t kS1, lS1, in1, am_kd_t kS1, in2, w3, if_pos z, am_kd_t m1, m, bI_s, if_pos rfl, eNx]
    · have st := st_mark (d := d + 20) I (hAI h 1000101 (Int32.toNatClampNeg (nI (7 * j) + (1 : Int32)))) 1
      have S : Stq B L xs h (fun y => am_C PG (d + 40) 157 [.ref 0, .int (hAI h 1000101 (Int32.toNatClampNeg (nI (7 * j) + (1 : Int32)))), .int (1 : Int32)] y) (fun y => am_C PG (d + 40) 267 [.ref 348, .int (hAI h 1000101 (Int32.toNatClampNeg (nI (7 * j) + (1 : Int32)))), .int (1 : Int32)] y) := st
      obtain ⟨r, g1, g2, c, m, ⟨w1, w2, w3⟩, K2, nx, I2⟩ := S
      have c : am_C PG (d + 40) 157 [.ref 0, .int (hAI h 1000101 (Int32.toNatClampNeg (nI (7 * j) + (1 : Int32)))), .int (1 : Int32)] h = some (some (.int r), g1) := c
      have m : am_C PG (d + 40) 267 [.ref 348, .int (hAI h 1000101 (Int32.toNatClampNeg (nI (7 * j) + (1 : Int32)))), .int (1 : Int32)] g1 = some (some (.int r), g2) := m
      have kS1 : hK g1 1000101 = 57 := by rw [w1]; exact kS
      have lS1 : hLN g1 1000101 = L := by rw [w2]; exact lS
      have m1 : hK g1 348 = 13 := by rw [w1]; exact m0
      refine ⟨g2, ?_, I2, by omega⟩
      rw [am_kd_t kS, in1, am_kd_t kS, in2, if_neg z, am_kd_t k0, c, bI_s, am_kd_t kS1, lS1, in1, am_kd_t kS1, in2, w3, if_neg z, am_kd_t m1, m, bI_s, if_pos rfl, eNx]
  rw [if_neg e29]
  by_cases e30 : Int32.toInt kk = (30 : Int)
  · rw [if_pos e30]
    have S : Stq B L xs h (fun y => am_C PG (d + 40) 158 [.ref 0, .int (hAI h 1000101 (Int32.toNatClampNeg (nI (7 * j) + (1 : Int32))))] y) (fun y => am_C PG (d + 40) 268 [.ref 348, .int (hAI h 1000101 (Int32.toNatClampNeg (nI (7 * j) + (1 : Int32))))] y) := (st_count (d := d + 20) I _).stp I
    obtain ⟨r, g1, g2, c, m, ⟨w1, w2, w3⟩, K2, nx, I2⟩ := S
    have c : am_C PG (d + 40) 158 [.ref 0, .int (hAI h 1000101 (Int32.toNatClampNeg (nI (7 * j) + (1 : Int32))))] h = some (some (.int r), g1) := c
    have m : am_C PG (d + 40) 268 [.ref 348, .int (hAI h 1000101 (Int32.toNatClampNeg (nI (7 * j) + (1 : Int32))))] g1 = some (some (.int r), g2) := m
    have kS1 : hK g1 1000101 = 57 := by rw [w1]; exact kS
    have lS1 : hLN g1 1000101 = L := by rw [w2]; exact lS
    have m1 : hK g1 348 = 13 := by rw [w1]; exact m0
    refine ⟨g2, ?_, I2, by omega⟩
    rw [am_kd_t kS, in1, am_kd_t k0, c, bI_s, am_kd_t kS1, lS1, in1, w3, am_kd_t m1, m, bI_s, if_pos rfl, eNx]
  rw [if_neg e30]
  refine ⟨h, ?_, I.mono (by omega), by omega⟩
  rw [eNx]
/-- the law's end -/
theorem lw_fin {d B L j : Nat} {xs : Nat → Int32} {h : AH} (I : Inv B L xs h) (hL : L ≤ 3584) (hj : L < 7 * j + 7) (hj2 : 7 * j < 2 ^ 31) : am_R PG (d + 41) 274 23 [some (.ref 1000101), some (.ref 0), some (.ref 348), some (.ref 410), some (.int (nI (7 * j))), none, none] [] h = some (some (.int 1), h) := by
  obtain ⟨k0, -, -, -, -, -, -, -, -, -, -, -, -, -, -, -, -, -, -, -, -, -, ms, k410, kS, lS⟩ := id I.1
  have lt : Int32.ofNat L - (7 : Int32) < nI (7 * j) := by
    by_cases c : 7 ≤ L
    · have e : Int32.ofNat L - (7 : Int32) = nI (L - 7) := nI_subN (a := L) (b := 7) c
      rw [e]
      exact nI_lt (by omega) hj2
    · have n : ∀ L, L < 7 → Int32.ofNat L - (7 : Int32) < 0 := by decide
      exact Int32.lt_of_lt_of_le (n L (by omega)) (nI_pos' hj2)
  rw [q_L_law_23, am_kd_t kS, lS, if_pos lt, am_nar4_1]
theorem lw_loop {d L : Nat} {xs : Nat → Int32} (hL : L ≤ 3584) : ∀ (c j B : Nat) (h : AH), Inv B L xs h → L < 7 * (j + c) + 7 → j + c ≤ 1000 → B + 24 * c < 2 ^ 30 → ∃ h1, am_R PG (d + 41) 274 23 [some (.ref 1000101), some (.ref 0), some (.ref 348), some (.ref 410), some (.int (nI (7 * j))), none, none] [] h = some (some (.int 1), h1) ∧ hNX h1 ≤ hNX h + c
  | 0, j, B, h, I, h1, h2, h3 => ⟨h, lw_fin I hL h1 (by omega), Nat.le_refl _⟩
  | c + 1, j, B, h, I, h1, h2, h3 => by
    by_cases e : L < 7 * j + 7
    · exact ⟨h, lw_fin I hL e (by omega), by omega⟩
    · obtain ⟨g, r, I2, nx⟩ := lw_step (d := d) (j := j) I (by omega) hL (by omega)
      obtain ⟨h', q1, q2⟩ := lw_loop (d := d) hL c (j + 1) (B + 24) g I2 (by omega) (by omega) (by omega)
      exact ⟨h', by rw [r]; exact q1, by omega⟩
theorem hmain (L : Nat) (xs : Nat → Int32) (hL : L ≤ 3584) : ∃ h1 : AH, am_C PG 1300 274 [.ref 1000101] (h_ini L xs) = some (some (.int 1), h1) ∧ hNX h1 ≤ 3500 := by
  obtain ⟨F, s1, s2, s3⟩ := start_inv 1295 L xs
  obtain ⟨h1, q1, q2⟩ := lw_loop (d := 1259) hL 512 0 0 F s3 (by omega) (by omega) (by omega)
  exact ⟨h1, s1.trans q1, by omega⟩
