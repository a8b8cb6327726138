/-! post, both sides whole. -/
theorem c_post0 {d dp : Nat} {h h1 : AH} {f : Int32} (k0 : hK h 0 = 12) (f1 : hFR h 1101 0 = some 3) (f3 : hFR h 1103 0 = some dp) (k3 : hK h 3 = 7) (kr : am_C PG (d + 36) 76 [.ref 3, .ref dp] h = some (some (.int f), h1)) (q0 : hK h1 0 = 12) (q1 : hFR h1 1100 0 = some 1) (q2 : hK h1 1 = 10) (hf0 : f ≠ 0) : am_C PG (d + 37) 127 [.ref 0] h = some (some (.int f), sFI h1 901 1 0) := by
  rw [q_X11_post, am_kd_t k0, f1, bR_s, am_kd_t k0, f3, bR_s, am_kd_t k3, kr, bI_s, am_kd_t q0, q1, bR_s, am_kd_t q2, am_let_e, if_neg hf0]
theorem c_post1 {d p dp : Nat} {h h1 y z k : AH} (k0 : hK h 0 = 12) (f1 : hFR h 1101 0 = some 3) (f3 : hFR h 1103 0 = some dp) (k3 : hK h 3 = 7) (kr : am_C PG (d + 36) 76 [.ref 3, .ref dp] h = some (some (.int 0), h1)) (q0 : hK h1 0 = 12) (q1 : hFR h1 1100 0 = some 1) (q2 : hK h1 1 = 10) (q3 : hFR h1 1103 0 = some dp) (q4 : hFR h1 1102 0 = some p) (ey : sFI h1 901 1 0 = y) (ez : sFR (sFR y 1103 0 (some p)) 1102 0 (some dp) = z) (kn : am_C PG (d + 36) 128 [.ref 0] z = some (none, k)) : am_C PG (d + 37) 127 [.ref 0] h = some (some (.int 0), k) := by
  have y0 : hK y 0 = 12 := by rw [← ey, rd_hK_sFI]; exact q0
  have y1 : hFR y 1103 0 = some dp := by rw [← ey, rd_hFR_sFI]; exact q3
  have y2 : hFR y 1102 0 = some p := by rw [← ey, rd_hFR_sFI]; exact q4
  have y3 : hK (sFR y 1103 0 (some p)) 0 = 12 := by rw [rd_hK_sFR]; exact y0
  have z0 : hK z 0 = 12 := by rw [← ez, rd_hK_sFR]; exact y3
  rw [q_X11_post, am_kd_t k0, f1, bR_s, am_kd_t k0, f3, bR_s, am_kd_t k3, kr, bI_s, am_kd_t q0, q1, bR_s, am_kd_t q2, am_let_e, ey, if_pos rfl, am_kd_t y0, y1, bR_s, am_kd_t y0, y2, bR_s, am_kd_t y0, am_let_e, am_kd_t y3, am_let_e, ez, am_kd_t z0, kn, bV_s]
/-- a post refused leaves Inv -/
theorem Rd.post {dp : Nat} {h h1 g : AH} (hd : dp = 4 ∨ dp = 30) (c : CQ dp (sFR h 601 3 (some dp)) h1) (m : MZ (sFI (sFI (sFI h1 901 1 0) 1200 348 0) 1201 348 0) g) : Rd dp h g ∧ hFI g 901 1 = 0 ∧ hFI g 1201 348 = 0 ∧ (∀ x, (x < dp + 2 ∨ dp + 24 < x) → (x < 350 ∨ 374 < x) → hAI g x = hAI h x) ∧ hFI g 200 71 = hFI h 200 71 ∧ (hK g = hK h1 ∧ hFR g = hFR h1) := by
  obtain ⟨c1, c2, c3, c4, c5, c6, c7, c8, c9⟩ := c
  obtain ⟨m1, m2, m3, m4, m5, m6, m7, m8, m9⟩ := m
  have e1 : hK g = hK h1 := by rw [m1, rd_hK_sFI, rd_hK_sFI, rd_hK_sFI]
  have e2 : hFR g = hFR h1 := by rw [m2, rd_hFR_sFI, rd_hFR_sFI, rd_hFR_sFI]
  have e3 : hLN g = hLN h := by rw [m3, rd_hLN_sFI, rd_hLN_sFI, rd_hLN_sFI, c2, rd_hLN_sFR]
  have e4 : hAR g = hAR h := by rw [m4, rd_hAR_sFI, rd_hAR_sFI, rd_hAR_sFI, c3, rd_hAR_sFR]
  have f1 : ∀ k x, x ≠ 348 → (x ≠ 1 ∨ k ≠ 901) → hFI g k x = hFI h1 k x := fun k x h1 h2 => by
    rw [m7 k x (Or.inl h1), sFI_o _ _ (by omega), sFI_o _ _ (by omega), sFI_o _ _ (by omega)]
  have a1 : ∀ x, (x < 350 ∨ 374 < x) → hAI g x = hAI h1 x := fun x h1 => by
    funext i
    rw [m8 x i (by omega), rd_hAI_sFI, rd_hAI_sFI, rd_hAI_sFI]
  have a2 : ∀ x, (x < dp + 2 ∨ x = dp + 14 ∨ x = dp + 16 ∨ x = dp + 17 ∨ x = dp + 19 ∨ x = dp + 20 ∨ x = dp + 23 ∨ dp + 24 < x) → hAI h1 x = hAI h x := fun x e => by rw [c8 x e, rd_hAI_sFR]
  have f2 : ∀ k x, (x ≠ 1 ∨ k < 902 ∨ 908 < k) → (x ≠ 3 ∨ k < 603 ∨ 605 < k) → (x ≠ dp ∨ k < 501 ∨ 505 < k) → (x ≠ dp + 14 ∨ k ≠ 401) → hFI h1 k x = hFI h k x := fun k x q1 q2 q3 q4 => by rw [c7 k x q1 q2 q3 q4, rd_hFI_sFR]
  refine ⟨⟨by rw [e1, c1, rd_hK_sFR], e3, e4, fun k x q1 q2 => ?_, fun k x q1 => ?_, fun x q1 q2 q3 q4 q5 q6 => ?_, fun r i q1 q2 q3 => ?_, fun i q1 q2 => ?_, fun r i q1 q2 q3 q4 => ?_, fun x q1 q2 => ?_, fun r i q1 q2 q3 => ?_, fun k x q1 q2 q3 q4 q5 q6 q7 => ?_⟩, ?_, ?_, fun x q1 q2 => ?_, ?_, e1, e2⟩
  · rw [e2, c5 k x (by omega), sFR_o _ _ (by omega)]
  · rw [m6 k x (by omega), rd_hFJ_sFI, rd_hFJ_sFI, rd_hFJ_sFI, c6 k x (by omega), rd_hFJ_sFR]
  · rw [a1 x (by omega), a2 x (by omega)]
  · rw [m8 r i (by omega), rd_hAI_sFI, rd_hAI_sFI, rd_hAI_sFI, a2 r (by omega)]
  · rw [a1 386 (by decide), a2 386 (by omega)]
  · rw [a1 r (by omega), a2 r (by omega)]
  · funext i
    rw [m9 x i (by omega), rd_hAJ_sFI, rd_hAJ_sFI, rd_hAJ_sFI, c9 x q1, rd_hAJ_sFR]
  · rw [m9 r i (by omega), rd_hAJ_sFI, rd_hAJ_sFI, rd_hAJ_sFI, c9 r (by omega), rd_hAJ_sFR]
  · by_cases c : x = 348
    · subst c
      rw [m7 k 348 (by omega), sFI_o _ _ (by omega), sFI_o _ _ (by omega), sFI_o _ _ (by omega)]
      exact f2 k 348 (by omega) (by omega) (by omega) (by omega)
    · rw [f1 k x c (by omega)]
      exact f2 k x (by omega) (by omega) q3 q4
  · rw [m7 901 1 (by omega), sFI_o _ _ (by decide), sFI_o _ _ (by decide), sFI_at]
  · rw [m7 1201 348 (by omega), sFI_at]
  · rw [a1 x q2, a2 x (by omega)]
  · rw [f1 200 71 (by decide) (by decide)]
    exact f2 200 71 (by omega) (by omega) (by omega) (by omega)
