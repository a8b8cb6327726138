/-! The deeds: undo. -/
theorem Qk.u397 (h : AH) (f : Nat → Int32) : Qk h (sAI h 397 f) := ⟨rfl, rfl, rfl, rfl, rfl, fun _ _ _ => rfl, fun b hb _ _ _ => sAI_ne _ _ (by unfold cRow at hb; omega), fun _ _ _ _ _ _ => rfl⟩
theorem st_undo {B L d : Nat} {xs : Nat → Int32} {h : AH} (I : Inv B L xs h) : Stq B L xs h (fun h => am_C PG (d + 20) 141 [.ref 0] h) (fun h => am_C PG (d + 20) 234 [.ref 348] h) := by
  obtain ⟨k0, f61, f84, k61, f62, S62, S84, hm, p, dp, np, nc, ne, nw, len, n, W, hp4, f1102, IQ, NW, U⟩ := I.dd
  have m0 := hm.1
  have hn : np ≤ 5 ∧ nc ≤ 6 ∧ ne ≤ 4 ∧ nw ≤ 6 := ⟨IQ.2.2.2.2.2.2.2.2.2.1.1.1.2.2.2.2.2.1, IQ.2.2.2.2.2.2.2.2.2.1.1.1.2.2.2.2.2.2⟩
  have hx : XUn h := IQ.1.2.2.2.2.2.2.2.2.2.2.2.2.2.2.2.2.2.1
  have U0 := U
  obtain ⟨fr, mn, h1, h2, h3, h4, h5, h6⟩ := U
  match mn, h2, h4, h5, h6 with
  | 0, h2, h4, h5, h6 =>
    have kc := c_undo_no (d := d + 19) k0 (h4.trans (show nI 0 = 0 from rfl))
    have e : (hFI (sFI h 1200 348 0) 1264 348 = 0) = True := eq_true (by rw [sFI_o _ _ (Or.inl (by decide)), h5]; rfl)
    refine Ans.stp I (Ans.no (r := 0) kc ?_)
    rw [q_X12_undo]
    simp only [am_kd, m0, if_true, am_let_e, rd_hK_sFI, e, am_nar4_0]
  | mn + 1, h2, h4, h5, h6 =>
    have kc := c_undo (d := d + 18) hx f61 k61 f62 S62 h3 h4 h1 (by omega)
    have hj : (fr + mn) % 16 < 16 := Nat.mod_lt _ (by decide)
    obtain ⟨hr, hrB, S⟩ := h6 mn (by omega)
    generalize hY : getS h (204 + 9 * ((fr + mn) % 16)) = Y at kc S
    generalize hg : putS (sFI h 1110 0 (nI mn)) 62 (cpS Y (getS h 62)) = g1 at kc
    have q1 : Qk h g1 := by
      rw [← hg]
      exact (Qk.fi h 1110 0 _ (by omega)).tr (Qk.st _ 62 _ (Or.inl rfl))
    have a1 : ∀ a, 70 < a → hAI g1 a = hAI h a := fun a ha => by
      rw [← hg, pS_far _ _ (by omega), rd_hAI_sFI]
    have b1 : ∀ k a, (k = 700 → a ≠ 62) → (k ≠ 1110 ∨ a ≠ 0) → hFI g1 k a = hFI h k a := fun k a z1 z2 => by
      rw [← hg, pS_fi _ _ (by
        by_cases e : k = 700
        · exact Or.inr (z1 e)
        · exact Or.inl e), sFI_o _ _ z2]
    have g62 : getS g1 62 = cpS Y (getS h 62) := by rw [← hg]; exact getS_put _ _ _
    have f1110 : hFI g1 1110 0 = nI mn := by rw [← hg, pS_fi _ _ (Or.inl (by decide)), sFI_at]
    have gS : ∀ j, j < 16 → getS g1 (204 + 9 * j) = getS h (204 + 9 * j) := fun j hj => getS_fr (b1 _ _ (fun _ => by omega) (Or.inl (by decide))) (fun k k1 k2 => a1 _ (by omega))
    have hm1 : MSh g1 := hm.to q1.1 (fun k => by rw [q1.2.1]) q1.2.2.1
    have f1264 : hFI g1 1264 348 = nI (mn + 1) := (b1 _ _ (fun z => by omega) (Or.inr (by decide))).trans h5
    -- the reference
    have hm2 : MSh (sFI (sFI g1 1200 348 0) 1264 348 (nI mn)) := hm1.to rfl (fun _ => rfl) rfl
    have hk1 : hK g1 348 = 13 := hm1.1
    have g59 : hFR g1 1259 348 = some 397 := (hm1.2 48 (by decide)).1
    have g59k : hK g1 397 = 50 := (hm1.2 48 (by decide)).2.1
    have g59n : hLN g1 397 = 43 := (hm1.2 48 (by decide)).2.2
    have g62' : hFR g1 1262 348 = some 400 := (hm1.2 51 (by decide)).1
    have g62k : hK g1 400 = 50 := (hm1.2 51 (by decide)).2.1
    have g62n : hLN g1 400 = 688 := (hm1.2 51 (by decide)).2.2
    have e1 : (nI (mn + 1) = 0) = False := eq_false (nI_ne0 (by omega) (by omega))
    have e2 : hFI (sFI g1 1200 348 0) 1264 348 = nI (mn + 1) := by rw [sFI_o _ _ (Or.inl (by decide)), f1264]
    have e3 : nI (mn + 1) - 1 = nI mn := nI_pred mn
    have e4 : hFI (sFI (sFI g1 1200 348 0) 1264 348 (nI mn)) 1264 348 = nI mn := sFI_at _ _ _ _
    have e5 : (43 : Int32) * nI mn = nI (43 * mn) := pk_mul 43 mn
    have kp := c_copies (d := d + 18) (r1 := 400) (r2 := 397) (n1 := 688) (n2 := 43) (a := 43 * mn) (b := 0) (h := sFI (sFI g1 1200 348 0) 1264 348 (nI mn)) (by decide) g62k g59k g62n g59n (by omega) (by decide) (by decide) (by decide)
    rw [rd_hAI_sFI, rd_hAI_sFI, a1 400 (by decide), a1 397 (by decide)] at kp
    have kp' : am_C PG (d + 19) 201 [.ref 400, .int (nI (43 * mn)), .ref 397, .int 0] (sFI (sFI g1 1200 348 0) 1264 348 (nI mn)) = some (none, sAI (sFI (sFI g1 1200 348 0) 1264 348 (nI mn)) 397 (am_cpy (hAI h 400) (hAI h 397) (43 * mn) 0 43)) := kp
    generalize hF : am_cpy (hAI h 400) (hAI h 397) (43 * mn) 0 43 = F at kp'
    have vF : ∀ j, j < 43 → F j = slot (hAI h 400) mn j := fun j hj => by
      rw [← hF]
      unfold am_cpy slot
      rw [if_pos (by omega), Nat.sub_zero]
    have q2 : Qk g1 (sAI (sFI (sFI g1 1200 348 0) 1264 348 (nI mn)) 397 F) := (Qk.of (th_qt g1)).tr ((Qk.fi _ 1264 348 _ (by omega)).tr (Qk.u397 _ _))
    have aG : ∀ a, a ≠ 397 → hAI (sAI (sFI (sFI g1 1200 348 0) 1264 348 (nI mn)) 397 F) a = hAI g1 a := fun a ha => by
      rw [sAI_ne _ _ ha, rd_hAI_sFI, rd_hAI_sFI]
    have fG : ∀ k a, a ≠ 348 → hFI (sAI (sFI (sFI g1 1200 348 0) 1264 348 (nI mn)) 397 F) k a = hFI g1 k a := fun k a ha => by
      rw [rd_hFI_sAI, sFI_o _ _ (Or.inr ha), sFI_o _ _ (Or.inr ha)]
    have fG2 : hFI (sAI (sFI (sFI g1 1200 348 0) 1264 348 (nI mn)) 397 F) 1264 348 = nI mn := by rw [rd_hFI_sAI, sFI_at]
    have vG : hAI (sAI (sFI (sFI g1 1200 348 0) 1264 348 (nI mn)) 397 F) 397 = F := sAI_at _ _ _
    refine ⟨1, g1, sAI (sFI (sFI g1 1200 348 0) 1264 348 (nI mn)) 397 F, kc, ?_, q1.law, q2.law, by rw [← hg]; rfl, ?_⟩
    · dsimp only
      rw [q_X12_undo]
      simp only [am_kd, hk1, if_true, am_let_e, rd_hK_sFI, rd_hFR_sFI, e1, if_false, e2, e3, e4, e5, g62', g59, bR_s, kp', bV_s, am_nar4_1]
    · generalize hGG : sAI (sFI (sFI g1 1200 348 0) 1264 348 (nI mn)) 397 F = G at q2 aG fG fG2 vG
      have gG : ∀ a, a + 8 < 348 → getS G a = getS g1 a := fun a ha => getS_fr (fG _ _ (by omega)) (fun k k1 k2 => aG _ (by omega))
      refine ((IQ.mono (show B ≤ B + 24 by omega)).qk (q1.tr q2)).inv ⟨hr, by omega, ?_⟩ ⟨fr, mn, h1, by omega, ?_, ?_, fG2, fun j hj => ?_⟩
      · rw [gG 62 (by decide), g62, vG]
        refine SR_M ((aG 359 (by decide)).trans (a1 359 (by decide))) ((aG 368 (by decide)).trans (a1 368 (by decide))) (SR_cpS hn (SR_dec hn vF S))
      · rw [fG _ _ (by decide), b1 _ _ (fun z => by omega) (Or.inl (by decide))]
        exact h3
      · rw [fG _ _ (by decide)]
        exact f1110
      · obtain ⟨hr1, t1, t2⟩ := h6 j (by omega)
        have hb : (fr + j) % 16 < 16 := Nat.mod_lt _ (by decide)
        refine ⟨hr1, by omega, ?_⟩
        rw [gG _ (by omega), gS _ hb, aG 400 (by decide), a1 400 (by decide)]
        exact SR_M ((aG 359 (by decide)).trans (a1 359 (by decide))) ((aG 368 (by decide)).trans (a1 368 (by decide))) t2
