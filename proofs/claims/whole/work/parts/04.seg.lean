theorem am_callX_ct {call : Nat → List Value → AH → Option Res} {call1 : Nat → Nat → List Value → AH → Option Res} {x : Nat} {st : List Value} {hh : AH} {f f2 : List Value → AH → Option Res} {g g2 : Nat → List Value → AH → Option Res}
    (hc : ∀ m as h, am_ct (call m as h) (fun n => call1 n m as h)) (mc : ∀ m as h, am_mn (fun n => call1 n m as h)) (h : ∀ r x, am_ct (f r x) (fun n => g n r x)) (mg : ∀ r x, am_mn (fun n => g n r x)) (h2 : ∀ r x, am_ct (f2 r x) (fun n => g2 n r x)) (mg2 : ∀ r x, am_mn (fun n => g2 n r x)) : am_ct (am_callX call x st hh f f2) (fun n => am_callX (call1 n) x st hh (g n) (g2 n)) := by
  unfold am_callX
  cases takeA (x / 8 % 32) st [] with
  | none => exact am_ct.no _
  | some q =>
    obtain ⟨as, r⟩ := q
    dsimp only
    cases as with
    | nil => exact am_ct.no _
    | cons a as =>
      cases a with
      | ref q => exact am_r8_ct <| am_kd_ct (bX_ct (hc _ _ _) (mc _ _ _) (fun _ _ => h _ _) (fun _ _ => mg _ _) (fun _ => am_let_ct fun _ => h2 _ _) (fun _ n k hnk => am_let_mono fun _ => mg2 _ _ n k hnk))
      | _ => exact am_ct.no _
theorem stp_ct {call : Nat → List Value → AH → Option Res} {call1 : Nat → Nat → List Value → AH → Option Res} {K : Nat → LV → List Value → AH → Option Res} {K1 : Nat → Nat → LV → List Value → AH → Option Res}
    (hc : ∀ m as h, am_ct (call m as h) (fun n => call1 n m as h)) (mc : ∀ m as h, am_mn (fun n => call1 n m as h)) (hK : ∀ pc lv st h, am_ct (K pc lv st h) (fun n => K1 n pc lv st h)) (mK : ∀ pc lv st h, am_mn (fun n => K1 n pc lv st h))
    (e : CE) (lv : LV) (st : List Value) (h : AH) : am_ct (stp call K e lv st h) (fun n => stp (call1 n) (K1 n) e lv st h) := by
  obtain ⟨pc, len, x, i⟩ := e
  cases i <;> dsimp only [stp]
  all_goals with_reducible first
    | exact am_ct.rf _
    | exact hK _ _ _ _
    | exact ldA_ct fun _ => hK _ _ _ _
    | exact ldI_ct fun _ => hK _ _ _ _
    | exact ldJ_ct fun _ => hK _ _ _ _
    | exact ldI_ct fun _ => am_st1_ct _ _ _ fun _ => hK _ _ _ _
    | exact pR_ct fun _ _ => am_st1_ct _ _ _ fun _ => hK _ _ _ _
    | exact pI_ct fun _ _ => am_st1_ct _ _ _ fun _ => hK _ _ _ _
    | exact pJ_ct fun _ _ => am_st1_ct _ _ _ fun _ => am_stN_ct _ _ _ fun _ => hK _ _ _ _
    | exact pI_ct fun _ _ => hK _ _ _ _
    | exact pJ_ct fun _ _ => hK _ _ _ _
    | exact pI_ct fun _ _ => pI_ct fun _ _ => hK _ _ _ _
    | exact pI_ct fun _ _ => pJ_ct fun _ _ => hK _ _ _ _
    | exact pJ_ct fun _ _ => pJ_ct fun _ _ => hK _ _ _ _
    | exact pI_ct fun _ _ => pI_ct fun _ _ => am_dz_ct (hK _ _ _ _)
    | exact pJ_ct fun _ _ => pJ_ct fun _ _ => am_dzJ_ct (hK _ _ _ _)
    | exact pI_ct fun _ _ => am_if_ct (hK _ _ _ _) (hK _ _ _ _)
    | exact pI_ct fun _ _ => pI_ct fun _ _ => am_icmp_ct (hK _ _ _ _) (hK _ _ _ _)
    | exact pR_ct fun _ _ => ite_ct (hK _ _ _ _) (hK _ _ _ _)
    | exact pI_ct fun _ _ => am_sw_ct (fun _ => hK _ _ _ _) (hK _ _ _ _) _ _
    | exact pR_ct fun _ _ => am_kd_ct (am_get_ct fun _ => hK _ _ _ _)
    | exact am_put_ct fun _ _ => hK _ _ _ _
    | exact pI_ct fun _ _ => pR_ct fun _ _ => am_kd_ct (am_in_ct (hK _ _ _ _))
    | exact pI_ct fun _ _ => pR_ct fun _ _ => am_kd_ct (am_in_ct (bR_ct fun _ => hK _ _ _ _))
    | exact pI_ct fun _ _ => pI_ct fun _ _ => pR_ct fun _ _ => am_kd_ct (am_in_ct (am_let_ct fun _ => hK _ _ _ _))
    | exact pI_ct fun _ _ => pI_ct fun _ _ => pR_ct fun _ _ => am_kd_ct (am_in_ct (am_nar_ct (am_let_ct fun _ => hK _ _ _ _)))
    | exact pJ_ct fun _ _ => pI_ct fun _ _ => pR_ct fun _ _ => am_kd_ct (am_in_ct (am_let_ct fun _ => hK _ _ _ _))
    | exact pR_ct fun _ _ => pI_ct fun _ _ => pR_ct fun _ _ => am_kd_ct (am_kd_ct (am_in_ct (am_let_ct fun _ => hK _ _ _ _)))
    | exact pR_ct fun _ _ => am_kd_ct (hK _ _ _ _)
    | exact pI_ct fun _ _ => am_nw_ct (am_let_ct fun _ => hK _ _ _ _)
    | exact am_call_ct hc mc (fun _ _ => hK _ _ _ _) (fun _ _ => mK _ _ _ _)
    | (split; exact (am_callX_ct hc mc (fun _ _ => hK _ _ _ _) (fun _ _ => mK _ _ _ _) (fun _ _ => hK _ _ _ _) (fun _ _ => mK _ _ _ _)); exact (am_call_ct hc mc (fun _ _ => hK _ _ _ _) (fun _ _ => mK _ _ _ _)); done)
    | (cases x; exact am_ct.rf _; exact am_let_ct fun _ => hK _ _ _ _; done)
    | (cases st; exact am_ct.no _; exact am_c1_ct (hK _ _ _ _); done)
    | (rcases st with _ | ⟨v, _ | ⟨w, r⟩⟩; exact am_ct.no _; exact am_ct.no _; exact am_c1_ct (am_c1_ct (hK _ _ _ _)); done)
    | (split; exact (pR_ct fun _ _ => am_r8_ct (am_kd_ct (hK _ _ _ _))); exact (am_call_ct hc mc (fun _ _ => hK _ _ _ _) (fun _ _ => mK _ _ _ _)); done)
    | (cases x; exact (pI_ct fun _ _ => pI_ct fun _ _ => pR_ct fun _ _ => pI_ct fun _ _ => pR_ct fun _ _ => am_r8_ct (am_kd_ct (am_kd_ct (am_cb_ct (am_let_ct fun _ => hK _ _ _ _))))); exact (am_call_ct hc mc (fun _ _ => hK _ _ _ _) (fun _ _ => mK _ _ _ _)); done)
    | (rename_i c _; cases c; exact (pR_ct fun _ _ => pR_ct fun _ _ => am_wd_ct (am_wd_ct (ite_ct (hK _ _ _ _) (hK _ _ _ _)))); exact (pR_ct fun _ _ => pR_ct fun _ _ => am_wd_ct (am_wd_ct (ite_ct (hK _ _ _ _) (hK _ _ _ _)))); done)
/-- a call of method m with these arguments, calls at most d deep -/
noncomputable def am_C (P : Nat → MC) (d m : Nat) (as : List Value) (h : AH) : Option Res := am_fitA as (P m).2.2 (am_R P d m 0 (am_ent as (P m).2.2) [] h)
noncomputable def am_cl (P : Nat → MC) (d : Nat) : Nat → List Value → AH → Option Res := fun m as h => match d with
  | 0 => none
  | d1 + 1 => am_C P d1 m as h
def am_cn (P : Nat → MC) (n d : Nat) : Nat → List Value → AH → Option Res := fun m as h => match d with
  | 0 => none
  | d1 + 1 => am_fitA as (P m).2.2 (am_run P n d1 m 0 (am_ent as (P m).2.2) [] h)
theorem am_R_ct (P : Nat → MC) (d m pc : Nat) (lv : LV) (st : List Value) (h : AH) : am_ct (am_R P d m pc lv st h) (fun n => am_run P n d m pc lv st h) := fun r hr => (am_R_iff P d m pc lv st h r).mp hr
theorem am_cn_le (P : Nat → MC) (n d m : Nat) (as : List Value) (h : AH) : am_le (am_cn P n d m as h) (am_cl P d m as h) := by
  cases d with
  | zero => exact am_le.no _
  | succ d => exact am_fitA_mono fun r hr => (am_R_iff _ _ _ _ _ _ _ _).mpr ⟨n, hr⟩
theorem am_cn_ct (P : Nat → MC) (d m : Nat) (as : List Value) (h : AH) : am_ct (am_cl P d m as h) (fun n => am_cn P n d m as h) := by
  cases d with
  | zero => exact am_ct.no _
  | succ d =>
    show am_ct (am_fitA as (P m).2.2 _) (fun n => am_fitA as (P m).2.2 _)
    unfold am_fitA
    split
    · exact am_R_ct _ _ _ _ _ _ _
    · exact am_ct.no _
theorem am_cn_mn (P : Nat → MC) (d m : Nat) (as : List Value) (h : AH) : am_mn (fun n => am_cn P n d m as h) := by
  intro n k hnk
  cases d with
  | zero => exact am_le.no _
  | succ d => exact am_fitA_mono (am_run_mono P hnk _ _ _ _ _ _)
theorem am_R_step (P : Nat → MC) (d m pc : Nat) (lv : LV) (st : List Value) (h : AH) {e : CE} (he : am_fetch (P m).1 pc = some e) :
    am_R P d m pc lv st h = stp (am_cl P d) (fun pc1 lv1 st1 h1 => am_R P d m pc1 (am_msk (P m).2.1 pc1 lv1) st1 h1) e lv st h := by
  have hstep : ∀ n, am_run P (n + 1) d m pc lv st h = stp (am_cn P n d) (fun pc1 lv1 st1 h1 => am_run P n d m pc1 (am_msk (P m).2.1 pc1 lv1) st1 h1) e lv st h := fun n => by
    rw [am_run, he]; rfl
  have q1 : am_le (am_R P d m pc lv st h) (stp (am_cl P d) (fun pc1 lv1 st1 h1 => am_R P d m pc1 (am_msk (P m).2.1 pc1 lv1) st1 h1) e lv st h) := by
    intro r hr
    obtain ⟨n, hn⟩ := (am_R_iff P d m pc lv st h r).mp hr
    cases n with
    | zero => cases hn
    | succ n =>
      rw [hstep] at hn
      exact stp_mono (fun m1 as h1 => am_cn_le P n d m1 as h1) (fun pc1 lv1 st1 h1 r hr => (am_R_iff _ _ _ _ _ _ _ _).mpr ⟨n, hr⟩) e lv st h r hn
  have q2 : am_le (stp (am_cl P d) (fun pc1 lv1 st1 h1 => am_R P d m pc1 (am_msk (P m).2.1 pc1 lv1) st1 h1) e lv st h) (am_R P d m pc lv st h) := by
    intro r hr
    obtain ⟨n, hn⟩ := stp_ct (call1 := fun n => am_cn P n d) (K1 := fun n pc1 lv1 st1 h1 => am_run P n d m pc1 (am_msk (P m).2.1 pc1 lv1) st1 h1) (fun m1 as h1 => am_cn_ct P d m1 as h1) (fun m1 as h1 => am_cn_mn P d m1 as h1)
      (fun _ _ _ _ => am_R_ct _ _ _ _ _ _ _) (fun _ _ _ _ n k hnk => am_run_mono P hnk _ _ _ _ _ _) e lv st h r hr
    exact (am_R_iff _ _ _ _ _ _ _ _).mpr ⟨n + 1, by rw [hstep]; exact hn⟩
  cases hR : am_R P d m pc lv st h with
  | some r => exact (q1 r hR).symm
  | none =>
    cases hS : stp (am_cl P d) (fun pc1 lv1 st1 h1 => am_R P d m pc1 (am_msk (P m).2.1 pc1 lv1) st1 h1) e lv st h with
    | none => rfl
    | some r => rw [q2 r hS] at hR; cases hR
/-- a stretch of code, to the next heads -/
def am_seg (C : List CE) (hs : List (Nat × List Nat)) (call : Nat → List Value → AH → Option Res) (K : Nat → LV → List Value → AH → Option Res) : Nat → Nat → LV → List Value → AH → Option Res
  | 0, pc, lv, st, h => K pc lv st h
  | n + 1, pc, lv, st, h => match am_fetch C pc with
    | none => K pc lv st h
    | some e => stp call (fun pc1 lv1 st1 h1 => match am_look hs pc1 with
      | some live => K pc1 (am_mask live 0 lv1) st1 h1
      | none => am_seg C hs call K n pc1 lv1 st1 h1) e lv st h
theorem am_R_seg (P : Nat → MC) (d m : Nat) (n : Nat) : ∀ (pc : Nat) (lv : LV) (st : List Value) (h : AH), am_R P d m pc lv st h = am_seg (P m).1 (P m).2.1 (am_cl P d) (am_R P d m) n pc lv st h := by
  induction n with
  | zero => intro pc lv st h; rfl
  | succ n ih =>
    intro pc lv st h
    rw [am_seg]
    cases he : am_fetch (P m).1 pc with
    | none => rfl
    | some e =>
      rw [am_R_step P d m pc lv st h he]
      dsimp only
      congr 1
      funext pc1 lv1 st1 h1
      unfold am_msk
      cases am_look (P m).2.1 pc1 with
      | some live => rfl
      | none => exact ih pc1 lv1 st1 h1
/-- the same, the method's code by its name -/
theorem am_R_of {P : Nat → MC} {d m : Nat} {C : List CE} {hs : List (Nat × List Nat)} {nL : Nat} (hP : P m = (C, hs, nL)) (n : Nat) {pc : Nat} {lv : LV} {st : List Value} {h : AH} {y : Option Res} (hy : am_seg C hs (am_cl P d) (am_R P d m) n pc lv st h = y) : am_R P d m pc lv st h = y := by
  rw [am_R_seg P d m n, hP]; exact hy
theorem am_C_of {P : Nat → MC} {d m : Nat} {C : List CE} {hs : List (Nat × List Nat)} {nL : Nat} (hP : P m = (C, hs, nL)) (n : Nat) {as : List Value} (hf : Nat.ble (am_ent1 as).length nL = true) {h : AH} {y : Option Res} (hy : am_seg C hs (am_cl P d) (am_R P d m) n 0 (am_ent as nL) [] h = y) : am_C P d m as h = y := by
  unfold am_C am_fitA
  rw [am_R_seg P d m n, hP]
  dsimp only
  rw [hf]
  exact hy
theorem am_C_0 {P : Nat → MC} {d m : Nat} {C : List CE} {hs : List (Nat × List Nat)} {nL : Nat} (hP : P m = (C, hs, nL)) {as : List Value} (hf : Nat.ble (am_ent1 as).length nL = true) {h : AH} {y : Option Res} (hy : am_R P d m 0 (am_ent as nL) [] h = y) : am_C P d m as h = y := by
  unfold am_C am_fitA
  rw [hP]
  dsimp only
  rw [hf]
  exact hy
