/-! The heap only grows. -/
def am_nx (n : Nat) (o : Option Res) : Prop := ∀ r, o = some r → n ≤ hNX r.2
theorem am_nx.no (n : Nat) : am_nx n none := fun _ h => by cases h
theorem am_nx.tr {n k : Nat} {o : Option Res} (h : n ≤ k) (h2 : am_nx k o) : am_nx n o := fun r hr => Nat.le_trans h (h2 r hr)
theorem ite_nx {c : Prop} [Decidable c] {n : Nat} {a b : Option Res} (h : am_nx n a) (h2 : am_nx n b) : am_nx n (if c then a else b) := by
  split
  · exact h
  · exact h2
theorem pI_nx {n : Nat} {st : List Value} {f : Int32 → List Value → Option Res} (h : ∀ x r, am_nx n (f x r)) : am_nx n (pI st f) := by
  unfold pI am_id; split
  · exact h _ _
  · exact am_nx.no _
theorem pJ_nx {n : Nat} {st : List Value} {f : Int64 → List Value → Option Res} (h : ∀ x r, am_nx n (f x r)) : am_nx n (pJ st f) := by
  unfold pJ am_id; split
  · exact h _ _
  · exact am_nx.no _
theorem pR_nx {n : Nat} {st : List Value} {f : Nat → List Value → Option Res} (h : ∀ x r, am_nx n (f x r)) : am_nx n (pR st f) := by
  unfold pR am_id; split
  · exact h _ _
  · exact am_nx.no _
theorem ldI_nx {n : Nat} {lv : LV} {i : Nat} {f : Int32 → Option Res} (h : ∀ x, am_nx n (f x)) : am_nx n (ldI lv i f) := by
  unfold ldI am_id; split
  · exact h _
  · exact am_nx.no _
theorem ldJ_nx {n : Nat} {lv : LV} {i : Nat} {f : Int64 → Option Res} (h : ∀ x, am_nx n (f x)) : am_nx n (ldJ lv i f) := by
  unfold ldJ am_id; split
  · exact h _
  · exact am_nx.no _
theorem ldA_nx {n : Nat} {lv : LV} {i : Nat} {f : Nat → Option Res} (h : ∀ x, am_nx n (f x)) : am_nx n (ldA lv i f) := by
  unfold ldA am_id; split
  · exact h _
  · exact am_nx.no _
theorem bV_nx {n : Nat} {o : Option Res} {f : AH → Option Res} (ho : am_nx n o) (h : ∀ x, am_nx (hNX x) (f x)) : am_nx n (bV o f) := by
  intro r hr
  unfold bV at hr
  split at hr
  · exact Nat.le_trans (ho _ rfl) (h _ _ hr)
  · cases hr
theorem bI_nx {n : Nat} {o : Option Res} {f : Int32 → AH → Option Res} (ho : am_nx n o) (h : ∀ v x, am_nx (hNX x) (f v x)) : am_nx n (bI o f) := by
  intro r hr
  unfold bI at hr
  split at hr
  · exact Nat.le_trans (ho _ rfl) (h _ _ _ hr)
  · cases hr
theorem bJ_nx {n : Nat} {o : Option Res} {f : Int64 → AH → Option Res} (ho : am_nx n o) (h : ∀ v x, am_nx (hNX x) (f v x)) : am_nx n (bJ o f) := by
  intro r hr
  unfold bJ at hr
  split at hr
  · exact Nat.le_trans (ho _ rfl) (h _ _ _ hr)
  · cases hr
theorem bA_nx {n : Nat} {o : Option Res} {f : Nat → AH → Option Res} (ho : am_nx n o) (h : ∀ v x, am_nx (hNX x) (f v x)) : am_nx n (bA o f) := by
  intro r hr
  unfold bA at hr
  split at hr
  · exact Nat.le_trans (ho _ rfl) (h _ _ _ hr)
  · cases hr
theorem bX_nx {n : Nat} {o : Option Res} {f : Int32 → AH → Option Res} {g : AH → Option Res} (ho : am_nx n o) (h : ∀ v x, am_nx (hNX x) (f v x)) (h2 : ∀ x, am_nx (hNX x) (g x)) : am_nx n (bX o f g) := by
  intro r hr
  unfold bX at hr
  split at hr
  · exact Nat.le_trans (ho _ rfl) (h _ _ _ hr)
  · exact Nat.le_trans (ho _ rfl) (h2 _ _ hr)
  · cases hr
theorem bR_nx {n : Nat} {o : Option Nat} {f : Nat → Option Res} (h : ∀ x, am_nx n (f x)) : am_nx n (bR o f) := by
  unfold bR; split
  · exact h _
  · exact am_nx.no _
theorem am_let_nx {n : Nat} {x : AH} {f : AH → Option Res} (hn : n ≤ hNX x) (h : ∀ y, am_nx (hNX y) (f y)) : am_nx n (am_let x f) := am_nx.tr hn (h x)
theorem am_if_nx {n : Nat} {c : Jvm.ClassFile.Cond} {x : Int32} {a b : Option Res} (h : am_nx n a) (h2 : am_nx n b) : am_nx n (am_if c x a b) := by
  cases c <;> exact ite_nx (by assumption) (by assumption)
theorem am_icmp_nx {n : Nat} {c : Jvm.ClassFile.Cond} {x y : Int32} {a b : Option Res} (h : am_nx n a) (h2 : am_nx n b) : am_nx n (am_icmp c x y a b) := by
  cases c <;> exact ite_nx (by assumption) (by assumption)
theorem am_sw_nx {n : Nat} {x : Int} {f : Nat → Option Res} {d : Option Res} (h : ∀ t, am_nx n (f t)) (h2 : am_nx n d) : ∀ (ts : List Nat) (lo : Int), am_nx n (am_sw x lo ts f d)
  | [], _ => h2
  | t :: ts, lo => ite_nx (h t) (am_sw_nx h h2 ts (lo + 1))
theorem am_in_nx {n : Nat} {i : Int32} {k : Nat} {a : Option Res} (h : am_nx n a) : am_nx n (am_in i k a) := ite_nx (am_nx.no _) h
theorem am_kd_nx {n : Nat} {hh : AH} {a k : Nat} {x : Option Res} (h : am_nx n x) : am_nx n (am_kd hh a k x) := ite_nx h (am_nx.no _)
theorem am_wd_nx {n : Nat} {a : Nat} {x : Option Res} (h : am_nx n x) : am_nx n (am_wd a x) := ite_nx h (am_nx.no _)
theorem am_dz_nx {n : Nat} {a : Int32} {x : Option Res} (h : am_nx n x) : am_nx n (am_dz a x) := ite_nx (am_nx.no _) h
theorem am_dzJ_nx {n : Nat} {a : Int64} {x : Option Res} (h : am_nx n x) : am_nx n (am_dzJ a x) := ite_nx (am_nx.no _) h
theorem am_nw_nx {n : Nat} {a : Int32} {x : Option Res} (h : am_nx n x) : am_nx n (am_nw a x) := ite_nx (am_nx.no _) h
theorem am_cb_nx {n : Nat} {hh : AH} {s d : Nat} {a b c : Int32} {x : Option Res} (h : am_nx n x) : am_nx n (am_cb hh s a d b c x) := ite_nx (am_nx.no _) h
theorem am_c1_nx {n : Nat} {v : Value} {x : Option Res} (h : am_nx n x) : am_nx n (am_c1 v x) := by
  cases v <;> first | exact am_nx.no _ | exact h
theorem am_r8_nx {n : Nat} {v : List Value} {x : Option Res} (h : am_nx n x) : am_nx n (am_r8 v x) := by
  unfold am_r8 am_id; split
  · exact h
  · exact am_nx.no _
theorem am_nar_nx {n t : Nat} {v : Int32} {x : Option Res} (h : am_nx n x) : am_nx n (am_nar t v x) := by
  unfold am_nar; split
  · exact ite_nx h (am_nx.no _)
  · exact ite_nx (am_nx.no _) h
  · exact h
theorem am_stN_nx {n : Nat} : ∀ (lv : LV) (i : Nat) (v : Option Value) {f : LV → Option Res} (_ : ∀ l, am_nx n (f l)), am_nx n (am_stN lv i v f)
  | [], _, _, _, _ => am_nx.no _
  | _ :: t, 0, v, _, h => h _
  | x :: t, i + 1, v, _, h => am_stN_nx t i v fun _ => h _
theorem am_st1_nx {n : Nat} : ∀ (lv : LV) (i : Nat) (v : Option Value) {f : LV → Option Res} (_ : ∀ l, am_nx n (f l)), am_nx n (am_st1 lv i v f)
  | [], _, _, _, _ => am_nx.no _
  | _ :: t, 0, v, _, h => h _
  | _ :: [], _ + 1, _, _, _ => am_nx.no _
  | x :: y :: t, 1, v, _, h => by
    unfold am_st1; split <;> first | exact h _ | exact am_nx.no _
  | x :: y :: t, i + 2, v, _, h => am_st1_nx (y :: t) (i + 1) v fun _ => h _
theorem am_get_nx {n : Nat} {hh : AH} {t k a : Nat} {f : Value → Option Res} (h : ∀ v, am_nx n (f v)) : am_nx n (am_get hh t k a f) := by
  unfold am_get; split
  · exact h _
  · exact bR_nx fun _ => h _
  · exact h _
  · exact h _
theorem am_put_nx {hh : AH} {t k kd : Nat} {st : List Value} {f : List Value → AH → Option Res} (h : ∀ r x, am_nx (hNX x) (f r x)) : am_nx (hNX hh) (am_put hh t k kd st f) := by
  unfold am_put; split
  · exact pJ_nx fun _ _ => pR_nx fun _ _ => am_kd_nx (am_let_nx (Nat.le_refl _) fun _ => h _ _)
  · exact pR_nx fun _ _ => pR_nx fun _ _ => am_kd_nx (am_let_nx (Nat.le_refl _) fun _ => h _ _)
  · exact pR_nx fun _ _ => pR_nx fun _ _ => am_kd_nx (am_let_nx (Nat.le_refl _) fun _ => h _ _)
  · exact pI_nx fun _ _ => pR_nx fun _ _ => am_kd_nx (am_nar_nx (am_let_nx (Nat.le_refl _) fun _ => h _ _))
theorem am_call_nx {call : Nat → List Value → AH → Option Res} {x : Nat} {v : Bool} {st : List Value} {hh : AH} {f : List Value → AH → Option Res} (hc : ∀ m as h, am_nx (hNX h) (call m as h)) (h : ∀ r x, am_nx (hNX x) (f r x)) : am_nx (hNX hh) (am_call call x v st hh f) := by
  unfold am_call
  split
  · exact am_nx.no _
  · rename_i as r _
    dsimp only
    refine am_r8_nx ?_
    have go : am_nx (hNX hh) (match x % 8 with
      | 0 => bV (call (x / 16384) as hh) fun h1 => f r h1
      | 1 => bI (call (x / 16384) as hh) fun v h1 => f (.int v :: r) h1
      | 2 => bJ (call (x / 16384) as hh) fun v h1 => f (.long v :: r) h1
      | 3 => bA (call (x / 16384) as hh) fun v h1 => f (.ref v :: r) h1
      | _ => none) := by
      split
      · exact bV_nx (hc _ _ _) fun _ => h _ _
      · exact bI_nx (hc _ _ _) fun _ _ => h _ _
      · exact bJ_nx (hc _ _ _) fun _ _ => h _ _
      · exact bA_nx (hc _ _ _) fun _ _ => h _ _
      · exact am_nx.no _
    split
    · split
      · exact am_kd_nx go
      · exact am_nx.no _
    · exact go
theorem am_callX_nx {call : Nat → List Value → AH → Option Res} {x : Nat} {st : List Value} {hh : AH} {f g : List Value → AH → Option Res} (hc : ∀ m as h, am_nx (hNX h) (call m as h)) (h : ∀ r x, am_nx (hNX x) (f r x)) (h2 : ∀ r x, am_nx (hNX x) (g r x)) : am_nx (hNX hh) (am_callX call x st hh f g) := by
  unfold am_callX
  split
  · exact am_nx.no _
  · split
    · exact am_r8_nx (am_kd_nx (bX_nx (hc _ _ _) (fun _ _ => h _ _) (fun x => am_let_nx (Nat.le_succ _) fun _ => h2 _ _)))
    · exact am_nx.no _
theorem am_nx.so (h : AH) (v : Option Value) : am_nx (hNX h) (some (v, h)) := fun r hr => by cases hr; exact Nat.le_refl _
theorem am_th_nx (st : List Value) (h : AH) : am_nx (hNX h) (am_th st h) := by
  unfold am_th; split
  · exact am_nx.so _ _
  · exact am_nx.no _
theorem stp_nx {call : Nat → List Value → AH → Option Res} {K : Nat → LV → List Value → AH → Option Res} (hc : ∀ m as h, am_nx (hNX h) (call m as h)) (hK : ∀ pc lv st h, am_nx (hNX h) (K pc lv st h)) (e : CE) (lv : LV) (st : List Value) (h : AH) : am_nx (hNX h) (stp call K e lv st h) := by
  obtain ⟨pc, len, x, i⟩ := e
  cases i <;> dsimp only [stp]
  all_goals with_reducible first
    | exact am_nx.no _
    | exact hK _ _ _ _
    | exact ldA_nx fun _ => hK _ _ _ _
    | exact ldI_nx fun _ => hK _ _ _ _
    | exact ldJ_nx fun _ => hK _ _ _ _
    | exact ldI_nx fun _ => am_st1_nx _ _ _ fun _ => hK _ _ _ _
    | exact pR_nx fun _ _ => am_st1_nx _ _ _ fun _ => hK _ _ _ _
    | exact pI_nx fun _ _ => am_st1_nx _ _ _ fun _ => hK _ _ _ _
    | exact pJ_nx fun _ _ => am_st1_nx _ _ _ fun _ => am_stN_nx _ _ _ fun _ => hK _ _ _ _
    | exact pI_nx fun _ _ => hK _ _ _ _
    | exact pJ_nx fun _ _ => hK _ _ _ _
    | exact pI_nx fun _ _ => pI_nx fun _ _ => hK _ _ _ _
    | exact pI_nx fun _ _ => pJ_nx fun _ _ => hK _ _ _ _
    | exact pJ_nx fun _ _ => pJ_nx fun _ _ => hK _ _ _ _
    | exact pI_nx fun _ _ => pI_nx fun _ _ => am_dz_nx (hK _ _ _ _)
    | exact pJ_nx fun _ _ => pJ_nx fun _ _ => am_dzJ_nx (hK _ _ _ _)
    | exact pI_nx fun _ _ => am_if_nx (hK _ _ _ _) (hK _ _ _ _)
    | exact pI_nx fun _ _ => pI_nx fun _ _ => am_icmp_nx (hK _ _ _ _) (hK _ _ _ _)
    | exact pR_nx fun _ _ => ite_nx (hK _ _ _ _) (hK _ _ _ _)
    | exact pI_nx fun _ _ => am_sw_nx (fun _ => hK _ _ _ _) (hK _ _ _ _) _ _
    | exact pR_nx fun _ _ => am_kd_nx (am_get_nx fun _ => hK _ _ _ _)
    | exact am_put_nx fun _ _ => hK _ _ _ _
    | exact pI_nx fun _ _ => pR_nx fun _ _ => am_kd_nx (am_in_nx (hK _ _ _ _))
    | exact pI_nx fun _ _ => pR_nx fun _ _ => am_kd_nx (am_in_nx (bR_nx fun _ => hK _ _ _ _))
    | exact pI_nx fun _ _ => pI_nx fun _ _ => pR_nx fun _ _ => am_kd_nx (am_in_nx (am_let_nx (Nat.le_refl _) fun _ => hK _ _ _ _))
    | exact pI_nx fun _ _ => pI_nx fun _ _ => pR_nx fun _ _ => am_kd_nx (am_in_nx (am_nar_nx (am_let_nx (Nat.le_refl _) fun _ => hK _ _ _ _)))
    | exact pJ_nx fun _ _ => pI_nx fun _ _ => pR_nx fun _ _ => am_kd_nx (am_in_nx (am_let_nx (Nat.le_refl _) fun _ => hK _ _ _ _))
    | exact pR_nx fun _ _ => pI_nx fun _ _ => pR_nx fun _ _ => am_kd_nx (am_kd_nx (am_in_nx (am_let_nx (Nat.le_refl _) fun _ => hK _ _ _ _)))
    | exact pR_nx fun _ _ => am_kd_nx (hK _ _ _ _)
    | exact pI_nx fun _ _ => am_nw_nx (am_let_nx (Nat.le_succ _) fun _ => hK _ _ _ _)
    | exact am_call_nx hc fun _ _ => hK _ _ _ _
    | (split; exact (am_callX_nx hc (fun _ _ => hK _ _ _ _) (fun _ _ => hK _ _ _ _)); exact (am_call_nx hc fun _ _ => hK _ _ _ _); done)
    | (split; exact am_th_nx _ _; exact am_let_nx (Nat.le_succ _) fun _ => hK _ _ _ _; done)
    | (split; exact am_c1_nx (hK _ _ _ _); exact am_nx.no _; done)
    | (split; exact am_c1_nx (am_c1_nx (hK _ _ _ _)); exact am_nx.no _; done)
    | (split; exact (pR_nx fun _ _ => am_r8_nx (am_kd_nx (hK _ _ _ _))); exact (am_call_nx hc fun _ _ => hK _ _ _ _); done)
    | (split; exact (pI_nx fun _ _ => pI_nx fun _ _ => pR_nx fun _ _ => pI_nx fun _ _ => pR_nx fun _ _ => am_r8_nx (am_kd_nx (am_kd_nx (am_cb_nx (am_let_nx (Nat.le_refl _) fun _ => hK _ _ _ _))))); exact (am_call_nx hc fun _ _ => hK _ _ _ _); done)
    | (refine pR_nx fun _ _ => pR_nx fun _ _ => am_wd_nx (am_wd_nx ?_); split <;> exact ite_nx (hK _ _ _ _) (hK _ _ _ _))
    | (split; exact am_nar_nx (am_nx.so _ _); exact am_nx.no _; done)
    | (split; exact am_nx.so _ _; exact am_nx.no _; done)
theorem am_fitA_nx {as : List Value} {n k : Nat} {a : Option Res} (h : am_nx n a) : am_nx n (am_fitA as k a) := by
  unfold am_fitA; split
  · exact h
  · exact am_nx.no _
theorem am_run_nx (P : Nat → MC) : ∀ (n d m pc : Nat) (lv : LV) (st : List Value) (h : AH), am_nx (hNX h) (am_run P n d m pc lv st h)
  | 0, d, m, pc, lv, st, h => am_nx.no _
  | n + 1, d, m, pc, lv, st, h => by
    unfold am_run
    split
    · exact am_nx.no _
    · refine stp_nx (fun m1 as h1 => ?_) (fun pc1 lv1 st1 h1 => am_run_nx P n _ _ _ _ _ _) _ _ _ _
      cases d with
      | zero => exact am_nx.no _
      | succ d => exact am_fitA_nx (am_run_nx P n _ _ _ _ _ _)
