/-! Runs: more fuel answers the same; the answer of a run without fuel; stretches of code. -/
def am_le (a b : Option Res) : Prop := ∀ r, a = some r → b = some r
theorem am_le.rf (a : Option Res) : am_le a a := fun _ h => h
theorem am_le.no (a : Option Res) : am_le none a := fun _ h => by cases h
theorem pI_mono {st : List Value} {f g : Int32 → List Value → Option Res} (h : ∀ x r, am_le (f x r) (g x r)) : am_le (pI st f) (pI st g) := by
  unfold pI am_id; split
  · exact h _ _
  · exact am_le.no _
theorem pJ_mono {st : List Value} {f g : Int64 → List Value → Option Res} (h : ∀ x r, am_le (f x r) (g x r)) : am_le (pJ st f) (pJ st g) := by
  unfold pJ am_id; split
  · exact h _ _
  · exact am_le.no _
theorem bR_mono {o : Option Nat} {f g : Nat → Option Res} (h : ∀ x, am_le (f x) (g x)) : am_le (bR o f) (bR o g) := by
  unfold bR; split
  · exact h _
  · exact am_le.no _
theorem pR_mono {st : List Value} {f g : Nat → List Value → Option Res} (h : ∀ x r, am_le (f x r) (g x r)) : am_le (pR st f) (pR st g) := by
  unfold pR am_id; split
  · exact h _ _
  · exact am_le.no _
theorem ite_mono {c : Prop} [Decidable c] {a b a1 b1 : Option Res} (h : am_le a a1) (h2 : am_le b b1) : am_le (if c then a else b) (if c then a1 else b1) := by
  split
  · exact h
  · exact h2
theorem am_c1_mono {v : Value} {a b : Option Res} (h : am_le a b) : am_le (am_c1 v a) (am_c1 v b) := by
  unfold am_c1 am_id; split
  · exact am_le.no _
  · exact am_le.no _
  · exact h
theorem am_stN_mono : ∀ (lv : LV) (i : Nat) (v : Option Value) {f g : LV → Option Res} (_ : ∀ l, am_le (f l) (g l)), am_le (am_stN lv i v f) (am_stN lv i v g)
  | [], _, _, _, _, _ => am_le.no _
  | _ :: t, 0, v, _, _, h => h _
  | x :: t, i + 1, v, _, _, h => am_stN_mono t i v fun _ => h _
theorem am_st1_mono : ∀ (lv : LV) (i : Nat) (v : Option Value) {f g : LV → Option Res} (_ : ∀ l, am_le (f l) (g l)), am_le (am_st1 lv i v f) (am_st1 lv i v g)
  | [], _, _, _, _, _ => am_le.no _
  | _ :: t, 0, v, _, _, h => h _
  | _ :: [], _ + 1, _, _, _, _ => am_le.no _
  | x :: y :: t, 1, v, _, _, h => by
    unfold am_st1; split <;> first | exact h _ | exact am_le.no _
  | x :: y :: t, i + 2, v, _, _, h => am_st1_mono (y :: t) (i + 1) v fun _ => h _
theorem am_wd_mono {v : Nat} {a b : Option Res} (h : am_le a b) : am_le (am_wd v a) (am_wd v b) := ite_mono h (am_le.no _)
theorem am_r8_mono {v : List Value} {a b : Option Res} (h : am_le a b) : am_le (am_r8 v a) (am_r8 v b) := by
  unfold am_r8 am_id; split
  · exact h
  · exact am_le.no _
theorem am_dz_mono {v : Int32} {a b : Option Res} (h : am_le a b) : am_le (am_dz v a) (am_dz v b) := ite_mono (am_le.no _) h
theorem am_dzJ_mono {v : Int64} {a b : Option Res} (h : am_le a b) : am_le (am_dzJ v a) (am_dzJ v b) := ite_mono (am_le.no _) h
theorem am_nw_mono {v : Int32} {a b : Option Res} (h : am_le a b) : am_le (am_nw v a) (am_nw v b) := ite_mono (am_le.no _) h
theorem am_cb_mono {hh : AH} {src dst : Nat} {sp dp n : Int32} {a b : Option Res} (h : am_le a b) : am_le (am_cb hh src sp dst dp n a) (am_cb hh src sp dst dp n b) := ite_mono (am_le.no _) h
theorem ldI_mono {lv : LV} {i : Nat} {f g : Int32 → Option Res} (h : ∀ x, am_le (f x) (g x)) : am_le (ldI lv i f) (ldI lv i g) := by
  unfold ldI am_id; split
  · exact h _
  · exact am_le.no _
theorem ldJ_mono {lv : LV} {i : Nat} {f g : Int64 → Option Res} (h : ∀ x, am_le (f x) (g x)) : am_le (ldJ lv i f) (ldJ lv i g) := by
  unfold ldJ am_id; split
  · exact h _
  · exact am_le.no _
theorem ldA_mono {lv : LV} {i : Nat} {f g : Nat → Option Res} (h : ∀ x, am_le (f x) (g x)) : am_le (ldA lv i f) (ldA lv i g) := by
  unfold ldA am_id; split
  · exact h _
  · exact am_le.no _
theorem bV_mono {o o1 : Option Res} {f g : AH → Option Res} (ho : am_le o o1) (h : ∀ x, am_le (f x) (g x)) : am_le (bV o f) (bV o1 g) := by
  intro r hr
  unfold bV at hr ⊢
  split at hr
  · rw [ho _ rfl]; exact h _ _ hr
  · cases hr
theorem bI_mono {o o1 : Option Res} {f g : Int32 → AH → Option Res} (ho : am_le o o1) (h : ∀ v x, am_le (f v x) (g v x)) : am_le (bI o f) (bI o1 g) := by
  intro r hr
  unfold bI at hr ⊢
  split at hr
  · rw [ho _ rfl]; exact h _ _ _ hr
  · cases hr
theorem bJ_mono {o o1 : Option Res} {f g : Int64 → AH → Option Res} (ho : am_le o o1) (h : ∀ v x, am_le (f v x) (g v x)) : am_le (bJ o f) (bJ o1 g) := by
  intro r hr
  unfold bJ at hr ⊢
  split at hr
  · rw [ho _ rfl]; exact h _ _ _ hr
  · cases hr
theorem bX_mono {o o1 : Option Res} {f g : Int32 → AH → Option Res} {f2 g2 : AH → Option Res} (ho : am_le o o1) (h : ∀ v x, am_le (f v x) (g v x)) (h2 : ∀ x, am_le (f2 x) (g2 x)) : am_le (bX o f f2) (bX o1 g g2) := by
  intro r hr
  unfold bX at hr ⊢
  split at hr
  · rw [ho _ rfl]; exact h _ _ _ hr
  · rw [ho _ rfl]; exact h2 _ _ hr
  · cases hr
theorem bA_mono {o o1 : Option Res} {f g : Nat → AH → Option Res} (ho : am_le o o1) (h : ∀ v x, am_le (f v x) (g v x)) : am_le (bA o f) (bA o1 g) := by
  intro r hr
  unfold bA at hr ⊢
  split at hr
  · rw [ho _ rfl]; exact h _ _ _ hr
  · cases hr
theorem am_if_mono {c : Jvm.ClassFile.Cond} {x : Int32} {a b a1 b1 : Option Res} (h : am_le a a1) (h2 : am_le b b1) : am_le (am_if c x a b) (am_if c x a1 b1) := by
  cases c <;> exact ite_mono (by assumption) (by assumption)
theorem am_icmp_mono {c : Jvm.ClassFile.Cond} {x y : Int32} {a b a1 b1 : Option Res} (h : am_le a a1) (h2 : am_le b b1) : am_le (am_icmp c x y a b) (am_icmp c x y a1 b1) := by
  cases c <;> exact ite_mono (by assumption) (by assumption)
theorem am_sw_mono {x : Int} {f g : Nat → Option Res} {d d1 : Option Res} (h : ∀ t, am_le (f t) (g t)) (h2 : am_le d d1) : ∀ (ts : List Nat) (lo : Int), am_le (am_sw x lo ts f d) (am_sw x lo ts g d1)
  | [], _ => h2
  | t :: ts, lo => ite_mono (h t) (am_sw_mono h h2 ts (lo + 1))
theorem am_in_mono {i : Int32} {n : Nat} {a b : Option Res} (h : am_le a b) : am_le (am_in i n a) (am_in i n b) := ite_mono (am_le.no _) h
theorem am_kd_mono {hh : AH} {a k : Nat} {x y : Option Res} (h : am_le x y) : am_le (am_kd hh a k x) (am_kd hh a k y) := ite_mono h (am_le.no _)
theorem am_nar_mono {t : Nat} {v : Int32} {x y : Option Res} (h : am_le x y) : am_le (am_nar t v x) (am_nar t v y) := by
  unfold am_nar; split
  · exact ite_mono h (am_le.no _)
  · exact ite_mono (am_le.no _) h
  · exact h
theorem am_get_mono {hh : AH} {t k a : Nat} {f g : Value → Option Res} (h : ∀ v, am_le (f v) (g v)) : am_le (am_get hh t k a f) (am_get hh t k a g) := by
  unfold am_get; split
  · exact h _
  · exact bR_mono fun _ => h _
  · exact h _
  · exact h _
theorem am_let_mono {x : AH} {f g : AH → Option Res} (h : ∀ y, am_le (f y) (g y)) : am_le (am_let x f) (am_let x g) := h x
theorem am_put_mono {hh : AH} {t k kd : Nat} {st : List Value} {f g : List Value → AH → Option Res} (h : ∀ r x, am_le (f r x) (g r x)) : am_le (am_put hh t k kd st f) (am_put hh t k kd st g) := by
  unfold am_put; split
  · exact pJ_mono fun _ _ => pR_mono fun _ _ => am_kd_mono (am_let_mono fun _ => h _ _)
  · exact pR_mono fun _ _ => pR_mono fun _ _ => am_kd_mono (am_let_mono fun _ => h _ _)
  · exact pR_mono fun _ _ => pR_mono fun _ _ => am_kd_mono (am_let_mono fun _ => h _ _)
  · exact pI_mono fun _ _ => pR_mono fun _ _ => am_kd_mono (am_nar_mono (am_let_mono fun _ => h _ _))
theorem am_call_mono {call call1 : Nat → List Value → AH → Option Res} {x : Nat} {v : Bool} {st : List Value} {hh : AH} {f g : List Value → AH → Option Res} (hc : ∀ m as h, am_le (call m as h) (call1 m as h)) (h : ∀ r x, am_le (f r x) (g r x)) : am_le (am_call call x v st hh f) (am_call call1 x v st hh g) := by
  unfold am_call
  split
  · exact am_le.no _
  · rename_i as r _
    have go : am_le (match x % 8 with
      | 0 => bV (call (x / 16384) as hh) fun h1 => f r h1
      | 1 => bI (call (x / 16384) as hh) fun v h1 => f (.int v :: r) h1
      | 2 => bJ (call (x / 16384) as hh) fun v h1 => f (.long v :: r) h1
      | 3 => bA (call (x / 16384) as hh) fun v h1 => f (.ref v :: r) h1
      | _ => none) (match x % 8 with
      | 0 => bV (call1 (x / 16384) as hh) fun h1 => g r h1
      | 1 => bI (call1 (x / 16384) as hh) fun v h1 => g (.int v :: r) h1
      | 2 => bJ (call1 (x / 16384) as hh) fun v h1 => g (.long v :: r) h1
      | 3 => bA (call1 (x / 16384) as hh) fun v h1 => g (.ref v :: r) h1
      | _ => none) := by
      split
      · exact bV_mono (hc _ _ _) fun _ => h _ _
      · exact bI_mono (hc _ _ _) fun _ _ => h _ _
      · exact bJ_mono (hc _ _ _) fun _ _ => h _ _
      · exact bA_mono (hc _ _ _) fun _ _ => h _ _
      · exact am_le.no _
    dsimp only
    refine am_r8_mono ?_
    split
    · split
      · exact am_kd_mono go
      · exact am_le.no _
    · exact go
theorem am_callX_mono {call call1 : Nat → List Value → AH → Option Res} {x : Nat} {st : List Value} {hh : AH} {f g f2 g2 : List Value → AH → Option Res} (hc : ∀ m as h, am_le (call m as h) (call1 m as h)) (h : ∀ r x, am_le (f r x) (g r x)) (h2 : ∀ r x, am_le (f2 r x) (g2 r x)) : am_le (am_callX call x st hh f f2) (am_callX call1 x st hh g g2) := by
  unfold am_callX
  split
  · exact am_le.no _
  · split
    · exact am_r8_mono <| am_kd_mono (bX_mono (hc _ _ _) (fun _ _ => h _ _) (fun _ => am_let_mono fun _ => h2 _ _))
    · exact am_le.no _
theorem stp_mono {call call1 : Nat → List Value → AH → Option Res} {K K1 : Nat → LV → List Value → AH → Option Res} (hc : ∀ m as h, am_le (call m as h) (call1 m as h)) (hK : ∀ pc lv st h, am_le (K pc lv st h) (K1 pc lv st h)) (e : CE) (lv : LV) (st : List Value) (h : AH) : am_le (stp call K e lv st h) (stp call1 K1 e lv st h) := by
  obtain ⟨pc, len, x, i⟩ := e
  cases i <;> dsimp only [stp]
  all_goals with_reducible first
    | exact am_le.rf _
    | exact hK _ _ _ _
    | exact ldA_mono fun _ => hK _ _ _ _
    | exact ldI_mono fun _ => hK _ _ _ _
    | exact ldJ_mono fun _ => hK _ _ _ _
    | exact ldI_mono fun _ => am_st1_mono _ _ _ fun _ => hK _ _ _ _
    | exact pR_mono fun _ _ => am_st1_mono _ _ _ fun _ => hK _ _ _ _
    | exact pI_mono fun _ _ => am_st1_mono _ _ _ fun _ => hK _ _ _ _
    | exact pJ_mono fun _ _ => am_st1_mono _ _ _ fun _ => am_stN_mono _ _ _ fun _ => hK _ _ _ _
    | exact pI_mono fun _ _ => hK _ _ _ _
    | exact pJ_mono fun _ _ => hK _ _ _ _
    | exact pI_mono fun _ _ => pI_mono fun _ _ => hK _ _ _ _
    | exact pI_mono fun _ _ => pJ_mono fun _ _ => hK _ _ _ _
    | exact pJ_mono fun _ _ => pJ_mono fun _ _ => hK _ _ _ _
    | exact pI_mono fun _ _ => pI_mono fun _ _ => am_dz_mono (hK _ _ _ _)
    | exact pJ_mono fun _ _ => pJ_mono fun _ _ => am_dzJ_mono (hK _ _ _ _)
    | exact pI_mono fun _ _ => am_if_mono (hK _ _ _ _) (hK _ _ _ _)
    | exact pI_mono fun _ _ => pI_mono fun _ _ => am_icmp_mono (hK _ _ _ _) (hK _ _ _ _)
    | exact pR_mono fun _ _ => ite_mono (hK _ _ _ _) (hK _ _ _ _)
    | exact pI_mono fun _ _ => am_sw_mono (fun _ => hK _ _ _ _) (hK _ _ _ _) _ _
    | exact pR_mono fun _ _ => am_kd_mono (am_get_mono fun _ => hK _ _ _ _)
    | exact am_put_mono fun _ _ => hK _ _ _ _
    | exact pI_mono fun _ _ => pR_mono fun _ _ => am_kd_mono (am_in_mono (hK _ _ _ _))
    | exact pI_mono fun _ _ => pR_mono fun _ _ => am_kd_mono (am_in_mono (bR_mono fun _ => hK _ _ _ _))
    | exact pI_mono fun _ _ => pI_mono fun _ _ => pR_mono fun _ _ => am_kd_mono (am_in_mono (am_let_mono fun _ => hK _ _ _ _))
    | exact pI_mono fun _ _ => pI_mono fun _ _ => pR_mono fun _ _ => am_kd_mono (am_in_mono (am_nar_mono (am_let_mono fun _ => hK _ _ _ _)))
    | exact pJ_mono fun _ _ => pI_mono fun _ _ => pR_mono fun _ _ => am_kd_mono (am_in_mono (am_let_mono fun _ => hK _ _ _ _))
    | exact pR_mono fun _ _ => pI_mono fun _ _ => pR_mono fun _ _ => am_kd_mono (am_kd_mono (am_in_mono (am_let_mono fun _ => hK _ _ _ _)))
    | exact pR_mono fun _ _ => am_kd_mono (hK _ _ _ _)
    | exact pI_mono fun _ _ => am_nw_mono (am_let_mono fun _ => hK _ _ _ _)
    | exact am_call_mono hc fun _ _ => hK _ _ _ _
    | (split; exact (am_callX_mono hc (fun _ _ => hK _ _ _ _) (fun _ _ => hK _ _ _ _)); exact (am_call_mono hc fun _ _ => hK _ _ _ _); done)
    | (split; exact am_le.rf _; exact am_let_mono fun _ => hK _ _ _ _; done)
    | (split; exact am_c1_mono (hK _ _ _ _); exact am_le.no _; done)
    | (split; exact am_c1_mono (am_c1_mono (hK _ _ _ _)); exact am_le.no _; done)
    | (split; exact (pR_mono fun _ _ => am_r8_mono (am_kd_mono (hK _ _ _ _))); exact (am_call_mono hc fun _ _ => hK _ _ _ _); done)
    | (split; exact (pI_mono fun _ _ => pI_mono fun _ _ => pR_mono fun _ _ => pI_mono fun _ _ => pR_mono fun _ _ => am_r8_mono (am_kd_mono (am_kd_mono (am_cb_mono (am_let_mono fun _ => hK _ _ _ _))))); exact (am_call_mono hc fun _ _ => hK _ _ _ _); done)
    | (refine pR_mono fun _ _ => pR_mono fun _ _ => am_wd_mono (am_wd_mono ?_); split <;> exact ite_mono (hK _ _ _ _) (hK _ _ _ _))
theorem am_fitA_mono {as : List Value} {n : Nat} {a b : Option Res} (h : am_le a b) : am_le (am_fitA as n a) (am_fitA as n b) := by
  unfold am_fitA; split
  · exact h
  · exact am_le.no _
theorem am_run_mono1 (P : Nat → MC) : ∀ (n d m pc : Nat) (lv : LV) (st : List Value) (h : AH), am_le (am_run P n d m pc lv st h) (am_run P (n + 1) d m pc lv st h)
  | 0, d, m, pc, lv, st, h => am_le.no _
  | n + 1, d, m, pc, lv, st, h => by
    unfold am_run
    split
    · exact am_le.no _
    · refine stp_mono (fun m1 as h1 => ?_) (fun pc1 lv1 st1 h1 => am_run_mono1 P n _ _ _ _ _ _) _ _ _ _
      cases d with
      | zero => exact am_le.no _
      | succ d => exact am_fitA_mono (am_run_mono1 P n _ _ _ _ _ _)
theorem am_run_mono (P : Nat → MC) {n k : Nat} (hnk : n ≤ k) (d m pc : Nat) (lv : LV) (st : List Value) (h : AH) : am_le (am_run P n d m pc lv st h) (am_run P k d m pc lv st h) := by
  induction hnk with
  | refl => exact am_le.rf _
  | step _ ih => exact fun r hr => am_run_mono1 P _ _ _ _ _ _ _ _ (ih r hr)
/-- the answer of a run, however long it is -/
noncomputable def am_R (P : Nat → MC) (d m pc : Nat) (lv : LV) (st : List Value) (h : AH) : Option Res := by
  classical exact if hh : ∃ r n, am_run P n d m pc lv st h = some r then some hh.choose else none
theorem am_R_iff (P : Nat → MC) (d m pc : Nat) (lv : LV) (st : List Value) (h : AH) (r : Res) : am_R P d m pc lv st h = some r ↔ ∃ n, am_run P n d m pc lv st h = some r := by
  unfold am_R
  constructor
  · intro hr
    split at hr
    · rename_i hh
      cases hr
      exact hh.choose_spec
    · cases hr
  · intro ⟨n, hn⟩
    have hh : ∃ r n, am_run P n d m pc lv st h = some r := ⟨r, n, hn⟩
    rw [dif_pos hh]
    obtain ⟨k, hk⟩ := hh.choose_spec
    have h1 := am_run_mono P (Nat.le_max_left n k) d m pc lv st h _ hn
    have h2 := am_run_mono P (Nat.le_max_right n k) d m pc lv st h _ hk
    exact h2.symm.trans h1

/-- what answers at last answers from some number on -/
def am_ct (a : Option Res) (b : Nat → Option Res) : Prop := ∀ r, a = some r → ∃ n, b n = some r
def am_mn (b : Nat → Option Res) : Prop := ∀ n k, n ≤ k → am_le (b n) (b k)
theorem am_ct.no (b : Nat → Option Res) : am_ct none b := fun _ h => by cases h
theorem am_ct.rf (a : Option Res) : am_ct a (fun _ => a) := fun _ h => ⟨0, h⟩
theorem ite_ct {c : Prop} [Decidable c] {a b : Option Res} {a1 b1 : Nat → Option Res} (h : am_ct a a1) (h2 : am_ct b b1) : am_ct (if c then a else b) (fun n => if c then a1 n else b1 n) := by
  by_cases hc : c
  · simp only [if_pos hc]; exact h
  · simp only [if_neg hc]; exact h2
theorem pI_ct {st : List Value} {f : Int32 → List Value → Option Res} {g : Nat → Int32 → List Value → Option Res} (h : ∀ x r, am_ct (f x r) (fun n => g n x r)) : am_ct (pI st f) (fun n => pI st (g n)) := by
  unfold pI am_id; split
  · exact h _ _
  · exact am_ct.no _
theorem pJ_ct {st : List Value} {f : Int64 → List Value → Option Res} {g : Nat → Int64 → List Value → Option Res} (h : ∀ x r, am_ct (f x r) (fun n => g n x r)) : am_ct (pJ st f) (fun n => pJ st (g n)) := by
  unfold pJ am_id; split
  · exact h _ _
  · exact am_ct.no _
theorem bR_ct {o : Option Nat} {f : Nat → Option Res} {g : Nat → Nat → Option Res} (h : ∀ x, am_ct (f x) (fun n => g n x)) : am_ct (bR o f) (fun n => bR o (g n)) := by
  unfold bR; split
  · exact h _
  · exact am_ct.no _
theorem pR_ct {st : List Value} {f : Nat → List Value → Option Res} {g : Nat → Nat → List Value → Option Res} (h : ∀ x r, am_ct (f x r) (fun n => g n x r)) : am_ct (pR st f) (fun n => pR st (g n)) := by
  unfold pR am_id; split
  · exact h _ _
  · exact am_ct.no _
theorem am_c1_ct {v : Value} {a : Option Res} {b : Nat → Option Res} (h : am_ct a b) : am_ct (am_c1 v a) (fun n => am_c1 v (b n)) := by
  cases v <;> first | exact am_ct.no _ | exact h
theorem am_stN_ct : ∀ (lv : LV) (i : Nat) (v : Option Value) {f : LV → Option Res} {g : Nat → LV → Option Res} (_ : ∀ l, am_ct (f l) (fun n => g n l)), am_ct (am_stN lv i v f) (fun n => am_stN lv i v (g n))
  | [], _, _, _, _, _ => am_ct.no _
  | _ :: t, 0, v, _, _, h => h _
  | x :: t, i + 1, v, _, g, h => am_stN_ct t i v (g := fun n t1 => g n (x :: t1)) fun _ => h _
theorem am_st1_ct : ∀ (lv : LV) (i : Nat) (v : Option Value) {f : LV → Option Res} {g : Nat → LV → Option Res} (_ : ∀ l, am_ct (f l) (fun n => g n l)), am_ct (am_st1 lv i v f) (fun n => am_st1 lv i v (g n))
  | [], _, _, _, _, _ => am_ct.no _
  | _ :: t, 0, v, _, _, h => h _
  | _ :: [], _ + 1, _, _, _, _ => am_ct.no _
  | x :: y :: t, 1, v, _, _, h => by
    rcases x with _ | x
    · exact h _
    · cases x <;> first | exact h _ | exact am_ct.no _
  | x :: y :: t, i + 2, v, _, g, h => am_st1_ct (y :: t) (i + 1) v (g := fun n t1 => g n (x :: t1)) fun _ => h _
theorem am_wd_ct {v : Nat} {a : Option Res} {b : Nat → Option Res} (h : am_ct a b) : am_ct (am_wd v a) (fun n => am_wd v (b n)) := ite_ct h (am_ct.no _)
theorem am_r8_ct {v : List Value} {a : Option Res} {b : Nat → Option Res} (h : am_ct a b) : am_ct (am_r8 v a) (fun n => am_r8 v (b n)) := by
  unfold am_r8 am_id
  cases Nat.ble (am_cat v) 8
  · exact am_ct.no _
  · exact h
theorem am_dz_ct {v : Int32} {a : Option Res} {b : Nat → Option Res} (h : am_ct a b) : am_ct (am_dz v a) (fun n => am_dz v (b n)) := ite_ct (am_ct.no _) h
theorem am_dzJ_ct {v : Int64} {a : Option Res} {b : Nat → Option Res} (h : am_ct a b) : am_ct (am_dzJ v a) (fun n => am_dzJ v (b n)) := ite_ct (am_ct.no _) h
theorem am_nw_ct {v : Int32} {a : Option Res} {b : Nat → Option Res} (h : am_ct a b) : am_ct (am_nw v a) (fun n => am_nw v (b n)) := ite_ct (am_ct.no _) h
theorem am_cb_ct {hh : AH} {src dst : Nat} {sp dp m : Int32} {a : Option Res} {b : Nat → Option Res} (h : am_ct a b) : am_ct (am_cb hh src sp dst dp m a) (fun n => am_cb hh src sp dst dp m (b n)) := ite_ct (am_ct.no _) h
theorem ldI_ct {lv : LV} {i : Nat} {f : Int32 → Option Res} {g : Nat → Int32 → Option Res} (h : ∀ x, am_ct (f x) (fun n => g n x)) : am_ct (ldI lv i f) (fun n => ldI lv i (g n)) := by
  unfold ldI am_id; split
  · exact h _
  · exact am_ct.no _
theorem ldJ_ct {lv : LV} {i : Nat} {f : Int64 → Option Res} {g : Nat → Int64 → Option Res} (h : ∀ x, am_ct (f x) (fun n => g n x)) : am_ct (ldJ lv i f) (fun n => ldJ lv i (g n)) := by
  unfold ldJ am_id; split
  · exact h _
  · exact am_ct.no _
theorem ldA_ct {lv : LV} {i : Nat} {f : Nat → Option Res} {g : Nat → Nat → Option Res} (h : ∀ x, am_ct (f x) (fun n => g n x)) : am_ct (ldA lv i f) (fun n => ldA lv i (g n)) := by
  unfold ldA am_id; split
  · exact h _
  · exact am_ct.no _
theorem bV_ct {o : Option Res} {o1 : Nat → Option Res} {f : AH → Option Res} {g : Nat → AH → Option Res} (ho : am_ct o o1) (mo : am_mn o1) (h : ∀ x, am_ct (f x) (fun n => g n x)) (mg : ∀ x, am_mn (fun n => g n x)) : am_ct (bV o f) (fun n => bV (o1 n) (g n)) := by
  intro r hr
  unfold bV at hr
  split at hr
  · obtain ⟨n, hn⟩ := ho _ rfl
    obtain ⟨k, hk⟩ := h _ _ hr
    refine ⟨max n k, ?_⟩
    simp only [bV, mo _ _ (Nat.le_max_left n k) _ hn]
    exact mg _ _ _ (Nat.le_max_right n k) _ hk
  · cases hr
theorem bI_ct {o : Option Res} {o1 : Nat → Option Res} {f : Int32 → AH → Option Res} {g : Nat → Int32 → AH → Option Res} (ho : am_ct o o1) (mo : am_mn o1) (h : ∀ v x, am_ct (f v x) (fun n => g n v x)) (mg : ∀ v x, am_mn (fun n => g n v x)) : am_ct (bI o f) (fun n => bI (o1 n) (g n)) := by
  intro r hr
  unfold bI at hr
  split at hr
  · obtain ⟨n, hn⟩ := ho _ rfl
    obtain ⟨k, hk⟩ := h _ _ _ hr
    refine ⟨max n k, ?_⟩
    simp only [bI, mo _ _ (Nat.le_max_left n k) _ hn]
    exact mg _ _ _ _ (Nat.le_max_right n k) _ hk
  · cases hr
theorem bJ_ct {o : Option Res} {o1 : Nat → Option Res} {f : Int64 → AH → Option Res} {g : Nat → Int64 → AH → Option Res} (ho : am_ct o o1) (mo : am_mn o1) (h : ∀ v x, am_ct (f v x) (fun n => g n v x)) (mg : ∀ v x, am_mn (fun n => g n v x)) : am_ct (bJ o f) (fun n => bJ (o1 n) (g n)) := by
  intro r hr
  unfold bJ at hr
  split at hr
  · obtain ⟨n, hn⟩ := ho _ rfl
    obtain ⟨k, hk⟩ := h _ _ _ hr
    refine ⟨max n k, ?_⟩
    simp only [bJ, mo _ _ (Nat.le_max_left n k) _ hn]
    exact mg _ _ _ _ (Nat.le_max_right n k) _ hk
  · cases hr
theorem bX_ct {o : Option Res} {o1 : Nat → Option Res} {f : Int32 → AH → Option Res} {g : Nat → Int32 → AH → Option Res} {f2 : AH → Option Res} {g2 : Nat → AH → Option Res} (ho : am_ct o o1) (mo : am_mn o1) (h : ∀ v x, am_ct (f v x) (fun n => g n v x)) (mg : ∀ v x, am_mn (fun n => g n v x)) (h2 : ∀ x, am_ct (f2 x) (fun n => g2 n x)) (mg2 : ∀ x, am_mn (fun n => g2 n x)) : am_ct (bX o f f2) (fun n => bX (o1 n) (g n) (g2 n)) := by
  intro r hr
  unfold bX at hr
  split at hr
  · obtain ⟨n, hn⟩ := ho _ rfl
    obtain ⟨k, hk⟩ := h _ _ _ hr
    refine ⟨max n k, ?_⟩
    simp only [bX, mo _ _ (Nat.le_max_left n k) _ hn]
    exact mg _ _ _ _ (Nat.le_max_right n k) _ hk
  · obtain ⟨n, hn⟩ := ho _ rfl
    obtain ⟨k, hk⟩ := h2 _ _ hr
    refine ⟨max n k, ?_⟩
    simp only [bX, mo _ _ (Nat.le_max_left n k) _ hn]
    exact mg2 _ _ _ (Nat.le_max_right n k) _ hk
  · cases hr
theorem bA_ct {o : Option Res} {o1 : Nat → Option Res} {f : Nat → AH → Option Res} {g : Nat → Nat → AH → Option Res} (ho : am_ct o o1) (mo : am_mn o1) (h : ∀ v x, am_ct (f v x) (fun n => g n v x)) (mg : ∀ v x, am_mn (fun n => g n v x)) : am_ct (bA o f) (fun n => bA (o1 n) (g n)) := by
  intro r hr
  unfold bA at hr
  split at hr
  · obtain ⟨n, hn⟩ := ho _ rfl
    obtain ⟨k, hk⟩ := h _ _ _ hr
    refine ⟨max n k, ?_⟩
    simp only [bA, mo _ _ (Nat.le_max_left n k) _ hn]
    exact mg _ _ _ _ (Nat.le_max_right n k) _ hk
  · cases hr
theorem am_if_ct {c : Jvm.ClassFile.Cond} {x : Int32} {a b : Option Res} {a1 b1 : Nat → Option Res} (h : am_ct a a1) (h2 : am_ct b b1) : am_ct (am_if c x a b) (fun n => am_if c x (a1 n) (b1 n)) := by
  cases c <;> exact ite_ct (by assumption) (by assumption)
theorem am_icmp_ct {c : Jvm.ClassFile.Cond} {x y : Int32} {a b : Option Res} {a1 b1 : Nat → Option Res} (h : am_ct a a1) (h2 : am_ct b b1) : am_ct (am_icmp c x y a b) (fun n => am_icmp c x y (a1 n) (b1 n)) := by
  cases c <;> exact ite_ct (by assumption) (by assumption)
theorem am_sw_ct {x : Int} {f : Nat → Option Res} {g : Nat → Nat → Option Res} {d : Option Res} {d1 : Nat → Option Res} (h : ∀ t, am_ct (f t) (fun n => g n t)) (h2 : am_ct d d1) : ∀ (ts : List Nat) (lo : Int), am_ct (am_sw x lo ts f d) (fun n => am_sw x lo ts (g n) (d1 n))
  | [], _ => h2
  | t :: ts, lo => ite_ct (h t) (am_sw_ct h h2 ts (lo + 1))
theorem am_in_ct {i : Int32} {n : Nat} {a : Option Res} {b : Nat → Option Res} (h : am_ct a b) : am_ct (am_in i n a) (fun k => am_in i n (b k)) := ite_ct (am_ct.no _) h
theorem am_kd_ct {hh : AH} {a k : Nat} {x : Option Res} {y : Nat → Option Res} (h : am_ct x y) : am_ct (am_kd hh a k x) (fun n => am_kd hh a k (y n)) := ite_ct h (am_ct.no _)
theorem am_nar_ct {t : Nat} {v : Int32} {x : Option Res} {y : Nat → Option Res} (h : am_ct x y) : am_ct (am_nar t v x) (fun n => am_nar t v (y n)) := by
  unfold am_nar; split
  · exact ite_ct h (am_ct.no _)
  · exact ite_ct (am_ct.no _) h
  · exact h
theorem am_get_ct {hh : AH} {t k a : Nat} {f : Value → Option Res} {g : Nat → Value → Option Res} (h : ∀ v, am_ct (f v) (fun n => g n v)) : am_ct (am_get hh t k a f) (fun n => am_get hh t k a (g n)) := by
  unfold am_get; split
  · exact h _
  · exact bR_ct fun _ => h _
  · exact h _
  · exact h _
theorem am_let_ct {x : AH} {f : AH → Option Res} {g : Nat → AH → Option Res} (h : ∀ y, am_ct (f y) (fun n => g n y)) : am_ct (am_let x f) (fun n => am_let x (g n)) := h x
theorem am_put_ct {hh : AH} {t k kd : Nat} {st : List Value} {f : List Value → AH → Option Res} {g : Nat → List Value → AH → Option Res} (h : ∀ r x, am_ct (f r x) (fun n => g n r x)) : am_ct (am_put hh t k kd st f) (fun n => am_put hh t k kd st (g n)) := by
  unfold am_put; split
  · exact pJ_ct fun _ _ => pR_ct fun _ _ => am_kd_ct (am_let_ct fun _ => h _ _)
  · exact pR_ct fun _ _ => pR_ct fun _ _ => am_kd_ct (am_let_ct fun _ => h _ _)
  · exact pR_ct fun _ _ => pR_ct fun _ _ => am_kd_ct (am_let_ct fun _ => h _ _)
  · exact pI_ct fun _ _ => pR_ct fun _ _ => am_kd_ct (am_nar_ct (am_let_ct fun _ => h _ _))
theorem am_call_ct {call : Nat → List Value → AH → Option Res} {call1 : Nat → Nat → List Value → AH → Option Res} {x : Nat} {v : Bool} {st : List Value} {hh : AH} {f : List Value → AH → Option Res} {g : Nat → List Value → AH → Option Res}
    (hc : ∀ m as h, am_ct (call m as h) (fun n => call1 n m as h)) (mc : ∀ m as h, am_mn (fun n => call1 n m as h)) (h : ∀ r x, am_ct (f r x) (fun n => g n r x)) (mg : ∀ r x, am_mn (fun n => g n r x)) : am_ct (am_call call x v st hh f) (fun n => am_call (call1 n) x v st hh (g n)) := by
  unfold am_call
  cases takeA (x / 8 % 32) st [] with
  | none => exact am_ct.no _
  | some q =>
    obtain ⟨as, r⟩ := q
    dsimp only
    have go : am_ct (match x % 8 with
      | 0 => bV (call (x / 16384) as hh) fun h1 => f r h1
      | 1 => bI (call (x / 16384) as hh) fun v h1 => f (.int v :: r) h1
      | 2 => bJ (call (x / 16384) as hh) fun v h1 => f (.long v :: r) h1
      | 3 => bA (call (x / 16384) as hh) fun v h1 => f (.ref v :: r) h1
      | _ => none) (fun n => match x % 8 with
      | 0 => bV (call1 n (x / 16384) as hh) fun h1 => g n r h1
      | 1 => bI (call1 n (x / 16384) as hh) fun v h1 => g n (.int v :: r) h1
      | 2 => bJ (call1 n (x / 16384) as hh) fun v h1 => g n (.long v :: r) h1
      | 3 => bA (call1 n (x / 16384) as hh) fun v h1 => g n (.ref v :: r) h1
      | _ => none) := by
      split
      · exact bV_ct (hc _ _ _) (mc _ _ _) (fun _ => h _ _) (fun _ => mg _ _)
      · exact bI_ct (hc _ _ _) (mc _ _ _) (fun _ _ => h _ _) (fun _ _ => mg _ _)
      · exact bJ_ct (hc _ _ _) (mc _ _ _) (fun _ _ => h _ _) (fun _ _ => mg _ _)
      · exact bA_ct (hc _ _ _) (mc _ _ _) (fun _ _ => h _ _) (fun _ _ => mg _ _)
      · exact am_ct.no _
    cases v with
    | false => exact am_r8_ct go
    | true =>
      cases as with
      | nil => exact am_r8_ct (am_ct.no _)
      | cons a as =>
        cases a with
        | ref q => exact am_r8_ct (am_kd_ct go)
        | _ => exact am_r8_ct (am_ct.no _)
