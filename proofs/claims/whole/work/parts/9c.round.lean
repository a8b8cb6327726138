/-! A round: the search by naturals; bits; what stays over a quiet change. -/
theorem Lk.qt {g h : AH} {p np nc ne nw len n : Nat} {W : Int32 → Int32 → Int32 → Int32 → Int32} (q : Qt g h) (hp4 : p = 4 ∨ p = 30) (s : Lk g g p np nc ne nw len n W) : Lk h h p np nc ne nw len n W := by
  obtain ⟨q1, q2, q3, q4, q5, q6, q7, q8, q9, q10⟩ := q
  exact s.fr q1 (fun k a _ => by rw [q2]) q3 (by omega) (by omega) (fun k hk => q8 _ (by unfold cRow; omega)) (fun k h1 h2 a ha => q9 _ _ (by unfold cFld; omega)) (fun a h1 h2 => q8 _ (by unfold cRow; omega))
theorem Qt.row {g h : AH} (q : Qt g h) {a : Nat} (ha : cRow a) : hAI h a = hAI g a := q.2.2.2.2.2.2.2.1 a ha
theorem Qt.fld {g h : AH} (q : Qt g h) {k a : Nat} (ha : cFld k a) : hFI h k a = hFI g k a := q.2.2.2.2.2.2.2.2.1 k a ha
theorem Qt.sta {g h : AH} (q : Qt g h) {a : Nat} (s : StSh g a) : StSh h a := s.to q.1 q.2.1 q.2.2.1
theorem Qt.cho {g h : AH} (q : Qt g h) (s : ChoSh g) : ChoSh h := s.to q.1 q.2.1 q.2.2.1
theorem Qt.msh {g h : AH} (q : Qt g h) (s : MSh g) : MSh h := s.to q.1 (fun k => by rw [q.2.1]) q.2.2.1
theorem Qt.get62 {g h : AH} (q : Qt g h) : getS h 62 = getS g 62 := getS_fr (q.fld (by unfold cFld; omega)) (fun k h1 h2 => q.row (by unfold cRow; omega))
theorem Qt.aih {g h : AH} (q : Qt g h) (a : Nat) (f : Nat → Int32) (ha : a = 20 ∨ a = 46 ∨ (85 ≤ a ∧ a ≤ 92) ∨ (95 ≤ a ∧ a ≤ 111) ∨ (113 ≤ a ∧ a ≤ 123) ∨ (375 ≤ a ∧ a ≤ 384) ∨ a = 398 ∨ (402 ≤ a ∧ a ≤ 409)) : Qt g (sAI h a f) := q.tr (Qt.ai h a f ha)
theorem Qt.eih {g h : AH} (q : Qt g h) (a j : Nat) (v : Int32) (ha : a = 20 ∨ a = 46 ∨ (85 ≤ a ∧ a ≤ 92) ∨ (95 ≤ a ∧ a ≤ 111) ∨ (113 ≤ a ∧ a ≤ 123) ∨ (375 ≤ a ∧ a ≤ 384) ∨ a = 398 ∨ (402 ≤ a ∧ a ≤ 409)) : Qt g (sEI h a j v) := by
  rw [sEI_e]
  exact q.aih _ _ ha
theorem Qt.fih {g h : AH} (q : Qt g h) (k a : Nat) (v : Int32) (ha : ¬ cFld k a) : Qt g (sFI h k a v) := q.tr (Qt.fi h k a v ha)
/-! bits -/
theorem bx_rm0 : ∀ b0 b1 b2 b3 b4 b5 : Bool, bx b0 b1 b2 b3 b4 b5 &&& (((1 : Int32) <<< (nI 0 &&& 31)) ^^^ (-1)) = bx false b1 b2 b3 b4 b5 := by decide +kernel
theorem bx_rm1 : ∀ b0 b1 b2 b3 b4 b5 : Bool, bx b0 b1 b2 b3 b4 b5 &&& (((1 : Int32) <<< (nI 1 &&& 31)) ^^^ (-1)) = bx b0 false b2 b3 b4 b5 := by decide +kernel
theorem bx_rm2 : ∀ b0 b1 b2 b3 b4 b5 : Bool, bx b0 b1 b2 b3 b4 b5 &&& (((1 : Int32) <<< (nI 2 &&& 31)) ^^^ (-1)) = bx b0 b1 false b3 b4 b5 := by decide +kernel
theorem bx_rm3 : ∀ b0 b1 b2 b3 b4 b5 : Bool, bx b0 b1 b2 b3 b4 b5 &&& (((1 : Int32) <<< (nI 3 &&& 31)) ^^^ (-1)) = bx b0 b1 b2 false b4 b5 := by decide +kernel
theorem bx_rm4 : ∀ b0 b1 b2 b3 b4 b5 : Bool, bx b0 b1 b2 b3 b4 b5 &&& (((1 : Int32) <<< (nI 4 &&& 31)) ^^^ (-1)) = bx b0 b1 b2 b3 false b5 := by decide +kernel
theorem bit_rm (P : Nat → Bool) {j : Nat} (hj : j < 5) : bitN P 6 &&& (((1 : Int32) <<< (nI j &&& 31)) ^^^ (-1)) = bitN (fun k => !decide (k = j) && P k) 6 := by
  rw [bitN_6, bitN_6]
  rcases (show j = 0 ∨ j = 1 ∨ j = 2 ∨ j = 3 ∨ j = 4 by omega) with rfl | rfl | rfl | rfl | rfl
  · rw [bx_rm0]; rfl
  · rw [bx_rm1]; rfl
  · rw [bx_rm2]; rfl
  · rw [bx_rm3]; rfl
  · rw [bx_rm4]; rfl
theorem cntB_rm (P : Nat → Bool) {j : Nat} (hP : P j = true) : ∀ n, j < n → cntB (fun k => !decide (k = j) && P k) n + 1 = cntB P n
  | 0, h => by omega
  | n + 1, h => by
    have h1 : cntB P (n + 1) = cntB P n + (if P n then 1 else 0) := rfl
    have h2 : cntB (fun k => !decide (k = j) && P k) (n + 1) = cntB (fun k => !decide (k = j) && P k) n + (if (!decide (n = j) && P n) then 1 else 0) := rfl
    rw [h1, h2]
    by_cases e : n = j
    · subst e
      have h3 : cntB (fun k => !decide (k = n) && P k) n = cntB P n := by
        have : ∀ m, m ≤ n → cntB (fun k => !decide (k = n) && P k) m = cntB P m := by
          intro m
          induction m with
          | zero => intro _; rfl
          | succ m ih =>
            intro hm
            show cntB (fun k => !decide (k = n) && P k) m + (if (!decide (m = n) && P m) then 1 else 0) = cntB P m + (if P m then 1 else 0)
            rw [ih (by omega), decide_eq_false (by omega), Bool.not_false, Bool.true_and]
        exact this n (Nat.le_refl _)
      rw [h3, hP, decide_eq_true rfl]
      rfl
    · have := cntB_rm P hP n (by omega)
      rw [decide_eq_false e, Bool.not_false, Bool.true_and]
      omega
theorem cntB_0 {P : Nat → Bool} : ∀ n, cntB P n = 0 → ∀ j, j < n → P j = false
  | 0, _, j, hj => by omega
  | n + 1, h, j, hj => by
    have h1 : cntB P (n + 1) = cntB P n + (if P n then 1 else 0) := rfl
    rw [h1] at h
    by_cases e : j = n
    · subst e
      cases c : P j with
      | false => rfl
      | true => rw [c, if_pos rfl] at h; omega
    · exact cntB_0 n (by omega) j (by omega)
theorem cntB_pos {P : Nat → Bool} {j : Nat} (hP : P j = true) : ∀ n, j < n → 0 < cntB P n
  | 0, h => by omega
  | n + 1, h => by
    have h1 : cntB P (n + 1) = cntB P n + (if P n then 1 else 0) := rfl
    rw [h1]
    by_cases e : j = n
    · subst e
      rw [hP, if_pos rfl]
      omega
    · have := cntB_pos hP n (by omega)
      omega
theorem cntB_congr {P P' : Nat → Bool} : ∀ n, (∀ j, j < n → P j = P' j) → cntB P n = cntB P' n
  | 0, _ => rfl
  | n + 1, h => by
    show cntB P n + (if P n then 1 else 0) = cntB P' n + (if P' n then 1 else 0)
    rw [cntB_congr n (fun j hj => h j (by omega)), h n (by omega)]
/-- numbers that may be none: class and reference -/
def oC (x : Option Nat) : Int32 := match x with
  | none => -1
  | some k => nI k
def oM (x : Option Nat) : Int32 := match x with
  | none => 100000
  | some k => nI k
/-- the deadlines: clock i at S i stands still first in R i hours -/
def dlF (S : Nat → Nat) (R : Nat → Option Nat) : Nat → Nat → Option Nat
  | 0, _ => none
  | n + 1, p => if S n = p then (match R n with
    | none => dlF S R n p
    | some h => match dlF S R n p with
      | none => some h
      | some k => some (Nat.min k h)) else dlF S R n p
def isS (x : Option Nat) : Bool := match x with
  | none => false
  | some _ => true
theorem dlF_le {S : Nat → Nat} {R : Nat → Option Nat} {b : Nat} (h : ∀ i k, R i = some k → k ≤ b) : ∀ n p k, dlF S R n p = some k → k ≤ b
  | 0, p, k, e => by cases e
  | n + 1, p, k, e => by
    unfold dlF at e
    split at e
    · cases r : R n with
      | none => rw [r] at e; exact dlF_le h n p k e
      | some x =>
        rw [r] at e
        dsimp only at e
        have hx := h n x r
        cases d : dlF S R n p with
        | none => rw [d] at e; cases e; exact hx
        | some y =>
          rw [d] at e
          cases e
          exact Nat.le_trans (Nat.min_le_right _ _) hx
    · exact dlF_le h n p k e
/-- one place tried -/
def rdP (F : Nat → Nat → Option (Nat × (Nat → Nat)) → Option (Nat × (Nat → Nat))) (ds dl : Nat → Option Nat) (V : Nat → Bool) (t p : Nat) (b : Option (Nat × (Nat → Nat))) : Option (Nat × (Nat → Nat)) :=
  match dl p with
  | none => b
  | some k => match ds p with
    | none => b
    | some s => if V p = false ∧ t + s ≤ k then F p (t + s) b else b
def rdL (t : Nat) (O : Nat → Nat) (b : Option (Nat × (Nat → Nat))) : Option (Nat × (Nat → Nat)) := match b with
  | none => some (t, O)
  | some (u, O2) => if t < u then some (t, O) else some (u, O2)
def rdF (dm : Nat → Nat → Option Nat) (dl : Nat → Option Nat) (np : Nat) : Nat → (Nat → Bool) → (Nat → Nat) → Nat → Nat → Nat → Option (Nat × (Nat → Nat)) → Option (Nat × (Nat → Nat))
  | 0, _, O, _, _, t, b => rdL t O b
  | r + 1, V, O, m, at_, t, b => foldB (rdP (fun p t2 b => rdF dm dl np r (fun k => decide (k = p) || V k) (updN O m p) (m + 1) p t2 b) (dm at_) dl V t) np b
/-- the best as it lies: end, order -/
def rdR (s : Nat) (b : Option (Nat × (Nat → Nat))) (e : Int32) (o : Nat → Int32) : Prop := match b with
  | none => e = -1
  | some (t, O) => e = nI t ∧ t ≤ 240 ∧ ∀ i, i < s → o i = nI (O i)
def rdA (s : Nat) (b : Option (Nat × (Nat → Nat))) (a : Nat) : Int32 := match b with
  | none => -1
  | some (t, O) => if s < a then -1 else if a = 0 then nI t else nI (O (a - 1))
theorem rdP_no {F : Nat → Nat → Option (Nat × (Nat → Nat)) → Option (Nat × (Nat → Nat))} {ds dl : Nat → Option Nat} {V : Nat → Bool} {t p : Nat} {b : Option (Nat × (Nat → Nat))} (h : dl p = none ∨ V p = true ∨ ds p = none ∨ ∃ k s, dl p = some k ∧ ds p = some s ∧ k < t + s) : rdP F ds dl V t p b = b := by
  unfold rdP
  rcases h with h | h | h | ⟨k, s, h1, h2, h3⟩
  · rw [h]
  · cases dl p with
    | none => rfl
    | some k =>
      cases ds p with
      | none => rfl
      | some s =>
        dsimp only
        rw [h, if_neg (fun z => by cases z.1)]
  · rw [h]
    cases dl p <;> rfl
  · rw [h1, h2]
    dsimp only
    rw [if_neg (fun z => by omega)]
theorem rdP_yes {F : Nat → Nat → Option (Nat × (Nat → Nat)) → Option (Nat × (Nat → Nat))} {ds dl : Nat → Option Nat} {V : Nat → Bool} {t p k s : Nat} {b : Option (Nat × (Nat → Nat))} (h1 : dl p = some k) (h2 : ds p = some s) (h3 : V p = false) (h4 : t + s ≤ k) : rdP F ds dl V t p b = F p (t + s) b := by
  unfold rdP
  rw [h1, h2]
  dsimp only
  rw [if_pos ⟨h3, h4⟩]
