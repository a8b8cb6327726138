/-! A clock by naturals; what a few sips more would not change. -/
/-- one hour: thirst v, whether dew falls, whether it leaks, what it holds, whether it shows one more -/
def nst (v : Nat → Nat → Nat) (dew : Nat → Bool) (old : Bool) (ho : Nat) (inc : Nat → Nat) (hr : Nat) (s : Nat × Nat × Bool) : Nat × Nat × Bool :=
  let b := if dew hr = true ∧ s.1 < ho then s.1 + 1 else s.1
  if b < v hr s.2.1 then (if old = true then b - 1 else b, s.2.1, true) else (if old = true then b - v hr s.2.1 - 1 else b - v hr s.2.1, s.2.1 + inc hr, false)
def nrun (v : Nat → Nat → Nat) (dew : Nat → Bool) (old : Bool) (ho : Nat) (inc : Nat → Nat) (hr : Nat) (s : Nat × Nat × Bool) : Nat → Nat × Nat × Bool
  | 0 => s
  | n + 1 => nst v dew old ho inc (hr + n) (nrun v dew old ho inc hr s n)
def nb (dew : Nat → Bool) (ho hr a : Nat) : Nat := if dew hr = true ∧ a < ho then a + 1 else a
/-- how many more it may have -/
def nsp (v : Nat → Nat → Nat) (dew : Nat → Bool) (old : Bool) (ho : Nat) (inc : Nat → Nat) (hr : Nat) (s : Nat × Nat × Bool) : Nat → Nat
  | 0 => 999
  | n + 1 => if nb dew ho (hr + n) (nrun v dew old ho inc hr s n).1 < v (hr + n) (nrun v dew old ho inc hr s n).2.1 then (if v (hr + n) (nrun v dew old ho inc hr s n).2.1 - 1 - nb dew ho (hr + n) (nrun v dew old ho inc hr s n).1 < nsp v dew old ho inc hr s n then v (hr + n) (nrun v dew old ho inc hr s n).2.1 - 1 - nb dew ho (hr + n) (nrun v dew old ho inc hr s n).1 else nsp v dew old ho inc hr s n) else nsp v dew old ho inc hr s n
theorem nsp_le {v : Nat → Nat → Nat} {dew : Nat → Bool} {old : Bool} {ho : Nat} {inc : Nat → Nat} {hr : Nat} {s : Nat × Nat × Bool} : ∀ n, nsp v dew old ho inc hr s n ≤ 999
  | 0 => Nat.le_refl _
  | n + 1 => by
    have := nsp_le (v := v) (dew := dew) (old := old) (ho := ho) (inc := inc) (hr := hr) (s := s) n
    unfold nsp
    split
    · split
      · omega
      · exact this
    · exact this
theorem nst_ho {v : Nat → Nat → Nat} {dew : Nat → Bool} {old : Bool} {ho : Nat} {inc : Nat → Nat} {hr : Nat} {s : Nat × Nat × Bool} (h : s.1 ≤ ho) (hi : ∀ h, inc h ≤ 1) : (nst v dew old ho inc hr s).1 ≤ ho ∧ s.2.1 ≤ (nst v dew old ho inc hr s).2.1 ∧ (nst v dew old ho inc hr s).2.1 ≤ s.2.1 + 1 := by
  have hb : (if dew hr = true ∧ s.1 < ho then s.1 + 1 else s.1) ≤ ho := by
    split
    · omega
    · exact h
  have := hi hr
  unfold nst
  dsimp only
  generalize (if dew hr = true ∧ s.1 < ho then s.1 + 1 else s.1) = b at hb ⊢
  split
  · refine ⟨?_, Nat.le_refl _, Nat.le_succ _⟩
    dsimp only
    split <;> omega
  · refine ⟨?_, by dsimp only; omega, by dsimp only; omega⟩
    dsimp only
    split <;> omega
theorem nrun_ho {v : Nat → Nat → Nat} {dew : Nat → Bool} {old : Bool} {ho : Nat} {inc : Nat → Nat} {hr : Nat} {s : Nat × Nat × Bool} (h : s.1 ≤ ho) (hi : ∀ h, inc h ≤ 1) : ∀ n, (nrun v dew old ho inc hr s n).1 ≤ ho ∧ s.2.1 ≤ (nrun v dew old ho inc hr s n).2.1 ∧ (nrun v dew old ho inc hr s n).2.1 ≤ s.2.1 + n
  | 0 => ⟨h, Nat.le_refl _, Nat.le_refl _⟩
  | n + 1 => by
    obtain ⟨h1, h2, h3⟩ := nrun_ho h hi n
    obtain ⟨g1, g2, g3⟩ := nst_ho (v := v) (dew := dew) (old := old) (hr := hr + n) h1 hi
    exact ⟨g1, Nat.le_trans h2 g2, by show (nst v dew old ho inc (hr + n) (nrun v dew old ho inc hr s n)).2.1 ≤ _; omega⟩
theorem nrun_mono {v : Nat → Nat → Nat} {dew : Nat → Bool} {old : Bool} {ho : Nat} {inc : Nat → Nat} {hr : Nat} {s : Nat × Nat × Bool} (h : s.1 ≤ ho) (hi : ∀ h, inc h ≤ 1) (n : Nat) : ∀ m, (nrun v dew old ho inc hr s n).2.1 ≤ (nrun v dew old ho inc hr s (n + m)).2.1
  | 0 => Nat.le_refl _
  | m + 1 => Nat.le_trans (nrun_mono h hi n m) (nst_ho (nrun_ho h hi (n + m)).1 hi).2.1
/-- in step with a few more -/
def nSim (ho e : Nat) (s t : Nat × Nat × Bool) : Prop := t.2 = s.2 ∧ s.1 ≤ t.1 ∧ t.1 ≤ s.1 + e ∧ t.1 ≤ ho
theorem nst_sim {v : Nat → Nat → Nat} {dew : Nat → Bool} {old : Bool} {ho e : Nat} {inc : Nat → Nat} {hr : Nat} {s t : Nat × Nat × Bool} (h : nSim ho e s t) (hs : nb dew ho hr s.1 < v hr s.2.1 → e ≤ v hr s.2.1 - 1 - nb dew ho hr s.1) : nSim ho e (nst v dew old ho inc hr s) (nst v dew old ho inc hr t) := by
  obtain ⟨h1, h2, h3, h4⟩ := h
  have e1 : t.2.1 = s.2.1 := congrArg Prod.fst h1
  have hb : nb dew ho hr s.1 ≤ nb dew ho hr t.1 ∧ nb dew ho hr t.1 ≤ nb dew ho hr s.1 + e ∧ nb dew ho hr t.1 ≤ ho := by
    unfold nb
    cases dew hr with
    | false => simp only [Bool.false_eq_true, false_and, if_false]; omega
    | true =>
      simp only [true_and]
      split <;> split <;> omega
  unfold nst
  dsimp only
  rw [e1]
  show nSim ho e (if nb dew ho hr s.1 < v hr s.2.1 then _ else _) (if nb dew ho hr t.1 < v hr s.2.1 then _ else _)
  change nSim ho e (if nb dew ho hr s.1 < v hr s.2.1 then (if old = true then nb dew ho hr s.1 - 1 else nb dew ho hr s.1, s.2.1, true) else (if old = true then nb dew ho hr s.1 - v hr s.2.1 - 1 else nb dew ho hr s.1 - v hr s.2.1, s.2.1 + inc hr, false)) (if nb dew ho hr t.1 < v hr s.2.1 then (if old = true then nb dew ho hr t.1 - 1 else nb dew ho hr t.1, s.2.1, true) else (if old = true then nb dew ho hr t.1 - v hr s.2.1 - 1 else nb dew ho hr t.1 - v hr s.2.1, s.2.1 + inc hr, false))
  generalize nb dew ho hr s.1 = b at hb hs ⊢
  generalize nb dew ho hr t.1 = b2 at hb ⊢
  generalize v hr s.2.1 = u at hs ⊢
  by_cases c : b < u
  · have := hs c
    rw [if_pos c, if_pos (show b2 < u by omega)]
    refine ⟨rfl, ?_, ?_, ?_⟩ <;> (dsimp only; split <;> omega)
  · rw [if_neg c, if_neg (show ¬ b2 < u by omega)]
    refine ⟨rfl, ?_, ?_, ?_⟩ <;> (dsimp only; split <;> omega)
theorem nrun_sim {v : Nat → Nat → Nat} {dew : Nat → Bool} {old : Bool} {ho e : Nat} {inc : Nat → Nat} {hr : Nat} {s t : Nat × Nat × Bool} (h : nSim ho e s t) : ∀ n, e ≤ nsp v dew old ho inc hr s n → nSim ho e (nrun v dew old ho inc hr s n) (nrun v dew old ho inc hr t n)
  | 0, _ => h
  | n + 1, he => by
    have hle : e ≤ nsp v dew old ho inc hr s n ∧ (nb dew ho (hr + n) (nrun v dew old ho inc hr s n).1 < v (hr + n) (nrun v dew old ho inc hr s n).2.1 → e ≤ v (hr + n) (nrun v dew old ho inc hr s n).2.1 - 1 - nb dew ho (hr + n) (nrun v dew old ho inc hr s n).1) := by
      unfold nsp at he
      split at he
      · split at he
        · exact ⟨by omega, fun _ => he⟩
        · exact ⟨he, fun _ => by omega⟩
      · rename_i c
        exact ⟨he, fun z => absurd z c⟩
    exact nst_sim (nrun_sim h n hle.1) hle.2
/-- the theft fits: behind so many hours from hr on it shows so much and stands -/
def nG (v : Nat → Nat → Nat) (dew : Nat → Bool) (old : Bool) (ho : Nat) (inc : Nat → Nat) (hr : Nat) (s : Nat × Bool) (sh : Int32) (n : Nat) (a : Nat) : Bool :=
  decide (nI (nrun v dew old ho inc hr (a, s) n).2.1 = sh) && (nrun v dew old ho inc hr (a, s) n).2.2
/-- all of a stretch alike -/
theorem cntB_run {B : Nat → Bool} {l : Nat} : ∀ n, (∀ e, e < n → B (l + e) = B l) → cntB B (l + n) = cntB B l + (if B l = true then n else 0)
  | 0, _ => by
    rw [Nat.add_zero]
    split <;> rfl
  | n + 1, h => by
    show cntB B (l + n) + (if B (l + n) then 1 else 0) = _
    rw [cntB_run n (fun e he => h e (by omega)), h n (by omega)]
    split <;> omega
/-- where it stops early, or at the end, G of a is told, and a few more fit as well -/
theorem nG_stop {v : Nat → Nat → Nat} {dew : Nat → Bool} {old : Bool} {ho : Nat} {inc : Nat → Nat} {hr n j a : Nat} {s : Nat × Bool} {sh : Int32} (hi : ∀ h, inc h ≤ 1) (ha : a ≤ ho) (hj : j ≤ n) (hb : s.1 + n < 2 ^ 31) (hstop : j = n ∨ sh < nI (nrun v dew old ho inc hr (a, s) j).2.1) :
    (nG v dew old ho inc hr s sh n a = (decide (nI (nrun v dew old ho inc hr (a, s) j).2.1 = sh) && (nrun v dew old ho inc hr (a, s) j).2.2)) ∧ ∀ e, e ≤ nsp v dew old ho inc hr (a, s) j → a + e ≤ ho → nG v dew old ho inc hr s sh n (a + e) = nG v dew old ho inc hr s sh n a := by
  have sim : ∀ e, e ≤ nsp v dew old ho inc hr (a, s) j → a + e ≤ ho → nSim ho e (nrun v dew old ho inc hr (a, s) j) (nrun v dew old ho inc hr (a + e, s) j) := fun e he h2 => by
    have h0 : nSim ho e (a, s) (a + e, s) := ⟨rfl, Nat.le_add_right _ _, Nat.le_refl _, h2⟩
    exact nrun_sim h0 j he
  have far : ∀ b, b ≤ ho → sh < nI (nrun v dew old ho inc hr (b, s) j).2.1 → nG v dew old ho inc hr s sh n b = false := by
    intro b hb2 hlt
    obtain ⟨m, rfl⟩ : ∃ m, n = j + m := ⟨n - j, by omega⟩
    have h1 := nrun_mono (v := v) (dew := dew) (old := old) (inc := inc) (hr := hr) (s := (b, s)) hb2 hi j m
    have h2 := (nrun_ho (v := v) (dew := dew) (old := old) (inc := inc) (hr := hr) (s := (b, s)) hb2 hi (j + m)).2.2
    dsimp only at h2
    unfold nG
    have : ¬ nI (nrun v dew old ho inc hr (b, s) (j + m)).2.1 = sh := by
      intro z
      rw [← z] at hlt
      exact nI_nlt h1 (by omega) hlt
    rw [decide_eq_false this, Bool.false_and]
  rcases hstop with rfl | hlt
  · refine ⟨rfl, fun e he h2 => ?_⟩
    obtain ⟨z1, -⟩ := sim e he h2
    unfold nG
    rw [z1]
  · have hne : ¬ nI (nrun v dew old ho inc hr (a, s) j).2.1 = sh := by
      intro z
      rw [z] at hlt
      exact Int32.lt_irrefl hlt
    refine ⟨by rw [far a ha hlt, decide_eq_false hne, Bool.false_and], fun e he h2 => ?_⟩
    obtain ⟨z1, -⟩ := sim e he h2
    rw [far a ha hlt, far (a + e) h2 (by rw [z1]; exact hlt)]
/-- the clock of a post by naturals -/
def e3 (s : Nat × Nat × Bool) : Int32 × Int32 × Int32 := (nI s.1, nI s.2.1, bi s.2.2)
def vN (W : Int32 → Int32 → Int32 → Int32 → Int32) (kd sp he : Nat → Int32) (c hr k : Nat) : Nat := (xth W kd sp he c hr (nI k)).toInt.toNat
def dewN (kd : Nat → Int32) (c hr : Nat) : Bool := decide (kd c = 3) && decide (hr % 24 < 6)
def incN (kd : Nat → Int32) (c hr : Nat) : Nat := if kd c = 2 ∧ hr % 2 = 0 then 0 else 1
theorem incN_le (kd : Nat → Int32) (c hr : Nat) : incN kd c hr ≤ 1 := by
  unfold incN
  split <;> omega
theorem vN_eq (W : Int32 → Int32 → Int32 → Int32 → Int32) (kd sp he : Nat → Int32) (c hr k : Nat) : xth W kd sp he c hr (nI k) = nI (vN W kd sp he c hr k) ∧ vN W kd sp he c hr k ≤ 99 := by
  obtain ⟨h1, h2⟩ := xth_rng W kd sp he c hr (nI k)
  unfold vN
  generalize xth W kd sp he c hr (nI k) = x at h1 h2 ⊢
  obtain ⟨j, hj, rfl⟩ := nI_of (x := x) (by rw [i_lt, t0]; omega)
  rw [nI_toInt hj] at h1 h2 ⊢
  exact ⟨by rw [Int.toNat_natCast], by omega⟩
theorem xdew_n {kd : Nat → Int32} {c hr a ho : Nat} (hh : hr < 2 ^ 31) (ha : a ≤ ho) (hho : ho < 2 ^ 30) : xdew (kd c) (nI ho) (nI hr) (nI a) = nI (nb (dewN kd c) ho hr a) := by
  have e1 : am_rem (nI hr) 24 = nI (hr % 24) := rem_nI (d := 24) hh (by decide) (by decide)
  unfold xdew nb dewN
  rw [e1]
  by_cases c1 : kd c = 3
  · by_cases c2 : hr % 24 < 6
    · have d2 : nI (hr % 24) < (6 : Int32) := nI_lt (b := 6) c2 (by decide)
      by_cases c3 : a < ho
      · have d3 : nI a < nI ho := nI_lt c3 (by omega)
        rw [if_pos ⟨c1, d2, d3⟩, decide_eq_true c1, decide_eq_true c2, if_pos ⟨rfl, c3⟩, nI_1]
      · have d3 : ¬ nI a < nI ho := nI_nlt (by omega) (by omega)
        rw [if_neg (fun z => d3 z.2.2), if_neg (fun z => c3 z.2)]
    · have d2 : ¬ nI (hr % 24) < (6 : Int32) := nI_nlt (a := hr % 24) (b := 6) (by omega) (by omega)
      rw [if_neg (fun z => d2 z.2.1), decide_eq_false c2, Bool.and_false, if_neg (fun z => by cases z.1)]
  · rw [if_neg (fun z => c1 z.1), decide_eq_false c1, Bool.false_and, if_neg (fun z => by cases z.1)]
theorem xnext_n {kd : Nat → Int32} {c hr k : Nat} (hh : hr < 2 ^ 31) : xnext (kd c) (nI hr) (nI k) = nI (k + incN kd c hr) := by
  have e1 : am_rem (nI hr) 2 = nI (hr % 2) := rem_nI (d := 2) hh (by decide) (by decide)
  unfold xnext incN
  rw [e1]
  by_cases c1 : kd c = 2
  · by_cases c2 : hr % 2 = 0
    · rw [if_pos c1, if_pos (show nI (hr % 2) = 0 by rw [c2]; rfl), if_pos ⟨c1, c2⟩, Nat.add_zero]
    · rw [if_pos c1, if_neg (nI_ne0 (by omega) (by omega)), if_neg (fun z => c2 z.2), nI_1]
  · rw [if_neg c1, if_neg (fun z => c1 z.1), nI_1]
theorem xdrk_n {kd : Nat → Int32} {c hr b k v : Nat} {t : Int32} (hh : hr < 2 ^ 31) (hb : b < 2 ^ 30) (hv : v ≤ 99) : xdrk (kd c) (nI hr) (nI v) (nI b, nI k, t) = e3 (if b < v then (if decide (kd c = 1) = true then b - 1 else b, k, true) else (if decide (kd c = 1) = true then b - v - 1 else b - v, k + incN kd c hr, false)) := by
  have lk : ∀ z, z < 2 ^ 30 → (if kd c = 1 ∧ 0 < nI z then nI z - 1 else nI z) = nI (if decide (kd c = 1) = true then z - 1 else z) := by
    intro z hz
    by_cases c1 : kd c = 1
    · by_cases c2 : z = 0
      · subst c2
        rw [if_neg (fun q => by have := q.2; revert this; decide), decide_eq_true c1]
        rfl
      · obtain ⟨y, rfl⟩ : ∃ y, z = y + 1 := ⟨z - 1, by omega⟩
        rw [if_pos ⟨c1, nI_lt (a := 0) (by omega) (by omega)⟩, decide_eq_true c1, if_pos rfl, nI_pred]
        rfl
    · rw [if_neg (fun q => c1 q.1), decide_eq_false c1]
      rfl
  unfold xdrk e3
  dsimp only
  by_cases c1 : b < v
  · rw [if_pos (nI_lt c1 (by omega)), if_pos c1, lk b hb]
    rfl
  · rw [if_neg (nI_nlt (by omega) (by omega)), if_neg c1, pk_sub (by omega), lk (b - v) (by omega), xnext_n hh]
    rfl
theorem xclk_n {W : Int32 → Int32 → Int32 → Int32 → Int32} {kd ho sp he : Nat → Int32} {hr c hN : Nat} {s : Nat × Nat × Bool} (hh : hr < 2 ^ 31) (hho : ho c = nI hN) (h9 : hN ≤ 999) (hs : s.1 ≤ hN) : xclk W kd ho sp he hr c (e3 s) = e3 (nst (vN W kd sp he c) (dewN kd c) (decide (kd c = 1)) hN (incN kd c) hr s) := by
  obtain ⟨a, k, t⟩ := s
  dsimp only at hs
  obtain ⟨v1, v2⟩ := vN_eq W kd sp he c hr k
  have hb : nb (dewN kd c) hN hr a ≤ hN := by
    unfold nb
    split <;> omega
  unfold xclk e3
  dsimp only
  rw [hho, xdew_n hh hs (by omega), v1, xdrk_n hh (by omega) v2]
  rfl
theorem xclks_n {W : Int32 → Int32 → Int32 → Int32 → Int32} {kd ho sp he : Nat → Int32} {hr c hN : Nat} {s : Nat × Nat × Bool} (hho : ho c = nI hN) (h9 : hN ≤ 999) (hs : s.1 ≤ hN) : ∀ n, hr + n < 2 ^ 31 → xclks W kd ho sp he hr c (e3 s) n = e3 (nrun (vN W kd sp he c) (dewN kd c) (decide (kd c = 1)) hN (incN kd c) hr s n)
  | 0, _ => rfl
  | n + 1, h => by
    unfold xclks nrun
    rw [xclks_n hho h9 hs n (by omega), xclk_n (by omega) hho h9 (nrun_ho hs (incN_le kd c) n).1]
