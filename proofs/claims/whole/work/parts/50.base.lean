/-! Heaps: what is read behind a writing; checks that hold; small numbers. -/
theorem rd_hK_sFI (h : AH) (k a : Nat) (v : Int32) : hK (sFI h k a v) = hK h := rfl
theorem rd_hFI_sFI (h : AH) (k a : Nat) (v : Int32) : hFI (sFI h k a v) = am_up2 (hFI h) k a v := rfl
theorem rd_hFJ_sFI (h : AH) (k a : Nat) (v : Int32) : hFJ (sFI h k a v) = hFJ h := rfl
theorem rd_hFR_sFI (h : AH) (k a : Nat) (v : Int32) : hFR (sFI h k a v) = hFR h := rfl
theorem rd_hLN_sFI (h : AH) (k a : Nat) (v : Int32) : hLN (sFI h k a v) = hLN h := rfl
theorem rd_hAI_sFI (h : AH) (k a : Nat) (v : Int32) : hAI (sFI h k a v) = hAI h := rfl
theorem rd_hAJ_sFI (h : AH) (k a : Nat) (v : Int32) : hAJ (sFI h k a v) = hAJ h := rfl
theorem rd_hAR_sFI (h : AH) (k a : Nat) (v : Int32) : hAR (sFI h k a v) = hAR h := rfl
theorem rd_hNX_sFI (h : AH) (k a : Nat) (v : Int32) : hNX (sFI h k a v) = hNX h := rfl
theorem rd_hK_sFJ (h : AH) (k a : Nat) (v : Int64) : hK (sFJ h k a v) = hK h := rfl
theorem rd_hFI_sFJ (h : AH) (k a : Nat) (v : Int64) : hFI (sFJ h k a v) = hFI h := rfl
theorem rd_hFJ_sFJ (h : AH) (k a : Nat) (v : Int64) : hFJ (sFJ h k a v) = am_up2 (hFJ h) k a v := rfl
theorem rd_hFR_sFJ (h : AH) (k a : Nat) (v : Int64) : hFR (sFJ h k a v) = hFR h := rfl
theorem rd_hLN_sFJ (h : AH) (k a : Nat) (v : Int64) : hLN (sFJ h k a v) = hLN h := rfl
theorem rd_hAI_sFJ (h : AH) (k a : Nat) (v : Int64) : hAI (sFJ h k a v) = hAI h := rfl
theorem rd_hAJ_sFJ (h : AH) (k a : Nat) (v : Int64) : hAJ (sFJ h k a v) = hAJ h := rfl
theorem rd_hAR_sFJ (h : AH) (k a : Nat) (v : Int64) : hAR (sFJ h k a v) = hAR h := rfl
theorem rd_hNX_sFJ (h : AH) (k a : Nat) (v : Int64) : hNX (sFJ h k a v) = hNX h := rfl
theorem rd_hK_sFR (h : AH) (k a : Nat) (v : Option Nat) : hK (sFR h k a v) = hK h := rfl
theorem rd_hFI_sFR (h : AH) (k a : Nat) (v : Option Nat) : hFI (sFR h k a v) = hFI h := rfl
theorem rd_hFJ_sFR (h : AH) (k a : Nat) (v : Option Nat) : hFJ (sFR h k a v) = hFJ h := rfl
theorem rd_hFR_sFR (h : AH) (k a : Nat) (v : Option Nat) : hFR (sFR h k a v) = am_up2 (hFR h) k a v := rfl
theorem rd_hLN_sFR (h : AH) (k a : Nat) (v : Option Nat) : hLN (sFR h k a v) = hLN h := rfl
theorem rd_hAI_sFR (h : AH) (k a : Nat) (v : Option Nat) : hAI (sFR h k a v) = hAI h := rfl
theorem rd_hAJ_sFR (h : AH) (k a : Nat) (v : Option Nat) : hAJ (sFR h k a v) = hAJ h := rfl
theorem rd_hAR_sFR (h : AH) (k a : Nat) (v : Option Nat) : hAR (sFR h k a v) = hAR h := rfl
theorem rd_hNX_sFR (h : AH) (k a : Nat) (v : Option Nat) : hNX (sFR h k a v) = hNX h := rfl
theorem rd_hK_sAI (h : AH) (a : Nat) (f : Nat → Int32) : hK (sAI h a f) = hK h := rfl
theorem rd_hFI_sAI (h : AH) (a : Nat) (f : Nat → Int32) : hFI (sAI h a f) = hFI h := rfl
theorem rd_hFJ_sAI (h : AH) (a : Nat) (f : Nat → Int32) : hFJ (sAI h a f) = hFJ h := rfl
theorem rd_hFR_sAI (h : AH) (a : Nat) (f : Nat → Int32) : hFR (sAI h a f) = hFR h := rfl
theorem rd_hLN_sAI (h : AH) (a : Nat) (f : Nat → Int32) : hLN (sAI h a f) = hLN h := rfl
theorem rd_hAI_sAI (h : AH) (a : Nat) (f : Nat → Int32) : hAI (sAI h a f) = am_up (hAI h) a f := rfl
theorem rd_hAJ_sAI (h : AH) (a : Nat) (f : Nat → Int32) : hAJ (sAI h a f) = hAJ h := rfl
theorem rd_hAR_sAI (h : AH) (a : Nat) (f : Nat → Int32) : hAR (sAI h a f) = hAR h := rfl
theorem rd_hNX_sAI (h : AH) (a : Nat) (f : Nat → Int32) : hNX (sAI h a f) = hNX h := rfl
theorem rd_hK_sAJ (h : AH) (a : Nat) (f : Nat → Int64) : hK (sAJ h a f) = hK h := rfl
theorem rd_hFI_sAJ (h : AH) (a : Nat) (f : Nat → Int64) : hFI (sAJ h a f) = hFI h := rfl
theorem rd_hFJ_sAJ (h : AH) (a : Nat) (f : Nat → Int64) : hFJ (sAJ h a f) = hFJ h := rfl
theorem rd_hFR_sAJ (h : AH) (a : Nat) (f : Nat → Int64) : hFR (sAJ h a f) = hFR h := rfl
theorem rd_hLN_sAJ (h : AH) (a : Nat) (f : Nat → Int64) : hLN (sAJ h a f) = hLN h := rfl
theorem rd_hAI_sAJ (h : AH) (a : Nat) (f : Nat → Int64) : hAI (sAJ h a f) = hAI h := rfl
theorem rd_hAJ_sAJ (h : AH) (a : Nat) (f : Nat → Int64) : hAJ (sAJ h a f) = am_up (hAJ h) a f := rfl
theorem rd_hAR_sAJ (h : AH) (a : Nat) (f : Nat → Int64) : hAR (sAJ h a f) = hAR h := rfl
theorem rd_hNX_sAJ (h : AH) (a : Nat) (f : Nat → Int64) : hNX (sAJ h a f) = hNX h := rfl
theorem rd_hK_sAR (h : AH) (a : Nat) (f : Nat → Option Nat) : hK (sAR h a f) = hK h := rfl
theorem rd_hFI_sAR (h : AH) (a : Nat) (f : Nat → Option Nat) : hFI (sAR h a f) = hFI h := rfl
theorem rd_hFJ_sAR (h : AH) (a : Nat) (f : Nat → Option Nat) : hFJ (sAR h a f) = hFJ h := rfl
theorem rd_hFR_sAR (h : AH) (a : Nat) (f : Nat → Option Nat) : hFR (sAR h a f) = hFR h := rfl
theorem rd_hLN_sAR (h : AH) (a : Nat) (f : Nat → Option Nat) : hLN (sAR h a f) = hLN h := rfl
theorem rd_hAI_sAR (h : AH) (a : Nat) (f : Nat → Option Nat) : hAI (sAR h a f) = hAI h := rfl
theorem rd_hAJ_sAR (h : AH) (a : Nat) (f : Nat → Option Nat) : hAJ (sAR h a f) = hAJ h := rfl
theorem rd_hAR_sAR (h : AH) (a : Nat) (f : Nat → Option Nat) : hAR (sAR h a f) = am_up (hAR h) a f := rfl
theorem rd_hNX_sAR (h : AH) (a : Nat) (f : Nat → Option Nat) : hNX (sAR h a f) = hNX h := rfl
theorem rd_hK_sEI (h : AH) (a i : Nat) (v : Int32) : hK (sEI h a i v) = hK h := rfl
theorem rd_hFI_sEI (h : AH) (a i : Nat) (v : Int32) : hFI (sEI h a i v) = hFI h := rfl
theorem rd_hFJ_sEI (h : AH) (a i : Nat) (v : Int32) : hFJ (sEI h a i v) = hFJ h := rfl
theorem rd_hFR_sEI (h : AH) (a i : Nat) (v : Int32) : hFR (sEI h a i v) = hFR h := rfl
theorem rd_hLN_sEI (h : AH) (a i : Nat) (v : Int32) : hLN (sEI h a i v) = hLN h := rfl
theorem rd_hAI_sEI (h : AH) (a i : Nat) (v : Int32) : hAI (sEI h a i v) = am_up (hAI h) a (upd (hAI h a) i v) := rfl
theorem rd_hAJ_sEI (h : AH) (a i : Nat) (v : Int32) : hAJ (sEI h a i v) = hAJ h := rfl
theorem rd_hAR_sEI (h : AH) (a i : Nat) (v : Int32) : hAR (sEI h a i v) = hAR h := rfl
theorem rd_hNX_sEI (h : AH) (a i : Nat) (v : Int32) : hNX (sEI h a i v) = hNX h := rfl
theorem rd_hK_sEJ (h : AH) (a i : Nat) (v : Int64) : hK (sEJ h a i v) = hK h := rfl
theorem rd_hFI_sEJ (h : AH) (a i : Nat) (v : Int64) : hFI (sEJ h a i v) = hFI h := rfl
theorem rd_hFJ_sEJ (h : AH) (a i : Nat) (v : Int64) : hFJ (sEJ h a i v) = hFJ h := rfl
theorem rd_hFR_sEJ (h : AH) (a i : Nat) (v : Int64) : hFR (sEJ h a i v) = hFR h := rfl
theorem rd_hLN_sEJ (h : AH) (a i : Nat) (v : Int64) : hLN (sEJ h a i v) = hLN h := rfl
theorem rd_hAI_sEJ (h : AH) (a i : Nat) (v : Int64) : hAI (sEJ h a i v) = hAI h := rfl
theorem rd_hAJ_sEJ (h : AH) (a i : Nat) (v : Int64) : hAJ (sEJ h a i v) = am_up (hAJ h) a (vp_updL (hAJ h a) i v) := rfl
theorem rd_hAR_sEJ (h : AH) (a i : Nat) (v : Int64) : hAR (sEJ h a i v) = hAR h := rfl
theorem rd_hNX_sEJ (h : AH) (a i : Nat) (v : Int64) : hNX (sEJ h a i v) = hNX h := rfl
theorem rd_hK_sER (h : AH) (a i : Nat) (v : Option Nat) : hK (sER h a i v) = hK h := rfl
theorem rd_hFI_sER (h : AH) (a i : Nat) (v : Option Nat) : hFI (sER h a i v) = hFI h := rfl
theorem rd_hFJ_sER (h : AH) (a i : Nat) (v : Option Nat) : hFJ (sER h a i v) = hFJ h := rfl
theorem rd_hFR_sER (h : AH) (a i : Nat) (v : Option Nat) : hFR (sER h a i v) = hFR h := rfl
theorem rd_hLN_sER (h : AH) (a i : Nat) (v : Option Nat) : hLN (sER h a i v) = hLN h := rfl
theorem rd_hAI_sER (h : AH) (a i : Nat) (v : Option Nat) : hAI (sER h a i v) = hAI h := rfl
theorem rd_hAJ_sER (h : AH) (a i : Nat) (v : Option Nat) : hAJ (sER h a i v) = hAJ h := rfl
theorem rd_hAR_sER (h : AH) (a i : Nat) (v : Option Nat) : hAR (sER h a i v) = am_up (hAR h) a (am_up (hAR h a) i v) := rfl
theorem rd_hNX_sER (h : AH) (a i : Nat) (v : Option Nat) : hNX (sER h a i v) = hNX h := rfl
theorem rd_hK_sCP (h : AH) (s sp t tp n : Nat) : hK (sCP h s sp t tp n) = hK h := rfl
theorem rd_hFI_sCP (h : AH) (s sp t tp n : Nat) : hFI (sCP h s sp t tp n) = hFI h := rfl
theorem rd_hFJ_sCP (h : AH) (s sp t tp n : Nat) : hFJ (sCP h s sp t tp n) = hFJ h := rfl
theorem rd_hFR_sCP (h : AH) (s sp t tp n : Nat) : hFR (sCP h s sp t tp n) = hFR h := rfl
theorem rd_hLN_sCP (h : AH) (s sp t tp n : Nat) : hLN (sCP h s sp t tp n) = hLN h := rfl
theorem rd_hAI_sCP (h : AH) (s sp t tp n : Nat) : hAI (sCP h s sp t tp n) = am_up (hAI h) t (am_cpy (hAI h s) (hAI h t) sp tp n) := rfl
theorem rd_hAJ_sCP (h : AH) (s sp t tp n : Nat) : hAJ (sCP h s sp t tp n) = hAJ h := rfl
theorem rd_hAR_sCP (h : AH) (s sp t tp n : Nat) : hAR (sCP h s sp t tp n) = hAR h := rfl
theorem rd_hNX_sCP (h : AH) (s sp t tp n : Nat) : hNX (sCP h s sp t tp n) = hNX h := rfl
theorem rd_hK_nXcp (h : AH) : hK (nXcp h) = hK h := rfl
theorem rd_hFI_nXcp (h : AH) : hFI (nXcp h) = hFI h := rfl
theorem rd_hFJ_nXcp (h : AH) : hFJ (nXcp h) = hFJ h := rfl
theorem rd_hFR_nXcp (h : AH) : hFR (nXcp h) = hFR h := rfl
theorem rd_hLN_nXcp (h : AH) : hLN (nXcp h) = hLN h := rfl
theorem rd_hAI_nXcp (h : AH) : hAI (nXcp h) = hAI h := rfl
theorem rd_hAJ_nXcp (h : AH) : hAJ (nXcp h) = hAJ h := rfl
theorem rd_hAR_nXcp (h : AH) : hAR (nXcp h) = hAR h := rfl
theorem rd_hNX_nXcp (h : AH) : hNX (nXcp h) = hNX h + 1 := rfl
theorem am_kd_t {h : AH} {a k : Nat} (e : hK h a = k) (x : Option Res) : am_kd h a k x = x := if_pos e
theorem am_in_t {i : Int32} {n : Nat} (e : vp_in i n) (x : Option Res) : am_in i n x = x := if_neg e
theorem am_inN {i n : Nat} (hi : i < n) (hn : n < 2 ^ 31) (x : Option Res) : am_in (nI i) n x = x := if_neg (nI_in hi hn)
theorem am_let_e (x : AH) (f : AH → Option Res) : am_let x f = f x := rfl
theorem bR_s (a : Nat) (f : Nat → Option Res) : bR (some a) f = f a := rfl
theorem bV_s (h : AH) (f : AH → Option Res) : bV (some (none, h)) f = f h := rfl
theorem bI_s (v : Int32) (h : AH) (f : Int32 → AH → Option Res) : bI (some (some (.int v), h)) f = f v h := rfl
theorem bJ_s (v : Int64) (h : AH) (f : Int64 → AH → Option Res) : bJ (some (some (.long v), h)) f = f v h := rfl
theorem bA_s (v : Nat) (h : AH) (f : Nat → AH → Option Res) : bA (some (some (.ref v), h)) f = f v h := rfl
theorem am_nar4_0 (x : Option Res) : am_nar 4 0 x = x := rfl
theorem am_nar4_1 (x : Option Res) : am_nar 4 1 x = x := rfl
theorem am_dz_t {b : Int32} (e : b ≠ 0) (x : Option Res) : am_dz b x = x := if_neg e
theorem am_dzJ_t {b : Int64} (e : b ≠ 0) (x : Option Res) : am_dzJ b x = x := if_neg e
/-- an equation of heaps, part by part -/
theorem AH_ext {h g : AH} (e1 : hK h = hK g) (e2 : hFI h = hFI g) (e3 : hFJ h = hFJ g) (e4 : hFR h = hFR g) (e5 : hLN h = hLN g) (e6 : hAI h = hAI g) (e7 : hAJ h = hAJ g) (e8 : hAR h = hAR g) (e9 : hNX h = hNX g) : h = g := by
  obtain ⟨a1, a2, a3, a4, a5, a6, a7, a8, a9⟩ := h
  obtain ⟨b1, b2, b3, b4, b5, b6, b7, b8, b9⟩ := g
  cases e1; cases e2; cases e3; cases e4; cases e5; cases e6; cases e7; cases e8; cases e9
  rfl
theorem upd_self (f : Nat → Int32) (i : Nat) : upd f i (f i) = f := by
  funext j
  by_cases e : j = i
  · subst e; exact pk_us
  · exact pk_un e
theorem upd_upd (f : Nat → Int32) (i : Nat) (v w : Int32) : upd (upd f i v) i w = upd f i w := by
  funext j
  by_cases e : j = i
  · subst e; rw [pk_us, pk_us]
  · rw [pk_un e, pk_un e, pk_un e]
theorem am_up_self {α : Type} (f : Nat → α) (a : Nat) : am_up f a (f a) = f := by
  funext b
  unfold am_up
  split
  · rename_i e; rw [e]
  · rfl
theorem am_up_up {α : Type} (f : Nat → α) (a : Nat) (v w : α) : am_up (am_up f a v) a w = am_up f a w := by
  funext b
  unfold am_up
  split <;> rfl
theorem am_up_comm {α : Type} (f : Nat → α) {a b : Nat} (hab : a ≠ b) (v w : α) : am_up (am_up f a v) b w = am_up (am_up f b w) a v := by
  funext c
  unfold am_up
  by_cases e1 : c = a
  · subst e1
    rw [if_neg hab, if_pos rfl, if_pos rfl]
  · rw [if_neg e1, if_neg e1]
theorem am_up2_self {α : Type} (f : Nat → Nat → α) (k a : Nat) : am_up2 f k a (f k a) = f := by
  funext j b
  unfold am_up2
  split
  · rename_i e; rw [e.1, e.2]
  · rfl
theorem am_up2_up2 {α : Type} (f : Nat → Nat → α) (k a : Nat) (v w : α) : am_up2 (am_up2 f k a v) k a w = am_up2 f k a w := by
  funext j b
  unfold am_up2
  split <;> rfl
theorem sEI_self (h : AH) (a i : Nat) : sEI h a i (hAI h a i) = h := by
  unfold sEI
  rw [upd_self]
  exact AH_ext rfl rfl rfl rfl rfl (am_up_self _ _) rfl rfl rfl
theorem sAI_self (h : AH) (a : Nat) : sAI h a (hAI h a) = h := AH_ext rfl rfl rfl rfl rfl (am_up_self _ _) rfl rfl rfl
theorem sAI_sAI (h : AH) (a : Nat) (f g : Nat → Int32) : sAI (sAI h a f) a g = sAI h a g := AH_ext rfl rfl rfl rfl rfl (am_up_up _ _ _ _) rfl rfl rfl
theorem sAI_comm (h : AH) {a b : Nat} (hab : a ≠ b) (f g : Nat → Int32) : sAI (sAI h a f) b g = sAI (sAI h b g) a f := by
  apply AH_ext
  all_goals simp only [rd_hK_sFI, rd_hFI_sFI, rd_hFJ_sFI, rd_hFR_sFI, rd_hLN_sFI, rd_hAI_sFI, rd_hAJ_sFI, rd_hAR_sFI, rd_hNX_sFI, rd_hK_sEI, rd_hFI_sEI, rd_hFJ_sEI, rd_hFR_sEI, rd_hLN_sEI, rd_hAI_sEI, rd_hAJ_sEI, rd_hAR_sEI, rd_hNX_sEI, rd_hK_sAI, rd_hFI_sAI, rd_hFJ_sAI, rd_hFR_sAI, rd_hLN_sAI, rd_hAI_sAI, rd_hAJ_sAI, rd_hAR_sAI, rd_hNX_sAI, rd_hK_sCP, rd_hFI_sCP, rd_hFJ_sCP, rd_hFR_sCP, rd_hLN_sCP, rd_hAI_sCP, rd_hAJ_sCP, rd_hAR_sCP, rd_hNX_sCP]
  exact am_up_comm _ hab _ _
theorem sAI_at (h : AH) (a : Nat) (f : Nat → Int32) : hAI (sAI h a f) a = f := am_up_eq
theorem sAI_ne (h : AH) {a b : Nat} (f : Nat → Int32) (e : b ≠ a) : hAI (sAI h a f) b = hAI h b := am_up_ne e
theorem sEI_at (h : AH) (a i : Nat) (v : Int32) : hAI (sEI h a i v) a = upd (hAI h a) i v := am_up_eq
theorem sEI_ne (h : AH) {a b : Nat} (i : Nat) (v : Int32) (e : b ≠ a) : hAI (sEI h a i v) b = hAI h b := am_up_ne e
theorem nI_cl0 : Int32.toNatClampNeg 0 = 0 := by decide
theorem nI_clN {n : Nat} (h : n < 2 ^ 31) : Int32.toNatClampNeg (nI n) = n := nI_clamp h
theorem rem_nI {a d : Nat} (ha : a < 2 ^ 31) (h0 : 0 < d) (hd : d < 2 ^ 31) : am_rem (nI a) (nI d) = nI (a % d) := pk_rem ha h0 hd
