/-! The small machine: a heap of numbered things (kinds, fields by number, rows), one step of it, runs of it. -/
abbrev AH : Type := (Nat → Nat) × (Nat → Nat → Int32) × (Nat → Nat → Int64) × (Nat → Nat → Option Nat) × (Nat → Nat) × (Nat → Nat → Int32) × (Nat → Nat → Int64) × (Nat → Nat → Option Nat) × Nat
def hK (h : AH) : Nat → Nat := h.1
def hFI (h : AH) : Nat → Nat → Int32 := h.2.1
def hFJ (h : AH) : Nat → Nat → Int64 := h.2.2.1
def hFR (h : AH) : Nat → Nat → Option Nat := h.2.2.2.1
def hLN (h : AH) : Nat → Nat := h.2.2.2.2.1
def hAI (h : AH) : Nat → Nat → Int32 := h.2.2.2.2.2.1
def hAJ (h : AH) : Nat → Nat → Int64 := h.2.2.2.2.2.2.1
def hAR (h : AH) : Nat → Nat → Option Nat := h.2.2.2.2.2.2.2.1
def hNX (h : AH) : Nat := h.2.2.2.2.2.2.2.2
def am_up {α : Type} (f : Nat → α) (a : Nat) (v : α) : Nat → α := fun b => if b = a then v else f b
def am_up2 {α : Type} (f : Nat → Nat → α) (k a : Nat) (v : α) : Nat → Nat → α := fun j b => if j = k ∧ b = a then v else f j b
def sFI (h : AH) (k a : Nat) (v : Int32) : AH := (hK h, am_up2 (hFI h) k a v, hFJ h, hFR h, hLN h, hAI h, hAJ h, hAR h, hNX h)
def sFJ (h : AH) (k a : Nat) (v : Int64) : AH := (hK h, hFI h, am_up2 (hFJ h) k a v, hFR h, hLN h, hAI h, hAJ h, hAR h, hNX h)
def sFR (h : AH) (k a : Nat) (v : Option Nat) : AH := (hK h, hFI h, hFJ h, am_up2 (hFR h) k a v, hLN h, hAI h, hAJ h, hAR h, hNX h)
def sAI (h : AH) (a : Nat) (f : Nat → Int32) : AH := (hK h, hFI h, hFJ h, hFR h, hLN h, am_up (hAI h) a f, hAJ h, hAR h, hNX h)
def sAJ (h : AH) (a : Nat) (f : Nat → Int64) : AH := (hK h, hFI h, hFJ h, hFR h, hLN h, hAI h, am_up (hAJ h) a f, hAR h, hNX h)
def sAR (h : AH) (a : Nat) (f : Nat → Option Nat) : AH := (hK h, hFI h, hFJ h, hFR h, hLN h, hAI h, hAJ h, am_up (hAR h) a f, hNX h)
def nObj (h : AH) (kd : Nat) : AH := (am_up (hK h) (hNX h) kd, fun k b => if b = hNX h then 0 else hFI h k b, fun k b => if b = hNX h then 0 else hFJ h k b, fun k b => if b = hNX h then none else hFR h k b, hLN h, hAI h, hAJ h, hAR h, hNX h + 1)
def nArr (h : AH) (kd n : Nat) : AH := (am_up (hK h) (hNX h) kd, hFI h, hFJ h, hFR h, am_up (hLN h) (hNX h) n, am_up (hAI h) (hNX h) (fun _ => 0), am_up (hAJ h) (hNX h) (fun _ => 0), am_up (hAR h) (hNX h) (fun _ => none), hNX h + 1)
def nXcp (h : AH) : AH := (hK h, hFI h, hFJ h, hFR h, hLN h, hAI h, hAJ h, hAR h, hNX h + 1)
/-- the number of null -/
abbrev nul : Nat := 1999999
abbrev LV : Type := List (Option Value)
abbrev Res : Type := Option Value × AH
/-- a row of code: its place, its length, a number of ours, the instruction -/
abbrev CE : Type := Nat × Nat × Nat × Instr
/-- a method: its rows, its heads (place, live locals), its locals -/
abbrev MC : Type := List CE × List (Nat × List Nat) × Nat
/-- itself: what stands under it is unfolded ahead of heaps with a name -/
def am_id {α : Type} (x : α) : α := x
def pI (st : List Value) (f : Int32 → List Value → Option Res) : Option Res := am_id (match st with
  | .int x :: r => f x r
  | _ => none)
def pJ (st : List Value) (f : Int64 → List Value → Option Res) : Option Res := am_id (match st with
  | .long x :: r => f x r
  | _ => none)
/-- a reference that is there -/
def bR (o : Option Nat) (f : Nat → Option Res) : Option Res := match o with
  | some a => f a
  | none => none
def pR (st : List Value) (f : Nat → List Value → Option Res) : Option Res := am_id (match st with
  | .ref a :: r => f a r
  | _ => none)
/-- a heap with a name -/
def am_let (x : AH) (f : AH → Option Res) : Option Res := f x
def sEI (h : AH) (a i : Nat) (v : Int32) : AH := sAI h a (upd (hAI h a) i v)
def sEJ (h : AH) (a i : Nat) (v : Int64) : AH := sAJ h a (vp_updL (hAJ h a) i v)
def sER (h : AH) (a i : Nat) (v : Option Nat) : AH := sAR h a (am_up (hAR h a) i v)
def am_rem (a b : Int32) : Int32 := a - a / b * b
def am_remJ (a b : Int64) : Int64 := a - a / b * b
def am_cpy (f g : Nat → Int32) (sp dp n : Nat) : Nat → Int32 := fun k => if dp ≤ k ∧ k < dp + n then f (sp + (k - dp)) else g k
/-- n ints of the row src from sp on, into the row dst from dp on -/
def sCP (h : AH) (src sp dst dp n : Nat) : AH := sAI h dst (am_cpy (hAI h src) (hAI h dst) sp dp n)
/-- what a local holds -/
def ldI (lv : LV) (i : Nat) (f : Int32 → Option Res) : Option Res := am_id (match lv[i]? with
  | some (some (.int x)) => f x
  | _ => none)
def ldJ (lv : LV) (i : Nat) (f : Int64 → Option Res) : Option Res := am_id (match lv[i]? with
  | some (some (.long x)) => f x
  | _ => none)
def ldA (lv : LV) (i : Nat) (f : Nat → Option Res) : Option Res := am_id (match lv[i]? with
  | some (some (.ref x)) => f x
  | _ => none)
/-- a local gets a value of one word: the new list, told on -/
def am_stN : LV → Nat → Option Value → (LV → Option Res) → Option Res
  | [], _, _, _ => none
  | _ :: t, 0, v, f => f (v :: t)
  | x :: t, i + 1, v, f => am_stN t i v fun t1 => f (x :: t1)
def am_st1 : LV → Nat → Option Value → (LV → Option Res) → Option Res
  | [], _, _, _ => none
  | _ :: t, 0, v, f => f (v :: t)
  | _ :: [], _ + 1, _, _ => none
  | x :: _ :: t, 1, v, f => match x with
    | some (.long _) => f (none :: v :: t)
    | some (.double _) => none
    | some (.int y) => f (some (.int y) :: v :: t)
    | some (.ref y) => f (some (.ref y) :: v :: t)
    | z => f (z :: v :: t)
  | x :: y :: t, i + 2, v, f => am_st1 (y :: t) (i + 1) v fun t1 => f (x :: t1)
/-- the answer of a call -/
def bV (o : Option Res) (f : AH → Option Res) : Option Res := match o with
  | some (none, h) => f h
  | _ => none
def bI (o : Option Res) (f : Int32 → AH → Option Res) : Option Res := match o with
  | some (some (.int x), h) => f x h
  | _ => none
def bJ (o : Option Res) (f : Int64 → AH → Option Res) : Option Res := match o with
  | some (some (.long x), h) => f x h
  | _ => none
def bA (o : Option Res) (f : Nat → AH → Option Res) : Option Res := match o with
  | some (some (.ref a), h) => f a h
  | _ => none
def takeA : Nat → List Value → List Value → Option (List Value × List Value)
  | 0, st, as => some (as, st)
  | _ + 1, [], _ => none
  | n + 1, v :: st, as => takeA n st (v :: as)
def am_if (c : Jvm.ClassFile.Cond) (x : Int32) (t e : Option Res) : Option Res := match c with
  | .eq => if x = 0 then t else e
  | .ne => if x = 0 then e else t
  | .lt => if x < 0 then t else e
  | .ge => if x < 0 then e else t
  | .gt => if 0 < x then t else e
  | .le => if 0 < x then e else t
def am_icmp (c : Jvm.ClassFile.Cond) (x y : Int32) (t e : Option Res) : Option Res := match c with
  | .eq => if x = y then t else e
  | .ne => if x = y then e else t
  | .lt => if x < y then t else e
  | .ge => if x < y then e else t
  | .gt => if y < x then t else e
  | .le => if y < x then e else t
/-- a switch: the offsets from lo on -/
def am_sw (x : Int) (lo : Int) : List Nat → (Nat → Option Res) → Option Res → Option Res
  | [], _, d => d
  | t :: ts, f, d => if x = lo then f t else am_sw x (lo + 1) ts f d
/-- an index within -/
def am_in (i : Int32) (n : Nat) (k : Option Res) : Option Res := if i < 0 ∨ n ≤ i.toNatClampNeg then none else k
def am_kd (h : AH) (a kd : Nat) (k : Option Res) : Option Res := if hK h a = kd then k else none
/-- a reference, or none where it is null's number -/
def am_on (x : Nat) : Option Nat := if x = nul then none else some x
def am_get (h : AH) (ty fid a : Nat) (f : Value → Option Res) : Option Res := match ty with
  | 1 => f (.long (hFJ h fid a))
  | 2 => bR (hFR h fid a) (fun b => f (.ref b))
  | 3 => f (.ref ((hFR h fid a).getD nul))
  | _ => f (.int (hFI h fid a))
/-- a small type keeps the number as it is -/
def am_nar (ty : Nat) (x : Int32) (k : Option Res) : Option Res := match ty with
  | 4 => if x = 0 ∨ x = 1 then k else none
  | 5 => if x < 0 ∨ 65535 < x then none else k
  | _ => k
def am_put (h : AH) (ty fid kd : Nat) (st : List Value) (f : List Value → AH → Option Res) : Option Res := match ty with
  | 1 => pJ st fun x r => pR r fun a r => am_kd h a kd (am_let (sFJ h fid a x) fun h1 => f r h1)
  | 2 => pR st fun x r => pR r fun a r => am_kd h a kd (am_let (sFR h fid a (some x)) fun h1 => f r h1)
  | 3 => pR st fun x r => pR r fun a r => am_kd h a kd (am_let (sFR h fid a (am_on x)) fun h1 => f r h1)
  | t => pI st fun x r => pR r fun a r => am_kd h a kd (am_nar t x (am_let (sFI h fid a x) fun h1 => f r h1))
/-- the words of a stack -/
def am_cat : List Value → Nat
  | [] => 0
  | .long _ :: t => am_cat t + 2
  | .double _ :: t => am_cat t + 2
  | _ :: t => am_cat t + 1
/-- a stack below a call of at most eight words -/
def am_r8 (r : List Value) (k : Option Res) : Option Res := am_id (match Nat.ble (am_cat r) 8 with
  | true => k
  | false => none)
def am_call (call : Nat → List Value → AH → Option Res) (x : Nat) (virt : Bool) (st : List Value) (h : AH) (f : List Value → AH → Option Res) : Option Res := match takeA (x / 8 % 32) st [] with
  | none => none
  | some (as, r) =>
    let go : Option Res := match x % 8 with
      | 0 => bV (call (x / 16384) as h) fun h1 => f r h1
      | 1 => bI (call (x / 16384) as h) fun v h1 => f (.int v :: r) h1
      | 2 => bJ (call (x / 16384) as h) fun v h1 => f (.long v :: r) h1
      | 3 => bA (call (x / 16384) as h) fun v h1 => f (.ref v :: r) h1
      | _ => none
    am_r8 r (match virt with
    | true => match as with
      | .ref a :: _ => am_kd h a (x / 256 % 64) go
      | _ => none
    | false => go)
/-- the answer of a call that may throw -/
def bX (o : Option Res) (f : Int32 → AH → Option Res) (g : AH → Option Res) : Option Res := match o with
  | some (some (.int x), h) => f x h
  | some (some (.double _), h) => g h
  | _ => none
/-- a call of a method that may throw, where it is caught -/
def am_callX (call : Nat → List Value → AH → Option Res) (x : Nat) (st : List Value) (h : AH) (f g : List Value → AH → Option Res) : Option Res := match takeA (x / 8 % 32) st [] with
  | none => none
  | some (as, r) => match as with
    | .ref a :: _ => am_r8 r (am_kd h a (x / 256 % 64) (bX (call (x / 16384 % 4096) as h) (fun v h1 => f (.int v :: r) h1) (fun h1 => am_let (nXcp h1) fun h2 => g [.ref (hNX h1)] h2)))
    | _ => none
/-- a constant, by its thirty-two bits -/
def am_cst (x : Nat) : Int32 := match Nat.ble 2147483648 x with
  | true => -(Int32.ofNat (4294967296 - x))
  | false => Int32.ofNat x
/-- a value of one word -/
def am_c1 (v : Value) (k : Option Res) : Option Res := am_id (match v with
  | .long _ => none
  | .double _ => none
  | _ => k)
/-- null or one of the words -/
def am_wd (a : Nat) (k : Option Res) : Option Res := if a = nul ∨ (1000000 ≤ a ∧ a < 1000031) then k else none
/-- a divisor that isn't 0 -/
def am_dz (b : Int32) (k : Option Res) : Option Res := if b = 0 then none else k
def am_dzJ (b : Int64) (k : Option Res) : Option Res := if b = 0 then none else k
/-- a length that may be made -/
def am_nw (n : Int32) (k : Option Res) : Option Res := if n < 0 ∨ 2048 < n.toNatClampNeg then none else k
/-- a stretch that may be copied -/
def am_cb (h : AH) (src : Nat) (sp : Int32) (dst : Nat) (dp n : Int32) (k : Option Res) : Option Res := if n < 0 ∨ sp < 0 ∨ dp < 0 ∨ hLN h src < sp.toNatClampNeg + n.toNatClampNeg ∨ hLN h dst < dp.toNatClampNeg + n.toNatClampNeg then none else k
/-- a throw, over an empty stack -/
def am_th (st : List Value) (h : AH) : Option Res := match st with
  | [] => some (some (.double 0), h)
  | _ => none
/-- one instruction: what comes of it, told to K; answers end here -/
def stp (call : Nat → List Value → AH → Option Res) (K : Nat → LV → List Value → AH → Option Res) (e : CE) (lv : LV) (st : List Value) (h : AH) : Option Res := match e with
  | (pc, len, x, i) => match i with
    | .aload_n k => ldA lv k.val fun v => K (pc + len) lv (.ref v :: st) h
    | .aload k => ldA lv k fun v => K (pc + len) lv (.ref v :: st) h
    | .iload_n k => ldI lv k.val fun v => K (pc + len) lv (.int v :: st) h
    | .iload k => ldI lv k fun v => K (pc + len) lv (.int v :: st) h
    | .lload_n k => ldJ lv k.val fun v => K (pc + len) lv (.long v :: st) h
    | .lload k => ldJ lv k fun v => K (pc + len) lv (.long v :: st) h
    | .astore_n k => pR st fun v r => am_st1 lv k.val (some (.ref v)) fun lv1 => K (pc + len) lv1 r h
    | .astore k => pR st fun v r => am_st1 lv k (some (.ref v)) fun lv1 => K (pc + len) lv1 r h
    | .istore_n k => pI st fun v r => am_st1 lv k.val (some (.int v)) fun lv1 => K (pc + len) lv1 r h
    | .istore k => pI st fun v r => am_st1 lv k (some (.int v)) fun lv1 => K (pc + len) lv1 r h
    | .lstore_n k => pJ st fun v r => am_st1 lv k.val (some (.long v)) fun l1 => am_stN l1 (k.val + 1) none fun lv1 => K (pc + len) lv1 r h
    | .lstore k => pJ st fun v r => am_st1 lv k (some (.long v)) fun l1 => am_stN l1 (k + 1) none fun lv1 => K (pc + len) lv1 r h
    | .iinc k _ => ldI lv k fun v => am_st1 lv k (some (.int (v + am_cst x))) fun lv1 => K (pc + len) lv1 st h
    | .iconst _ => K (pc + len) lv (.int (am_cst x) :: st) h
    | .bipush _ => K (pc + len) lv (.int (am_cst x) :: st) h
    | .sipush _ => K (pc + len) lv (.int (am_cst x) :: st) h
    | .lconst n => K (pc + len) lv (.long (Int64.ofNat n.val) :: st) h
    | .ldc _ => K (pc + len) lv (.int (am_cst x) :: st) h
    | .ldc_w _ => K (pc + len) lv (.int (am_cst x) :: st) h
    | .ldc2_w _ => K (pc + len) lv (.long (Int64.ofNat x) :: st) h
    | .aconst_null => K (pc + len) lv (.ref nul :: st) h
    | .dup => match st with
      | v :: r => am_c1 v (K (pc + len) lv (v :: v :: r) h)
      | _ => none
    | .dup2 => match st with
      | v :: w :: r => am_c1 v (am_c1 w (K (pc + len) lv (v :: w :: v :: w :: r) h))
      | _ => none
    | .iadd => pI st fun b r => pI r fun a r => K (pc + len) lv (.int (a + b) :: r) h
    | .isub => pI st fun b r => pI r fun a r => K (pc + len) lv (.int (a - b) :: r) h
    | .imul => pI st fun b r => pI r fun a r => K (pc + len) lv (.int (a * b) :: r) h
    | .idiv => pI st fun b r => pI r fun a r => am_dz b (K (pc + len) lv (.int (a / b) :: r) h)
    | .irem => pI st fun b r => pI r fun a r => am_dz b (K (pc + len) lv (.int (am_rem a b) :: r) h)
    | .ineg => pI st fun a r => K (pc + len) lv (.int (-a) :: r) h
    | .iand => pI st fun b r => pI r fun a r => K (pc + len) lv (.int (a &&& b) :: r) h
    | .ior => pI st fun b r => pI r fun a r => K (pc + len) lv (.int (a ||| b) :: r) h
    | .ixor => pI st fun b r => pI r fun a r => K (pc + len) lv (.int (a ^^^ b) :: r) h
    | .ishl => pI st fun b r => pI r fun a r => K (pc + len) lv (.int (a <<< (b &&& 31)) :: r) h
    | .ishr => pI st fun b r => pI r fun a r => K (pc + len) lv (.int (a >>> (b &&& 31)) :: r) h
    | .ladd => pJ st fun b r => pJ r fun a r => K (pc + len) lv (.long (a + b) :: r) h
    | .lsub => pJ st fun b r => pJ r fun a r => K (pc + len) lv (.long (a - b) :: r) h
    | .lmul => pJ st fun b r => pJ r fun a r => K (pc + len) lv (.long (a * b) :: r) h
    | .ldiv => pJ st fun b r => pJ r fun a r => am_dzJ b (K (pc + len) lv (.long (a / b) :: r) h)
    | .lrem => pJ st fun b r => pJ r fun a r => am_dzJ b (K (pc + len) lv (.long (am_remJ a b) :: r) h)
    | .land => pJ st fun b r => pJ r fun a r => K (pc + len) lv (.long (a &&& b) :: r) h
    | .lor => pJ st fun b r => pJ r fun a r => K (pc + len) lv (.long (a ||| b) :: r) h
    | .lshl => pI st fun b r => pJ r fun a r => K (pc + len) lv (.long (a <<< (b.toInt64 &&& 63)) :: r) h
    | .lushr => pI st fun b r => pJ r fun a r => K (pc + len) lv (.long (a.toUInt64 >>> (b.toInt64.toUInt64 &&& Int64.toUInt64 63)).toInt64 :: r) h
    | .lcmp => pJ st fun b r => pJ r fun a r => K (pc + len) lv (.int (lg_cmp a b) :: r) h
    | .i2l => pI st fun a r => K (pc + len) lv (.long a.toInt64 :: r) h
    | .l2i => pJ st fun a r => K (pc + len) lv (.int a.toInt32 :: r) h
    | .i2c => pI st fun a r => K (pc + len) lv (.int (a.toUInt32 % 65536).toInt32 :: r) h
    | .ifCond c _ => pI st fun a r => am_if c a (K x lv r h) (K (pc + len) lv r h)
    | .if_icmp c _ => pI st fun b r => pI r fun a r => am_icmp c a b (K x lv r h) (K (pc + len) lv r h)
    | .if_acmp c _ => pR st fun b r => pR r fun a r => am_wd a (am_wd b (match c with
      | .eq => if a = b then K x lv r h else K (pc + len) lv r h
      | .ne => if a = b then K (pc + len) lv r h else K x lv r h))
    | .ifnull _ => pR st fun a r => if a = nul then K x lv r h else K (pc + len) lv r h
    | .goto _ => K x lv st h
    | .tableswitch _ lo _ offs => pI st fun a r => am_sw a.toInt lo (offs.toList.map fun o => ((pc : Int) + o).toNat) (fun t => K t lv r h) (K x lv r h)
    | .getfield _ => pR st fun a r => am_kd h a (x / 800 + 1) (am_get h (x % 8) (x / 8) a fun v => K (pc + len) lv (v :: r) h)
    | .putfield _ => am_put h (x % 8) (x / 8) (x / 800 + 1) st fun r h1 => K (pc + len) lv r h1
    | .getstatic _ => K (pc + len) lv (.ref x :: st) h
    | .iaload => pI st fun j r => pR r fun a r => am_kd h a x (am_in j (hLN h a) (K (pc + len) lv (.int (hAI h a j.toNatClampNeg) :: r) h))
    | .caload => pI st fun j r => pR r fun a r => am_kd h a 51 (am_in j (hLN h a) (K (pc + len) lv (.int (hAI h a j.toNatClampNeg) :: r) h))
    | .baload => pI st fun j r => pR r fun a r => am_kd h a 52 (am_in j (hLN h a) (K (pc + len) lv (.int (hAI h a j.toNatClampNeg) :: r) h))
    | .laload => pI st fun j r => pR r fun a r => am_kd h a 53 (am_in j (hLN h a) (K (pc + len) lv (.long (hAJ h a j.toNatClampNeg) :: r) h))
    | .aaload => pI st fun j r => pR r fun a r => am_kd h a x (am_in j (hLN h a) (bR (hAR h a j.toNatClampNeg) fun b => K (pc + len) lv (.ref b :: r) h))
    | .iastore => pI st fun v r => pI r fun j r => pR r fun a r => am_kd h a 50 (am_in j (hLN h a) (am_let (sEI h a j.toNatClampNeg v) fun h1 => K (pc + len) lv r h1))
    | .castore => pI st fun v r => pI r fun j r => pR r fun a r => am_kd h a 51 (am_in j (hLN h a) (am_nar 5 v (am_let (sEI h a j.toNatClampNeg v) fun h1 => K (pc + len) lv r h1)))
    | .bastore => pI st fun v r => pI r fun j r => pR r fun a r => am_kd h a 52 (am_in j (hLN h a) (am_nar 4 v (am_let (sEI h a j.toNatClampNeg v) fun h1 => K (pc + len) lv r h1)))
    | .lastore => pJ st fun v r => pI r fun j r => pR r fun a r => am_kd h a 53 (am_in j (hLN h a) (am_let (sEJ h a j.toNatClampNeg v) fun h1 => K (pc + len) lv r h1))
    | .aastore => pR st fun v r => pI r fun j r => pR r fun a r => am_kd h a (x / 64) (am_kd h v (x % 64) (am_in j (hLN h a) (am_let (sER h a j.toNatClampNeg (some v)) fun h1 => K (pc + len) lv r h1)))
    | .arraylength => pR st fun a r => am_kd h a x (K (pc + len) lv (.int (Int32.ofNat (hLN h a)) :: r) h)
    | .newarray _ => pI st fun n r => am_nw n (am_let (nArr h x n.toNatClampNeg) fun h1 => K (pc + len) lv (.ref (hNX h) :: r) h1)
    | .anewarray _ => pI st fun n r => am_nw n (am_let (nArr h x n.toNatClampNeg) fun h1 => K (pc + len) lv (.ref (hNX h) :: r) h1)
    | .new _ => match x with
      | 0 => am_th st h
      | y + 1 => am_let (nObj h (y + 1)) fun h1 => K (pc + len) lv (.ref (hNX h) :: st) h1
    | .invokevirtual _ => match x % 8 with
      | 4 => am_callX call x st h (fun r h1 => K (pc + len) lv r h1) (fun r h1 => K (x / 67108864) lv r h1)
      | _ => am_call call x true st h fun r h1 => K (pc + len) lv r h1
    | .invokespecial _ => match x % 8 with
      | 5 => pR st fun a r => am_r8 r (am_kd h a (x / 256 % 64) (K (pc + len) lv r h))
      | _ => am_call call x true st h fun r h1 => K (pc + len) lv r h1
    | .invokestatic _ => match x with
      | 0 => pI st fun n r => pI r fun dp r => pR r fun dst r => pI r fun sp r => pR r fun src r => am_r8 r (am_kd h src 50 (am_kd h dst 50
          (am_cb h src sp dst dp n (am_let (sCP h src sp.toNatClampNeg dst dp.toNatClampNeg n.toNatClampNeg) fun h1 => K (pc + len) lv r h1))))
      | y + 1 => am_call call (y + 1) false st h fun r h1 => K (pc + len) lv r h1
    | .ireturn => match st with
      | [.int v] => am_nar x v (some (some (.int v), h))
      | _ => none
    | .lreturn => match st with
      | [.long v] => some (some (.long v), h)
      | _ => none
    | .areturn => match st with
      | [.ref v] => some (some (.ref v), h)
      | _ => none
    | .return_ => match st with
      | [] => some (none, h)
      | _ => none
    | _ => none
def am_fetch : List CE → Nat → Option CE
  | [], _ => none
  | e :: t, pc => match Nat.beq e.1 pc with
    | true => some e
    | false => am_fetch t pc
def am_look : List (Nat × List Nat) → Nat → Option (List Nat)
  | [], _ => none
  | q :: t, pc => match Nat.beq q.1 pc with
    | true => some q.2
    | false => am_look t pc
def am_mem : List Nat → Nat → Bool
  | [], _ => false
  | a :: t, n => match Nat.beq a n with
    | true => true
    | false => am_mem t n
/-- what is known at a head: the live locals alone -/
def am_mask (live : List Nat) : Nat → LV → LV
  | _, [] => []
  | k, v :: t => (match am_mem live k with
    | true => v
    | false => none) :: am_mask live (k + 1) t
def am_msk (hs : List (Nat × List Nat)) (pc : Nat) (lv : LV) : LV := match am_look hs pc with
  | some live => am_mask live 0 lv
  | none => lv
def am_ent1 : List Value → LV
  | [] => []
  | .long v :: t => some (.long v) :: none :: am_ent1 t
  | .double v :: t => some (.double v) :: none :: am_ent1 t
  | v :: t => some v :: am_ent1 t
/-- the locals at a method's entry -/
def am_ent (as : List Value) (n : Nat) : LV := am_ent1 as ++ List.replicate (n - (am_ent1 as).length) none
/-- arguments that fit into the locals -/
def am_fitA (as : List Value) (n : Nat) (k : Option Res) : Option Res := match Nat.ble (am_ent1 as).length n with
  | true => k
  | false => none
/-- a run of at most n instructions, calls at most d deep -/
def am_run (P : Nat → MC) : Nat → Nat → Nat → Nat → LV → List Value → AH → Option Res
  | 0, _, _, _, _, _, _ => none
  | n + 1, d, m, pc, lv, st, h => match am_fetch (P m).1 pc with
    | none => none
    | some e => stp (fun m1 as h1 => match d with
        | 0 => none
        | d1 + 1 => am_fitA as (P m1).2.2 (am_run P n d1 m1 0 (am_ent as (P m1).2.2) [] h1))
      (fun pc1 lv1 st1 h1 => am_run P n d m pc1 (am_msk (P m).2.1 pc1 lv1) st1 h1) e lv st h
