/-! AM: a small machine over a pure heap of numbers; later parts show that the true one goes its way. -/
abbrev AE : Type := (Nat × List AV) ⊕ (Nat × Nat × ((Nat → Int) ⊕ (Nat → Option Nat)))
abbrev eO (ci : Nat) (fs : List AV) : AE := .inl (ci, fs)
abbrev eA (k n : Nat) (f : Nat → Int) : AE := .inr (k, n, .inl f)
abbrev eQ (k n : Nat) (f : Nat → Option Nat) : AE := .inr (k, n, .inr f)
/-- cells by address, the next address, slots made so far, the first address of ours, the address of the marks -/
abbrev AH : Type := (Nat → Option AE) × Nat × Nat × Nat × Nat
def hup (f : Nat → Option AE) (a : Nat) (e : AE) : Nat → Option AE := fun j => if j = a then some e else f j
def hput (h : AH) (a : Nat) (e : AE) : AH := (hup h.1 a e, h.2)
def hnew (h : AH) (e : AE) (n : Nat) : AH := (hup h.1 h.2.1 e, h.2.1 + 1, h.2.2.1 + n, h.2.2.2)
def hthr (h : AH) : AH := (h.1, h.2.1 + 1, h.2.2.1 + tThr, h.2.2.2)
abbrev AO : Type := Option AV ⊕ (Nat × Nat)
def a32 (x : Int) : Int := (Int32.ofInt x).toInt
def a64 (x : Int) : Int := (Int64.ofInt x).toInt
def a8 (x : Int) : Int := (Int8.ofInt x).toInt
def a_and (x y : Int) : Int := (Int32.ofInt x &&& Int32.ofInt y).toInt
def a_div (x y : Int) : Int := (Int32.ofInt x / Int32.ofInt y).toInt
def a_ushr (x y : Int) : Int := ((Int32.ofInt x).toUInt32 >>> ((Int32.ofInt y).toUInt32 &&& Int32.toUInt32 31)).toInt32.toInt
def a_land (x y : Int) : Int := (Int64.ofInt x &&& Int64.ofInt y).toInt
def a_lor (x y : Int) : Int := (Int64.ofInt x ||| Int64.ofInt y).toInt
def a_ldiv (x y : Int) : Int := (Int64.ofInt x / Int64.ofInt y).toInt
def a_lrem (x y : Int) : Int := (Int64.ofInt x - Int64.ofInt x / Int64.ofInt y * Int64.ofInt y).toInt
def a_lshl (x y : Int) : Int := (Int64.ofInt x <<< ((Int32.ofInt y).toInt64 &&& 63)).toInt
def a_lshr (x y : Int) : Int := (Int64.ofInt x >>> ((Int32.ofInt y).toInt64 &&& 63)).toInt
def a_lushr (x y : Int) : Int := ((Int64.ofInt x).toUInt64 >>> ((Int32.ofInt y).toInt64.toUInt64 &&& Int64.toUInt64 63)).toInt64.toInt
def a_lcmp (x y : Int) : Int := if y < x then 1 else if x = y then 0 else -1
def a_nxt (pc : Nat) (off : Int) : Option Nat := match (pc : Int) + off with
  | .ofNat t => some t
  | _ => none
def a_cnd (c : Jvm.ClassFile.Cond) (x y : Int) : Bool := match c with
  | .eq => decide (x = y)
  | .ne => decide (x ≠ y)
  | .lt => decide (x < y)
  | .ge => decide (y ≤ x)
  | .gt => decide (y < x)
  | .le => decide (x ≤ y)
def a_kill (L : List AV) (i : Nat) : List AV := match i with
  | 0 => L
  | j + 1 => match L.getD j none with
    | some (.inr (.inl _)) => L.set j none
    | _ => L
def a_st1 (L : List AV) (i : Nat) (v : AV) : Option (List AV) := if i < L.length then some ((a_kill L i).set i v) else none
def a_st2 (L : List AV) (i : Nat) (v : AV) : Option (List AV) := if i + 1 < L.length then some (((a_kill L i).set i v).set (i + 1) none) else none
abbrev AS : Type := Nat × List AV × List AV × AH
def s_ldi (pc k : Nat) (L S : List AV) (h : AH) : Option AS := match L.getD k none with
  | some (.inl x) => some (pc, L, aI x :: S, h)
  | _ => none
def s_ldl (pc k : Nat) (L S : List AV) (h : AH) : Option AS := match L.getD k none with
  | some (.inr (.inl x)) => some (pc, L, aL x :: S, h)
  | _ => none
def s_lda (pc k : Nat) (L S : List AV) (h : AH) : Option AS := match L.getD k none with
  | some (.inr (.inr (some x))) => some (pc, L, aR x :: S, h)
  | _ => none
def s_sti (pc k : Nat) (L S : List AV) (h : AH) : Option AS := match S with
  | some (.inl x) :: S => (a_st1 L k (aI x)).map fun L' => (pc, L', S, h)
  | _ => none
def s_stl (pc k : Nat) (L S : List AV) (h : AH) : Option AS := match S with
  | some (.inr (.inl x)) :: S => (a_st2 L k (aL x)).map fun L' => (pc, L', S, h)
  | _ => none
def s_sta (pc k : Nat) (L S : List AV) (h : AH) : Option AS := match S with
  | some (.inr (.inr (some x))) :: S => (a_st1 L k (aR x)).map fun L' => (pc, L', S, h)
  | _ => none
def s_inc (pc k : Nat) (c : Int) (L S : List AV) (h : AH) : Option AS := match L.getD k none with
  | some (.inl x) => (a_st1 L k (aI (a32 (x + c)))).map fun L' => (pc, L', S, h)
  | _ => none
def s_ii (f : Int → Int → Int) (pc : Nat) (L S : List AV) (h : AH) : Option AS := match S with
  | some (.inl y) :: some (.inl x) :: S => some (pc, L, aI (f x y) :: S, h)
  | _ => none
def s_ll (f : Int → Int → Int) (pc : Nat) (L S : List AV) (h : AH) : Option AS := match S with
  | some (.inr (.inl y)) :: some (.inr (.inl x)) :: S => some (pc, L, aL (f x y) :: S, h)
  | _ => none
def s_li (f : Int → Int → Int) (pc : Nat) (L S : List AV) (h : AH) : Option AS := match S with
  | some (.inl y) :: some (.inr (.inl x)) :: S => some (pc, L, aL (f x y) :: S, h)
  | _ => none
def s_idv (pc : Nat) (L S : List AV) (h : AH) : Option AS := match S with
  | some (.inl y) :: some (.inl x) :: S => if y = 0 then none else some (pc, L, aI (a_div x y) :: S, h)
  | _ => none
def s_ldv (f : Int → Int → Int) (pc : Nat) (L S : List AV) (h : AH) : Option AS := match S with
  | some (.inr (.inl y)) :: some (.inr (.inl x)) :: S => if y = 0 then none else some (pc, L, aL (f x y) :: S, h)
  | _ => none
def s_lcmp (pc : Nat) (L S : List AV) (h : AH) : Option AS := match S with
  | some (.inr (.inl y)) :: some (.inr (.inl x)) :: S => some (pc, L, aI (a_lcmp x y) :: S, h)
  | _ => none
def s_i2i (f : Int → Int) (pc : Nat) (L S : List AV) (h : AH) : Option AS := match S with
  | some (.inl x) :: S => some (pc, L, aI (f x) :: S, h)
  | _ => none
def s_i2l (pc : Nat) (L S : List AV) (h : AH) : Option AS := match S with
  | some (.inl x) :: S => some (pc, L, aL x :: S, h)
  | _ => none
def s_l2i (pc : Nat) (L S : List AV) (h : AH) : Option AS := match S with
  | some (.inr (.inl x)) :: S => some (pc, L, aI (a32 x) :: S, h)
  | _ => none
def a_one (v : AV) : Bool := match v with
  | some (.inl _) => true
  | some (.inr (.inr _)) => true
  | _ => false
def s_dup (pc : Nat) (L S : List AV) (h : AH) : Option AS := match S with
  | v :: S => if a_one v then some (pc, L, v :: v :: S, h) else none
  | _ => none
def s_pop (pc : Nat) (L S : List AV) (h : AH) : Option AS := match S with
  | v :: S => if a_one v then some (pc, L, S, h) else none
  | _ => none
def s_dup2 (pc : Nat) (L S : List AV) (h : AH) : Option AS := match S with
  | v :: w :: S => if a_one v && a_one w then some (pc, L, v :: w :: v :: w :: S, h) else none
  | _ => none
def s_if (c : Jvm.ClassFile.Cond) (off : Int) (pc : Nat) (L S : List AV) (h : AH) : Option AS := match S with
  | some (.inl x) :: S => (a_nxt pc off).map fun t => (bif a_cnd c x 0 then t else pc + 3, L, S, h)
  | _ => none
def s_icmp (c : Jvm.ClassFile.Cond) (off : Int) (pc : Nat) (L S : List AV) (h : AH) : Option AS := match S with
  | some (.inl y) :: some (.inl x) :: S => (a_nxt pc off).map fun t => (bif a_cnd c x y then t else pc + 3, L, S, h)
  | _ => none
def s_goto (off : Int) (pc : Nat) (L S : List AV) (h : AH) : Option AS := (a_nxt pc off).map fun t => (t, L, S, h)
def s_tab (dflt lo hi : Int) (offs : Array Int) (pc : Nat) (L S : List AV) (h : AH) : Option AS := match S with
  | some (.inl x) :: S => if x < lo ∨ hi < x then (a_nxt pc dflt).map fun t => (t, L, S, h) else match offs[(x - lo).toNat]? with
    | some off => (a_nxt pc off).map fun t => (t, L, S, h)
    | none => none
  | _ => none
def s_get (y : AY) (idx pc : Nat) (L S : List AV) (h : AH) : Option AS := match S with
  | some (.inr (.inr (some a))) :: S => match tF y.2.1 idx with
    | some (ci, k, _) => match h.1 a with
      | some (.inl (c, fs)) => if c = ci ∧ h.2.2.2.1 ≤ a then (match fs[k]? with
        | some (some v) => some (pc + 3, L, some v :: S, h)
        | _ => none) else none
      | _ => none
    | none => none
  | _ => none
def a_fit (tag : Nat) (v : AV) : Bool := match v with
  | some (.inl _) => tag == 0
  | some (.inr (.inl _)) => tag == 1
  | some (.inr (.inr _)) => tag == 2
  | none => false
def s_put (y : AY) (idx pc : Nat) (L S : List AV) (h : AH) : Option AS := match S with
  | v :: some (.inr (.inr (some a))) :: S => match tF y.2.1 idx with
    | some (ci, k, tag, fin) => match h.1 a with
      | some (.inl (c, fs)) => if c = ci ∧ h.2.2.2.1 ≤ a ∧ k < fs.length ∧ a_fit tag v = true ∧ (fin = true → y.2.2.2.2.2 = true ∧ y.2.1 = ci) then some (pc + 3, L, S, hput h a (eO ci (fs.set k v))) else none
      | _ => none
    | none => none
  | _ => none
def s_new (y : AY) (idx pc : Nat) (L S : List AV) (h : AH) : Option AS := match tC y.2.1 idx with
  | some ci => some (pc + 3, L, aR h.2.1 :: S, hnew h (eO ci (tD ci)) (tD ci).length)
  | none => none
def a_at (t : Jvm.ClassFile.ArrayType) : Option Nat := match t with
  | .int => some 0
  | .byte => some 1
  | .long => some 2
  | _ => none
def s_newa (t : Jvm.ClassFile.ArrayType) (pc : Nat) (L S : List AV) (h : AH) : Option AS := match S with
  | some (.inl n) :: S => match a_at t with
    | some k => if 0 ≤ n ∧ n ≤ 1000000 then some (pc + 2, L, aR h.2.1 :: S, hnew h (eA k n.toNat (fun _ => 0)) n.toNat) else none
    | none => none
  | _ => none
def s_newq (y : AY) (idx pc : Nat) (L S : List AV) (h : AH) : Option AS := match S with
  | some (.inl n) :: S => match tC y.2.1 idx with
    | some ci => if ci = 0 ∧ 0 ≤ n ∧ n ≤ 1000000 then some (pc + 3, L, aR h.2.1 :: S, hnew h (eQ (3 + ci) n.toNat (fun _ => none)) n.toNat) else none
    | none => none
  | _ => none
def s_ild (k pc : Nat) (L S : List AV) (h : AH) : Option AS := match S with
  | some (.inl i) :: some (.inr (.inr (some a))) :: S => match h.1 a with
    | some (.inr (k', n, .inl f)) => if k' = k ∧ 0 ≤ i ∧ i < n then some (pc, L, (if k = 2 then aL (f i.toNat) else aI (f i.toNat)) :: S, h) else none
    | _ => none
  | _ => none
def s_qld (pc : Nat) (L S : List AV) (h : AH) : Option AS := match S with
  | some (.inl i) :: some (.inr (.inr (some a))) :: S => match h.1 a with
    | some (.inr (k, n, .inr f)) => if 3 ≤ k ∧ h.2.2.2.1 ≤ a ∧ 0 ≤ i ∧ i < n then (match f i.toNat with
      | some x => some (pc, L, aR x :: S, h)
      | none => none) else none
    | _ => none
  | _ => none
def s_ist (k pc : Nat) (g : Int → Int) (L S : List AV) (h : AH) : Option AS := match S with
  | some (.inl x) :: some (.inl i) :: some (.inr (.inr (some a))) :: S => match h.1 a with
    | some (.inr (k', n, .inl f)) => if k' = k ∧ h.2.2.2.1 ≤ a ∧ 0 ≤ i ∧ i < n then some (pc, L, S, hput h a (eA k n (va_up f i.toNat (g x)))) else none
    | _ => none
  | _ => none
def s_lst (pc : Nat) (L S : List AV) (h : AH) : Option AS := match S with
  | some (.inr (.inl x)) :: some (.inl i) :: some (.inr (.inr (some a))) :: S => match h.1 a with
    | some (.inr (k', n, .inl f)) => if k' = 2 ∧ h.2.2.2.1 ≤ a ∧ 0 ≤ i ∧ i < n then some (pc, L, S, hput h a (eA 2 n (va_up f i.toNat x))) else none
    | _ => none
  | _ => none
def s_qst (pc : Nat) (L S : List AV) (h : AH) : Option AS := match S with
  | some (.inr (.inr (some x))) :: some (.inl i) :: some (.inr (.inr (some a))) :: S => match h.1 a with
    | some (.inr (k, n, .inr f)) => match h.1 x with
      | some (.inl (ci, _)) => if k = 3 + ci ∧ h.2.2.2.1 ≤ a ∧ h.2.2.2.1 ≤ x ∧ 0 ≤ i ∧ i < n then some (pc, L, S, hput h a (eQ k n (va_up f i.toNat (some x)))) else none
      | _ => none
    | _ => none
  | _ => none
def s_len (pc : Nat) (L S : List AV) (h : AH) : Option AS := match S with
  | some (.inr (.inr (some a))) :: S => match h.1 a with
    | some (.inr (_, n, _)) => if n < 2147483648 then some (pc, L, aI n :: S, h) else none
    | _ => none
  | _ => none
def stp (y : AY) (i : Jvm.ClassFile.Instr) (len pc : Nat) (L S : List AV) (h : AH) : Option AS := match i, len with
  | .iconst n, 1 => if -1 ≤ n ∧ n ≤ 5 then some (pc + 1, L, aI n :: S, h) else none
  | .bipush n, 2 => if -128 ≤ n ∧ n ≤ 127 then some (pc + 2, L, aI n :: S, h) else none
  | .sipush n, 3 => if -32768 ≤ n ∧ n ≤ 32767 then some (pc + 3, L, aI n :: S, h) else none
  | .lconst n, 1 => some (pc + 1, L, aL (n : Nat) :: S, h)
  | .ldc x, 2 => (tI y.2.1 x).map fun v => (pc + 2, L, aI v :: S, h)
  | .ldc2_w x, 3 => (tJ y.2.1 x).map fun v => (pc + 3, L, aL v :: S, h)
  | .iload k, 2 => s_ldi (pc + 2) k L S h
  | .iload_n k, 1 => s_ldi (pc + 1) k L S h
  | .lload k, 2 => s_ldl (pc + 2) k L S h
  | .lload_n k, 1 => s_ldl (pc + 1) k L S h
  | .aload k, 2 => s_lda (pc + 2) k L S h
  | .aload_n k, 1 => s_lda (pc + 1) k L S h
  | .istore k, 2 => s_sti (pc + 2) k L S h
  | .istore_n k, 1 => s_sti (pc + 1) k L S h
  | .lstore k, 2 => s_stl (pc + 2) k L S h
  | .lstore_n k, 1 => s_stl (pc + 1) k L S h
  | .astore k, 2 => s_sta (pc + 2) k L S h
  | .astore_n k, 1 => s_sta (pc + 1) k L S h
  | .iinc k c, 3 => s_inc (pc + 3) k c L S h
  | .iinc k c, 6 => s_inc (pc + 6) k c L S h
  | .iadd, 1 => s_ii (fun x y => a32 (x + y)) (pc + 1) L S h
  | .isub, 1 => s_ii (fun x y => a32 (x - y)) (pc + 1) L S h
  | .imul, 1 => s_ii (fun x y => a32 (x * y)) (pc + 1) L S h
  | .iand, 1 => s_ii a_and (pc + 1) L S h
  | .iushr, 1 => s_ii a_ushr (pc + 1) L S h
  | .idiv, 1 => s_idv (pc + 1) L S h
  | .ineg, 1 => s_i2i (fun x => a32 (-x)) (pc + 1) L S h
  | .i2b, 1 => s_i2i a8 (pc + 1) L S h
  | .i2l, 1 => s_i2l (pc + 1) L S h
  | .l2i, 1 => s_l2i (pc + 1) L S h
  | .ladd, 1 => s_ll (fun x y => a64 (x + y)) (pc + 1) L S h
  | .lsub, 1 => s_ll (fun x y => a64 (x - y)) (pc + 1) L S h
  | .lmul, 1 => s_ll (fun x y => a64 (x * y)) (pc + 1) L S h
  | .land, 1 => s_ll a_land (pc + 1) L S h
  | .lor, 1 => s_ll a_lor (pc + 1) L S h
  | .ldiv, 1 => s_ldv a_ldiv (pc + 1) L S h
  | .lrem, 1 => s_ldv a_lrem (pc + 1) L S h
  | .lshl, 1 => s_li a_lshl (pc + 1) L S h
  | .lshr, 1 => s_li a_lshr (pc + 1) L S h
  | .lushr, 1 => s_li a_lushr (pc + 1) L S h
  | .lcmp, 1 => s_lcmp (pc + 1) L S h
  | .dup, 1 => s_dup (pc + 1) L S h
  | .pop, 1 => s_pop (pc + 1) L S h
  | .dup2, 1 => s_dup2 (pc + 1) L S h
  | .ifCond c off, 3 => s_if c off pc L S h
  | .if_icmp c off, 3 => s_icmp c off pc L S h
  | .goto off, 3 => s_goto off pc L S h
  | .tableswitch dflt lo hi offs, _ => s_tab dflt lo hi offs pc L S h
  | .getfield x, 3 => s_get y x pc L S h
  | .putfield x, 3 => s_put y x pc L S h
  | .getstatic x, 3 => if tS y.2.1 x = true then some (pc + 3, L, aR h.2.2.2.2 :: S, h) else none
  | .new x, 3 => s_new y x pc L S h
  | .newarray t, 2 => s_newa t pc L S h
  | .anewarray x, 3 => s_newq y x pc L S h
  | .iaload, 1 => s_ild 0 (pc + 1) L S h
  | .baload, 1 => s_ild 1 (pc + 1) L S h
  | .laload, 1 => s_ild 2 (pc + 1) L S h
  | .aaload, 1 => s_qld (pc + 1) L S h
  | .iastore, 1 => s_ist 0 (pc + 1) (fun x => x) L S h
  | .bastore, 1 => s_ist 1 (pc + 1) a8 L S h
  | .lastore, 1 => s_lst (pc + 1) L S h
  | .aastore, 1 => s_qst (pc + 1) L S h
  | .arraylength, 1 => s_len (pc + 1) L S h
  | _, _ => none
def a_cat (v : AV) : Nat := match v with
  | some (.inr (.inl _)) => 2
  | _ => 1
def a_wt (S : List AV) : Nat := (S.map a_cat).sum
def a_spr (As : List AV) : List AV := As.flatMap fun v => match v with
  | some (.inr (.inl x)) => [aL x, none]
  | v => [v]
def ent (y : AY) (As : List AV) : List AV := a_spr As ++ List.replicate (y.2.2.2.1 - (a_spr As).length) none
/-- the ends: a return; a new exception made and thrown at a place that the tables know -/
def fin (d : Nat) (y : AY) (i : Jvm.ClassFile.Instr) (len pc : Nat) (S : List AV) (h : AH) : Option (AO × AH) := match i, len with
  | .ireturn, 1 => match S with
    | [some (.inl x)] => if y.2.2.2.2.1 = some .int ∨ (y.2.2.2.2.1 = some .boolean ∧ (x = 0 ∨ x = 1)) then some (.inl (some (aI x)), h) else none
    | _ => none
  | .lreturn, 1 => match S with
    | [some (.inr (.inl x))] => if y.2.2.2.2.1 = some .long then some (.inl (some (aL x)), h) else none
    | _ => none
  | .areturn, 1 => match S with
    | [some (.inr (.inr (some x)))] => if tQ y.2.2.2.2.1 = true then some (.inl (some (aR x)), h) else none
    | _ => none
  | .return_, 1 => match S with
    | [] => if y.2.2.2.2.1 = none then some (.inl none, h) else none
    | _ => none
  | .new _, 3 => match tX y.1 pc with
    | some k => if 5 ≤ d ∧ a_wt S ≤ 7 then some (.inr (k, h.2.1), hthr h) else none
    | none => none
  | _, _ => none
/-- a call of a method of ours: who, with what, over what -/
def cal (y : AY) (i : Jvm.ClassFile.Instr) (len : Nat) (S : List AV) (h : AH) : Option (AY × List AV × List AV) := match i, len with
  | .invokevirtual x, 3 => match tM y.2.1 x with
    | some (0, n, z) => match S.drop n with
      | some (.inr (.inr (some a))) :: rest => match h.1 a with
        | some (.inl (ci, _)) => if ci = z.2.1 ∧ h.2.2.2.1 ≤ a ∧ (S.take n).length = n ∧ a_wt rest ≤ 8 ∧ (a_spr (aR a :: (S.take n).reverse)).length ≤ z.2.2.2.1 ∧ (S.take n).all Option.isSome = true then some (z, aR a :: (S.take n).reverse, rest) else none
        | _ => none
      | _ => none
    | _ => none
  | .invokespecial x, 3 => match tM y.2.1 x with
    | some (1, n, z) => match S.drop n with
      | some (.inr (.inr (some a))) :: rest => if (S.take n).length = n ∧ a_wt rest ≤ 8 ∧ (a_spr (aR a :: (S.take n).reverse)).length ≤ z.2.2.2.1 ∧ (S.take n).all Option.isSome = true then some (z, aR a :: (S.take n).reverse, rest) else none
      | _ => none
    | _ => none
  | .invokestatic x, 3 => match tM y.2.1 x with
    | some (2, n, z) => if (S.take n).length = n ∧ a_wt (S.drop n) ≤ 8 ∧ (a_spr (S.take n).reverse).length ≤ z.2.2.2.1 ∧ (S.take n).all Option.isSome = true then some (z, (S.take n).reverse, S.drop n) else none
    | _ => none
  | _, _ => none
/-- calls of the library that are one step here: Object(), Math.max, Math.min, System.arraycopy of bytes -/
def blt (y : AY) (i : Jvm.ClassFile.Instr) (len : Nat) (S : List AV) (h : AH) : Option (List AV × AH) := match i, len with
  | .invokespecial x, 3 => if tB y.2.1 x = some 0 then (match S with
    | some (.inr (.inr (some _))) :: S => if a_wt S ≤ 8 then some (S, h) else none
    | _ => none) else none
  | .invokestatic x, 3 => match tB y.2.1 x with
    | some 1 => match S with
      | some (.inl b) :: some (.inl a) :: S => if a_wt S ≤ 8 then some (aI (if a ≤ b then b else a) :: S, h) else none
      | _ => none
    | some 2 => match S with
      | some (.inl b) :: some (.inl a) :: S => if a_wt S ≤ 8 then some (aI (if a ≤ b then a else b) :: S, h) else none
      | _ => none
    | some 3 => match S with
      | some (.inl n) :: some (.inl dp) :: some (.inr (.inr (some b))) :: some (.inl sp) :: some (.inr (.inr (some a))) :: S => match h.1 a with
        | some (.inr (1, n0, .inl f)) => match h.1 b with
          | some (.inr (1, n1, .inl g)) => if a_wt S ≤ 8 ∧ h.2.2.2.1 ≤ a ∧ h.2.2.2.1 ≤ b ∧ a ≠ b ∧ 0 ≤ sp ∧ 0 ≤ dp ∧ 0 ≤ n ∧ sp + n ≤ n0 ∧ dp + n ≤ n1 then some (S, hput h b (eA 1 n1 (va_cpy f g sp.toNat dp.toNat n.toNat))) else none
          | _ => none
        | _ => none
      | _ => none
    | _ => none
  | _, _ => none
abbrev AG : Type := Nat → AY → Nat → List AV → List AV → AH → Option (AO × AH)
/-- what comes behind a call -/
def aft (G : AG) (d : Nat) (y : AY) (pc : Nat) (L rest : List AV) (r : AO × AH) : Option (AO × AH) := match r.1 with
  | .inl (some v) => G d y (pc + 3) L (v :: rest) r.2
  | .inl none => G d y (pc + 3) L rest r.2
  | .inr (k, x) => match tH y.1 k with
    | some t => G d y t L [aR x] r.2
    | none => some (.inr (k, x), r.2)
/-- how many levels of the room a call takes -/
def lv (z : AY) : Nat := if z.2.2.2.1 ≤ 17 then 1 else 2
def tb (y : AY) (pc : Nat) : Option (Jvm.ClassFile.Instr × Nat) := (y.2.2.1.getD (pc / 16) []).lookup pc
def gob (G : AG) : AG := fun d y pc L S h => match tb y pc with
  | none => none
  | some (i, len) => match fin d y i len pc S h with
    | some r => some r
    | none => match cal y i len S h with
      | some (z, As, rest) => if lv z ≤ d then (match G (d - lv z) z 0 (ent z As) [] h with
        | none => none
        | some r => aft G d y pc L rest r) else none
      | none => match blt y i len S h with
        | some (S', h') => G d y (pc + 3) L S' h'
        | none => match stp y i len pc L S h with
          | none => none
          | some (pc', L', S', h') => G d y pc' L' S' h'
def go : Nat → AG
  | 0 => fun _ _ _ _ _ _ => none
  | n + 1 => gob (go n)
