/-! THE SAME RUNS, FASTER for the kernel: an instruction is a number out of one large number a method; dispatch by halves. By program: wip/gen/gen31.py. -/
def fl_iadd (pc : Nat) (ls : zL) (st : List Value) (h : zH) : Option (Nat × zL × List Value × zH) := match st with
    | .int y :: .int x :: r => some (pc + 1, ls, .int (x + y) :: r, h)
    | _ => none
def fl_isub (pc : Nat) (ls : zL) (st : List Value) (h : zH) : Option (Nat × zL × List Value × zH) := match st with
    | .int y :: .int x :: r => some (pc + 1, ls, .int (x - y) :: r, h)
    | _ => none
def fl_imul (pc : Nat) (ls : zL) (st : List Value) (h : zH) : Option (Nat × zL × List Value × zH) := match st with
    | .int y :: .int x :: r => some (pc + 1, ls, .int (x * y) :: r, h)
    | _ => none
def fl_iand (pc : Nat) (ls : zL) (st : List Value) (h : zH) : Option (Nat × zL × List Value × zH) := match st with
    | .int y :: .int x :: r => some (pc + 1, ls, .int (x &&& y) :: r, h)
    | _ => none
def fl_ior (pc : Nat) (ls : zL) (st : List Value) (h : zH) : Option (Nat × zL × List Value × zH) := match st with
    | .int y :: .int x :: r => some (pc + 1, ls, .int (x ||| y) :: r, h)
    | _ => none
def fl_ixor (pc : Nat) (ls : zL) (st : List Value) (h : zH) : Option (Nat × zL × List Value × zH) := match st with
    | .int y :: .int x :: r => some (pc + 1, ls, .int (x ^^^ y) :: r, h)
    | _ => none
def fl_idiv (pc : Nat) (ls : zL) (st : List Value) (h : zH) : Option (Nat × zL × List Value × zH) := match st with
    | .int y :: .int x :: r => if y = 0 then none else some (pc + 1, ls, .int (x / y) :: r, h)
    | _ => none
def fl_irem (pc : Nat) (ls : zL) (st : List Value) (h : zH) : Option (Nat × zL × List Value × zH) := match st with
    | .int y :: .int x :: r => if y = 0 then none else some (pc + 1, ls, .int (x - x / y * y) :: r, h)
    | _ => none
def fl_ineg (pc : Nat) (ls : zL) (st : List Value) (h : zH) : Option (Nat × zL × List Value × zH) := match st with
    | .int x :: r => some (pc + 1, ls, .int (-x) :: r, h)
    | _ => none
def fl_ishl (pc : Nat) (ls : zL) (st : List Value) (h : zH) : Option (Nat × zL × List Value × zH) := match st with
    | .int y :: .int x :: r => some (pc + 1, ls, .int (x <<< (y &&& 31)) :: r, h)
    | _ => none
def fl_ishr (pc : Nat) (ls : zL) (st : List Value) (h : zH) : Option (Nat × zL × List Value × zH) := match st with
    | .int y :: .int x :: r => some (pc + 1, ls, .int (x >>> (y &&& 31)) :: r, h)
    | _ => none
def fl_iushr (pc : Nat) (ls : zL) (st : List Value) (h : zH) : Option (Nat × zL × List Value × zH) := match st with
    | .int y :: .int x :: r => some (pc + 1, ls, .int ((x.toUInt32 >>> (y.toUInt32 &&& Int32.toUInt32 31)).toInt32) :: r, h)
    | _ => none
def fl_ladd (pc : Nat) (ls : zL) (st : List Value) (h : zH) : Option (Nat × zL × List Value × zH) := match st with
    | .long y :: .long x :: r => some (pc + 1, ls, .long (x + y) :: r, h)
    | _ => none
def fl_lsub (pc : Nat) (ls : zL) (st : List Value) (h : zH) : Option (Nat × zL × List Value × zH) := match st with
    | .long y :: .long x :: r => some (pc + 1, ls, .long (x - y) :: r, h)
    | _ => none
def fl_lmul (pc : Nat) (ls : zL) (st : List Value) (h : zH) : Option (Nat × zL × List Value × zH) := match st with
    | .long y :: .long x :: r => some (pc + 1, ls, .long (x * y) :: r, h)
    | _ => none
def fl_land (pc : Nat) (ls : zL) (st : List Value) (h : zH) : Option (Nat × zL × List Value × zH) := match st with
    | .long y :: .long x :: r => some (pc + 1, ls, .long (x &&& y) :: r, h)
    | _ => none
def fl_lor (pc : Nat) (ls : zL) (st : List Value) (h : zH) : Option (Nat × zL × List Value × zH) := match st with
    | .long y :: .long x :: r => some (pc + 1, ls, .long (x ||| y) :: r, h)
    | _ => none
def fl_lxor (pc : Nat) (ls : zL) (st : List Value) (h : zH) : Option (Nat × zL × List Value × zH) := match st with
    | .long y :: .long x :: r => some (pc + 1, ls, .long (x ^^^ y) :: r, h)
    | _ => none
def fl_ldiv (pc : Nat) (ls : zL) (st : List Value) (h : zH) : Option (Nat × zL × List Value × zH) := match st with
    | .long y :: .long x :: r => if y = 0 then none else some (pc + 1, ls, .long (x / y) :: r, h)
    | _ => none
def fl_lrem (pc : Nat) (ls : zL) (st : List Value) (h : zH) : Option (Nat × zL × List Value × zH) := match st with
    | .long y :: .long x :: r => if y = 0 then none else some (pc + 1, ls, .long (x - x / y * y) :: r, h)
    | _ => none
def fl_lneg (pc : Nat) (ls : zL) (st : List Value) (h : zH) : Option (Nat × zL × List Value × zH) := match st with
    | .long x :: r => some (pc + 1, ls, .long (-x) :: r, h)
    | _ => none
def fl_lshl (pc : Nat) (ls : zL) (st : List Value) (h : zH) : Option (Nat × zL × List Value × zH) := match st with
    | .int y :: .long x :: r => some (pc + 1, ls, .long (x <<< (y.toInt64 &&& 63)) :: r, h)
    | _ => none
def fl_lshr (pc : Nat) (ls : zL) (st : List Value) (h : zH) : Option (Nat × zL × List Value × zH) := match st with
    | .int y :: .long x :: r => some (pc + 1, ls, .long (x >>> (y.toInt64 &&& 63)) :: r, h)
    | _ => none
def fl_lushr (pc : Nat) (ls : zL) (st : List Value) (h : zH) : Option (Nat × zL × List Value × zH) := match st with
    | .int y :: .long x :: r => some (pc + 1, ls, .long ((x.toUInt64 >>> (y.toInt64.toUInt64 &&& Int64.toUInt64 63)).toInt64) :: r, h)
    | _ => none
def fl_lcmp (pc : Nat) (ls : zL) (st : List Value) (h : zH) : Option (Nat × zL × List Value × zH) := match st with
    | .long y :: .long x :: r => some (pc + 1, ls, .int (lg_cmp x y) :: r, h)
    | _ => none
def fl_i2l (pc : Nat) (ls : zL) (st : List Value) (h : zH) : Option (Nat × zL × List Value × zH) := match st with
    | .int x :: r => some (pc + 1, ls, .long x.toInt64 :: r, h)
    | _ => none
def fl_l2i (pc : Nat) (ls : zL) (st : List Value) (h : zH) : Option (Nat × zL × List Value × zH) := match st with
    | .long x :: r => some (pc + 1, ls, .int x.toInt32 :: r, h)
    | _ => none
def fl_i2c (pc : Nat) (ls : zL) (st : List Value) (h : zH) : Option (Nat × zL × List Value × zH) := match st with
    | .int x :: r => some (pc + 1, ls, .int (x.toUInt32 % 65536).toInt32 :: r, h)
    | _ => none
def fl_dup (pc : Nat) (ls : zL) (st : List Value) (h : zH) : Option (Nat × zL × List Value × zH) := match st with
    | .int x :: r => some (pc + 1, ls, .int x :: .int x :: r, h)
    | .ref x :: r => some (pc + 1, ls, .ref x :: .ref x :: r, h)
    | _ => none
def fl_dup2 (pc : Nat) (ls : zL) (st : List Value) (h : zH) : Option (Nat × zL × List Value × zH) := match st with
    | .int x :: .ref a :: r => some (pc + 1, ls, .int x :: .ref a :: .int x :: .ref a :: r, h)
    | _ => none
def fl_pop (pc : Nat) (ls : zL) (st : List Value) (h : zH) : Option (Nat × zL × List Value × zH) := match st with
    | .int _ :: r => some (pc + 1, ls, r, h)
    | .ref _ :: r => some (pc + 1, ls, r, h)
    | _ => none
def fl_ifCond (c : Jvm.ClassFile.Cond) (off : Int) (pc : Nat) (ls : zL) (st : List Value) (h : zH) : Option (Nat × zL × List Value × zH) := match st with
    | .int x :: r => zbr (zicmp c x 0) pc off ls r h
    | _ => none
def fl_if_icmp (c : Jvm.ClassFile.Cond) (off : Int) (pc : Nat) (ls : zL) (st : List Value) (h : zH) : Option (Nat × zL × List Value × zH) := match st with
    | .int y :: .int x :: r => zbr (zicmp c x y) pc off ls r h
    | _ => none
def fl_goto (off : Int) (pc : Nat) (ls : zL) (st : List Value) (h : zH) : Option (Nat × zL × List Value × zH) := zjump pc off ls st h
def fl_iconst (nL : Nat) (n : Int) (pc : Nat) (ls : zL) (st : List Value) (h : zH) : Option (Nat × zL × List Value × zH) := some (pc + 1, ls, .int (Int32.ofInt n) :: st, h)
def fl_bipush (nL : Nat) (n : Int) (pc : Nat) (ls : zL) (st : List Value) (h : zH) : Option (Nat × zL × List Value × zH) := some (pc + 2, ls, .int (Int8.ofInt n).toInt32 :: st, h)
def fl_sipush (nL : Nat) (n : Int) (pc : Nat) (ls : zL) (st : List Value) (h : zH) : Option (Nat × zL × List Value × zH) := some (pc + 3, ls, .int (Int16.ofInt n).toInt32 :: st, h)
def fl_lconst (nL : Nat) (n : Fin 2) (pc : Nat) (ls : zL) (st : List Value) (h : zH) : Option (Nat × zL × List Value × zH) := some (pc + 1, ls, .long (Int64.ofNat (n : Nat)) :: st, h)
def fl_iload_n (nL : Nat) (k : Fin 4) (pc : Nat) (ls : zL) (st : List Value) (h : zH) : Option (Nat × zL × List Value × zH) := match zget ls k with
    | some (.int x) => some (pc + 1, ls, .int x :: st, h)
    | _ => none
def fl_iload (nL : Nat) (k : Nat) (pc : Nat) (ls : zL) (st : List Value) (h : zH) : Option (Nat × zL × List Value × zH) := match zget ls k with
    | some (.int x) => some (pc + 2, ls, .int x :: st, h)
    | _ => none
def fl_lload_n (nL : Nat) (k : Fin 4) (pc : Nat) (ls : zL) (st : List Value) (h : zH) : Option (Nat × zL × List Value × zH) := match zget ls k with
    | some (.long x) => some (pc + 1, ls, .long x :: st, h)
    | _ => none
def fl_lload (nL : Nat) (k : Nat) (pc : Nat) (ls : zL) (st : List Value) (h : zH) : Option (Nat × zL × List Value × zH) := match zget ls k with
    | some (.long x) => some (pc + 2, ls, .long x :: st, h)
    | _ => none
def fl_aload_n (nL : Nat) (k : Fin 4) (pc : Nat) (ls : zL) (st : List Value) (h : zH) : Option (Nat × zL × List Value × zH) := match zget ls k with
    | some (.ref x) => some (pc + 1, ls, .ref x :: st, h)
    | some (.retAddr x) => some (pc + 1, ls, .retAddr x :: st, h)
    | some .null => some (pc + 1, ls, .null :: st, h)
    | _ => none
def fl_aload (nL : Nat) (k : Nat) (pc : Nat) (ls : zL) (st : List Value) (h : zH) : Option (Nat × zL × List Value × zH) := match zget ls k with
    | some (.ref x) => some (pc + 2, ls, .ref x :: st, h)
    | some (.retAddr x) => some (pc + 2, ls, .retAddr x :: st, h)
    | some .null => some (pc + 2, ls, .null :: st, h)
    | _ => none
def fl_istore_n (nL : Nat) (k : Fin 4) (pc : Nat) (ls : zL) (st : List Value) (h : zH) : Option (Nat × zL × List Value × zH) := match st with
    | .int x :: r => if (k : Nat) < nL then some (pc + 1, zset1 ls k (.int x), r, h) else none
    | _ => none
def fl_istore (nL : Nat) (k : Nat) (pc : Nat) (ls : zL) (st : List Value) (h : zH) : Option (Nat × zL × List Value × zH) := match st with
    | .int x :: r => if k < nL then some (pc + 2, zset1 ls k (.int x), r, h) else none
    | _ => none
def fl_lstore_n (nL : Nat) (k : Fin 4) (pc : Nat) (ls : zL) (st : List Value) (h : zH) : Option (Nat × zL × List Value × zH) := match st with
    | .long x :: r => if (k : Nat) + 1 < nL then some (pc + 1, zset2 ls k (.long x), r, h) else none
    | _ => none
def fl_lstore (nL : Nat) (k : Nat) (pc : Nat) (ls : zL) (st : List Value) (h : zH) : Option (Nat × zL × List Value × zH) := match st with
    | .long x :: r => if k + 1 < nL then some (pc + 2, zset2 ls k (.long x), r, h) else none
    | _ => none
def fl_astore_n (nL : Nat) (k : Fin 4) (pc : Nat) (ls : zL) (st : List Value) (h : zH) : Option (Nat × zL × List Value × zH) := match st with
    | .ref x :: r => if (k : Nat) < nL then some (pc + 1, zset1 ls k (.ref x), r, h) else none
    | _ => none
def fl_astore (nL : Nat) (k : Nat) (pc : Nat) (ls : zL) (st : List Value) (h : zH) : Option (Nat × zL × List Value × zH) := match st with
    | .ref x :: r => if k < nL then some (pc + 2, zset1 ls k (.ref x), r, h) else none
    | _ => none
def fl_iinc (nL : Nat) (k : Nat) (n : Int) (pc : Nat) (ls : zL) (st : List Value) (h : zH) : Option (Nat × zL × List Value × zH) := match zget ls k with
    | some (.int x) => if k < nL then some (pc + 3, zset1 ls k (.int (x + Int32.ofInt n)), st, h) else none
    | _ => none
def fl_getfield (X : zX) (ini : Bool) (c : Nat) (j : Nat) (pc : Nat) (ls : zL) (st : List Value) (h : zH) : Option (Nat × zL × List Value × zH) := match st with
    | .ref a :: r => match zfld X c j, h[a]? with
      | some (ci, k), some (ci', .inr (.inr (.inr fs))) => match fs[k]? with
        | some v => if ci' = ci then some (pc + 3, ls, v :: r, h) else none
        | none => none
      | _, _ => none
    | .retAddr e :: r => match zxget X c j e with
      | some v => some (pc + 3, ls, v :: r, h)
      | none => none
    | _ => none
def fl_putfield (X : zX) (ini : Bool) (c : Nat) (j : Nat) (pc : Nat) (ls : zL) (st : List Value) (h : zH) : Option (Nat × zL × List Value × zH) := match st with
  | v0 :: _ => bif ysym v0 then none else (match st with
    | v :: .ref a :: r => match zfld X c j, h[a]? with
      | some (ci, k), some (ci', .inr (.inr (.inr fs))) => if ci' = ci ∧ k < fs.length ∧ zputs X ini c ci k v = true then some (pc + 3, ls, r, h.set a (ci, .inr (.inr (.inr (fs.set k v))))) else none
      | _, _ => none
    | _ => none)
  | [] => none
def fl_getstatic (X : zX) (ini : Bool) (c : Nat) (j : Nat) (pc : Nat) (ls : zL) (st : List Value) (h : zH) : Option (Nat × zL × List Value × zH) := match zsta X c j with
    | some v => some (pc + 3, ls, v :: st, h)
    | none => none
def fl_ldc (X : zX) (ini : Bool) (c : Nat) (j : Nat) (pc : Nat) (ls : zL) (st : List Value) (h : zH) : Option (Nat × zL × List Value × zH) := match zkon X c j with
    | some (.int x) => some (pc + 2, ls, .int x :: st, h)
    | some (.retAddr x) => some (pc + 2, ls, .retAddr x :: st, h)
    | _ => none
def fl_ldc_w (X : zX) (ini : Bool) (c : Nat) (j : Nat) (pc : Nat) (ls : zL) (st : List Value) (h : zH) : Option (Nat × zL × List Value × zH) := match zkon X c j with
    | some (.int x) => some (pc + 3, ls, .int x :: st, h)
    | _ => none
def fl_ldc2_w (X : zX) (ini : Bool) (c : Nat) (j : Nat) (pc : Nat) (ls : zL) (st : List Value) (h : zH) : Option (Nat × zL × List Value × zH) := match zkon X c j with
    | some (.long x) => some (pc + 3, ls, .long x :: st, h)
    | _ => none
def fl_iaload (X : zX) (ini : Bool) (c : Nat) (pc : Nat) (ls : zL) (st : List Value) (h : zH) : Option (Nat × zL × List Value × zH) := match st with
    | .int i :: .ref a :: r => match h[a]? with
      | some (0, .inl l) => if zidx i l.length = true then some (pc + 1, ls, .int (l.getD i.toNatClampNeg 0) :: r, h) else none
      | _ => none
    | .int i :: .retAddr e :: r => match zxarr X e with
      | some (false, l) => if zidx i l.length = true then some (pc + 1, ls, .int (l.getD i.toNatClampNeg 0) :: r, h) else none
      | _ => none
    | _ => none
def fl_baload (X : zX) (ini : Bool) (c : Nat) (pc : Nat) (ls : zL) (st : List Value) (h : zH) : Option (Nat × zL × List Value × zH) := match st with
    | .int i :: .ref a :: r => match h[a]? with
      | some (2, .inl l) => if zidx i l.length = true then some (pc + 1, ls, .int (l.getD i.toNatClampNeg 0) :: r, h) else none
      | _ => none
    | .int i :: .retAddr e :: r => match zxarr X e with
      | some (true, l) => if zidx i l.length = true then some (pc + 1, ls, .int (l.getD i.toNatClampNeg 0) :: r, h) else none
      | _ => none
    | _ => none
def fl_laload (X : zX) (ini : Bool) (c : Nat) (pc : Nat) (ls : zL) (st : List Value) (h : zH) : Option (Nat × zL × List Value × zH) := match st with
    | .int i :: .ref a :: r => match h[a]? with
      | some (1, .inr (.inl l)) => if zidx i l.length = true then some (pc + 1, ls, .long (l.getD i.toNatClampNeg 0) :: r, h) else none
      | _ => none
    | _ => none
def fl_aaload (X : zX) (ini : Bool) (c : Nat) (pc : Nat) (ls : zL) (st : List Value) (h : zH) : Option (Nat × zL × List Value × zH) := match st with
    | .int i :: .ref a :: r => match h[a]? with
      | some (3, .inr (.inr (.inl l))) => if zidx i l.length = true then some (pc + 1, ls, zrv (l.getD i.toNatClampNeg none) :: r, h) else none
      | _ => none
    | _ => none
def fl_iastore (X : zX) (ini : Bool) (c : Nat) (pc : Nat) (ls : zL) (st : List Value) (h : zH) : Option (Nat × zL × List Value × zH) := match st with
    | .int x :: .int i :: .ref a :: r => match h[a]? with
      | some (0, .inl l) => if zidx i l.length = true then some (pc + 1, ls, r, h.set a (0, .inl (l.set i.toNatClampNeg x))) else none
      | _ => none
    | _ => none
def fl_bastore (X : zX) (ini : Bool) (c : Nat) (pc : Nat) (ls : zL) (st : List Value) (h : zH) : Option (Nat × zL × List Value × zH) := match st with
    | .int x :: .int i :: .ref a :: r => match h[a]? with
      | some (2, .inl l) => if zidx i l.length = true then some (pc + 1, ls, r, h.set a (2, .inl (l.set i.toNatClampNeg (x &&& 1)))) else none
      | _ => none
    | _ => none
def fl_lastore (X : zX) (ini : Bool) (c : Nat) (pc : Nat) (ls : zL) (st : List Value) (h : zH) : Option (Nat × zL × List Value × zH) := match st with
    | .long x :: .int i :: .ref a :: r => match h[a]? with
      | some (1, .inr (.inl l)) => if zidx i l.length = true then some (pc + 1, ls, r, h.set a (1, .inr (.inl (l.set i.toNatClampNeg x)))) else none
      | _ => none
    | _ => none
def fl_aastore (X : zX) (ini : Bool) (c : Nat) (pc : Nat) (ls : zL) (st : List Value) (h : zH) : Option (Nat × zL × List Value × zH) := match st with
    | .ref v :: .int i :: .ref a :: r => match h[a]?, h[v]? with
      | some (3, .inr (.inr (.inl l))), some (ci, .inr (.inr (.inr _))) => if zidx i l.length = true ∧ ci = zpc X then some (pc + 1, ls, r, h.set a (3, .inr (.inr (.inl (l.set i.toNatClampNeg (some v)))))) else none
      | _, _ => none
    | _ => none
def fl_arraylength (X : zX) (ini : Bool) (c : Nat) (pc : Nat) (ls : zL) (st : List Value) (h : zH) : Option (Nat × zL × List Value × zH) := match st with
    | .ref a :: r => match h[a]? with
      | some (0, .inl l) => some (pc + 1, ls, .int (Int32.ofNat l.length) :: r, h)
      | some (2, .inl l) => some (pc + 1, ls, .int (Int32.ofNat l.length) :: r, h)
      | some (1, .inr (.inl l)) => some (pc + 1, ls, .int (Int32.ofNat l.length) :: r, h)
      | some (3, .inr (.inr (.inl l))) => some (pc + 1, ls, .int (Int32.ofNat l.length) :: r, h)
      | _ => none
    | .retAddr e :: r => match zxarr X e with
      | some (_, l) => some (pc + 1, ls, .int (Int32.ofNat l.length) :: r, h)
      | _ => none
    | _ => none
def fl_new (X : zX) (ini : Bool) (c : Nat) (j : Nat) (pc : Nat) (ls : zL) (st : List Value) (h : zH) : Option (Nat × zL × List Value × zH) := match znew X c j with
    | some (ci, fs) => some (pc + 3, ls, .ref h.length :: st, h ++ [(ci, .inr (.inr (.inr fs)))])
    | none => none
def fl_newarray_int (X : zX) (ini : Bool) (c : Nat) (pc : Nat) (ls : zL) (st : List Value) (h : zH) : Option (Nat × zL × List Value × zH) := match st with
    | .int n :: r => if n < 0 ∨ 1000000 < n.toNatClampNeg then none else some (pc + 2, ls, .ref h.length :: r, h ++ [(0, .inl (List.replicate n.toNatClampNeg 0))])
    | _ => none
def fl_newarray_boolean (X : zX) (ini : Bool) (c : Nat) (pc : Nat) (ls : zL) (st : List Value) (h : zH) : Option (Nat × zL × List Value × zH) := match st with
    | .int n :: r => if n < 0 ∨ 1000000 < n.toNatClampNeg then none else some (pc + 2, ls, .ref h.length :: r, h ++ [(2, .inl (List.replicate n.toNatClampNeg 0))])
    | _ => none
def fl_newarray_long (X : zX) (ini : Bool) (c : Nat) (pc : Nat) (ls : zL) (st : List Value) (h : zH) : Option (Nat × zL × List Value × zH) := match st with
    | .int n :: r => if n < 0 ∨ 1000000 < n.toNatClampNeg then none else some (pc + 2, ls, .ref h.length :: r, h ++ [(1, .inr (.inl (List.replicate n.toNatClampNeg 0)))])
    | _ => none
def fl_anewarray (X : zX) (ini : Bool) (c : Nat) (j : Nat) (pc : Nat) (ls : zL) (st : List Value) (h : zH) : Option (Nat × zL × List Value × zH) := match st with
    | .int n :: r => if n < 0 ∨ 1000000 < n.toNatClampNeg ∨ zisP X c j = false then none else some (pc + 3, ls, .ref h.length :: r, h ++ [(3, .inr (.inr (.inl (List.replicate n.toNatClampNeg none))))])
    | _ => none
def fd_1_3 (X : zX) (nL : Nat) (ini : Bool) (c : Nat) (op a b : Nat) (pc : Nat) (ls : zL) (st : List Value) (h : zH) : Option (Nat × zL × List Value × zH) := bif Nat.ble 2 op then fl_isub pc ls st h else fl_iadd pc ls st h
def fd_4_6 (X : zX) (nL : Nat) (ini : Bool) (c : Nat) (op a b : Nat) (pc : Nat) (ls : zL) (st : List Value) (h : zH) : Option (Nat × zL × List Value × zH) := bif Nat.ble 5 op then fl_ior pc ls st h else fl_iand pc ls st h
def fd_3_6 (X : zX) (nL : Nat) (ini : Bool) (c : Nat) (op a b : Nat) (pc : Nat) (ls : zL) (st : List Value) (h : zH) : Option (Nat × zL × List Value × zH) := bif Nat.ble 4 op then fd_4_6 X nL ini c op a b pc ls st h else fl_imul pc ls st h
def fd_1_6 (X : zX) (nL : Nat) (ini : Bool) (c : Nat) (op a b : Nat) (pc : Nat) (ls : zL) (st : List Value) (h : zH) : Option (Nat × zL × List Value × zH) := bif Nat.ble 3 op then fd_3_6 X nL ini c op a b pc ls st h else fd_1_3 X nL ini c op a b pc ls st h
def fd_6_8 (X : zX) (nL : Nat) (ini : Bool) (c : Nat) (op a b : Nat) (pc : Nat) (ls : zL) (st : List Value) (h : zH) : Option (Nat × zL × List Value × zH) := bif Nat.ble 7 op then fl_idiv pc ls st h else fl_ixor pc ls st h
def fd_9_11 (X : zX) (nL : Nat) (ini : Bool) (c : Nat) (op a b : Nat) (pc : Nat) (ls : zL) (st : List Value) (h : zH) : Option (Nat × zL × List Value × zH) := bif Nat.ble 10 op then fl_ishl pc ls st h else fl_ineg pc ls st h
def fd_8_11 (X : zX) (nL : Nat) (ini : Bool) (c : Nat) (op a b : Nat) (pc : Nat) (ls : zL) (st : List Value) (h : zH) : Option (Nat × zL × List Value × zH) := bif Nat.ble 9 op then fd_9_11 X nL ini c op a b pc ls st h else fl_irem pc ls st h
def fd_6_11 (X : zX) (nL : Nat) (ini : Bool) (c : Nat) (op a b : Nat) (pc : Nat) (ls : zL) (st : List Value) (h : zH) : Option (Nat × zL × List Value × zH) := bif Nat.ble 8 op then fd_8_11 X nL ini c op a b pc ls st h else fd_6_8 X nL ini c op a b pc ls st h
def fd_1_11 (X : zX) (nL : Nat) (ini : Bool) (c : Nat) (op a b : Nat) (pc : Nat) (ls : zL) (st : List Value) (h : zH) : Option (Nat × zL × List Value × zH) := bif Nat.ble 6 op then fd_6_11 X nL ini c op a b pc ls st h else fd_1_6 X nL ini c op a b pc ls st h
def fd_11_13 (X : zX) (nL : Nat) (ini : Bool) (c : Nat) (op a b : Nat) (pc : Nat) (ls : zL) (st : List Value) (h : zH) : Option (Nat × zL × List Value × zH) := bif Nat.ble 12 op then fl_iushr pc ls st h else fl_ishr pc ls st h
def fd_14_16 (X : zX) (nL : Nat) (ini : Bool) (c : Nat) (op a b : Nat) (pc : Nat) (ls : zL) (st : List Value) (h : zH) : Option (Nat × zL × List Value × zH) := bif Nat.ble 15 op then fl_lmul pc ls st h else fl_lsub pc ls st h
def fd_13_16 (X : zX) (nL : Nat) (ini : Bool) (c : Nat) (op a b : Nat) (pc : Nat) (ls : zL) (st : List Value) (h : zH) : Option (Nat × zL × List Value × zH) := bif Nat.ble 14 op then fd_14_16 X nL ini c op a b pc ls st h else fl_ladd pc ls st h
def fd_11_16 (X : zX) (nL : Nat) (ini : Bool) (c : Nat) (op a b : Nat) (pc : Nat) (ls : zL) (st : List Value) (h : zH) : Option (Nat × zL × List Value × zH) := bif Nat.ble 13 op then fd_13_16 X nL ini c op a b pc ls st h else fd_11_13 X nL ini c op a b pc ls st h
def fd_16_18 (X : zX) (nL : Nat) (ini : Bool) (c : Nat) (op a b : Nat) (pc : Nat) (ls : zL) (st : List Value) (h : zH) : Option (Nat × zL × List Value × zH) := bif Nat.ble 17 op then fl_lor pc ls st h else fl_land pc ls st h
def fd_19_21 (X : zX) (nL : Nat) (ini : Bool) (c : Nat) (op a b : Nat) (pc : Nat) (ls : zL) (st : List Value) (h : zH) : Option (Nat × zL × List Value × zH) := bif Nat.ble 20 op then fl_lrem pc ls st h else fl_ldiv pc ls st h
def fd_18_21 (X : zX) (nL : Nat) (ini : Bool) (c : Nat) (op a b : Nat) (pc : Nat) (ls : zL) (st : List Value) (h : zH) : Option (Nat × zL × List Value × zH) := bif Nat.ble 19 op then fd_19_21 X nL ini c op a b pc ls st h else fl_lxor pc ls st h
def fd_16_21 (X : zX) (nL : Nat) (ini : Bool) (c : Nat) (op a b : Nat) (pc : Nat) (ls : zL) (st : List Value) (h : zH) : Option (Nat × zL × List Value × zH) := bif Nat.ble 18 op then fd_18_21 X nL ini c op a b pc ls st h else fd_16_18 X nL ini c op a b pc ls st h
def fd_11_21 (X : zX) (nL : Nat) (ini : Bool) (c : Nat) (op a b : Nat) (pc : Nat) (ls : zL) (st : List Value) (h : zH) : Option (Nat × zL × List Value × zH) := bif Nat.ble 16 op then fd_16_21 X nL ini c op a b pc ls st h else fd_11_16 X nL ini c op a b pc ls st h
def fd_1_21 (X : zX) (nL : Nat) (ini : Bool) (c : Nat) (op a b : Nat) (pc : Nat) (ls : zL) (st : List Value) (h : zH) : Option (Nat × zL × List Value × zH) := bif Nat.ble 11 op then fd_11_21 X nL ini c op a b pc ls st h else fd_1_11 X nL ini c op a b pc ls st h
def fd_21_23 (X : zX) (nL : Nat) (ini : Bool) (c : Nat) (op a b : Nat) (pc : Nat) (ls : zL) (st : List Value) (h : zH) : Option (Nat × zL × List Value × zH) := bif Nat.ble 22 op then fl_lshl pc ls st h else fl_lneg pc ls st h
def fd_24_26 (X : zX) (nL : Nat) (ini : Bool) (c : Nat) (op a b : Nat) (pc : Nat) (ls : zL) (st : List Value) (h : zH) : Option (Nat × zL × List Value × zH) := bif Nat.ble 25 op then fl_lcmp pc ls st h else fl_lushr pc ls st h
def fd_23_26 (X : zX) (nL : Nat) (ini : Bool) (c : Nat) (op a b : Nat) (pc : Nat) (ls : zL) (st : List Value) (h : zH) : Option (Nat × zL × List Value × zH) := bif Nat.ble 24 op then fd_24_26 X nL ini c op a b pc ls st h else fl_lshr pc ls st h
def fd_21_26 (X : zX) (nL : Nat) (ini : Bool) (c : Nat) (op a b : Nat) (pc : Nat) (ls : zL) (st : List Value) (h : zH) : Option (Nat × zL × List Value × zH) := bif Nat.ble 23 op then fd_23_26 X nL ini c op a b pc ls st h else fd_21_23 X nL ini c op a b pc ls st h
def fd_26_28 (X : zX) (nL : Nat) (ini : Bool) (c : Nat) (op a b : Nat) (pc : Nat) (ls : zL) (st : List Value) (h : zH) : Option (Nat × zL × List Value × zH) := bif Nat.ble 27 op then fl_l2i pc ls st h else fl_i2l pc ls st h
def fd_29_31 (X : zX) (nL : Nat) (ini : Bool) (c : Nat) (op a b : Nat) (pc : Nat) (ls : zL) (st : List Value) (h : zH) : Option (Nat × zL × List Value × zH) := bif Nat.ble 30 op then fl_dup2 pc ls st h else fl_dup pc ls st h
def fd_28_31 (X : zX) (nL : Nat) (ini : Bool) (c : Nat) (op a b : Nat) (pc : Nat) (ls : zL) (st : List Value) (h : zH) : Option (Nat × zL × List Value × zH) := bif Nat.ble 29 op then fd_29_31 X nL ini c op a b pc ls st h else fl_i2c pc ls st h
def fd_26_31 (X : zX) (nL : Nat) (ini : Bool) (c : Nat) (op a b : Nat) (pc : Nat) (ls : zL) (st : List Value) (h : zH) : Option (Nat × zL × List Value × zH) := bif Nat.ble 28 op then fd_28_31 X nL ini c op a b pc ls st h else fd_26_28 X nL ini c op a b pc ls st h
def fd_21_31 (X : zX) (nL : Nat) (ini : Bool) (c : Nat) (op a b : Nat) (pc : Nat) (ls : zL) (st : List Value) (h : zH) : Option (Nat × zL × List Value × zH) := bif Nat.ble 26 op then fd_26_31 X nL ini c op a b pc ls st h else fd_21_26 X nL ini c op a b pc ls st h
def fd_31_33 (X : zX) (nL : Nat) (ini : Bool) (c : Nat) (op a b : Nat) (pc : Nat) (ls : zL) (st : List Value) (h : zH) : Option (Nat × zL × List Value × zH) := bif Nat.ble 32 op then fl_ifCond .eq ((b : Int) - 32768) pc ls st h else fl_pop pc ls st h
def fd_34_36 (X : zX) (nL : Nat) (ini : Bool) (c : Nat) (op a b : Nat) (pc : Nat) (ls : zL) (st : List Value) (h : zH) : Option (Nat × zL × List Value × zH) := bif Nat.ble 35 op then fl_ifCond .ge ((b : Int) - 32768) pc ls st h else fl_ifCond .lt ((b : Int) - 32768) pc ls st h
def fd_33_36 (X : zX) (nL : Nat) (ini : Bool) (c : Nat) (op a b : Nat) (pc : Nat) (ls : zL) (st : List Value) (h : zH) : Option (Nat × zL × List Value × zH) := bif Nat.ble 34 op then fd_34_36 X nL ini c op a b pc ls st h else fl_ifCond .ne ((b : Int) - 32768) pc ls st h
def fd_31_36 (X : zX) (nL : Nat) (ini : Bool) (c : Nat) (op a b : Nat) (pc : Nat) (ls : zL) (st : List Value) (h : zH) : Option (Nat × zL × List Value × zH) := bif Nat.ble 33 op then fd_33_36 X nL ini c op a b pc ls st h else fd_31_33 X nL ini c op a b pc ls st h
def fd_36_38 (X : zX) (nL : Nat) (ini : Bool) (c : Nat) (op a b : Nat) (pc : Nat) (ls : zL) (st : List Value) (h : zH) : Option (Nat × zL × List Value × zH) := bif Nat.ble 37 op then fl_ifCond .le ((b : Int) - 32768) pc ls st h else fl_ifCond .gt ((b : Int) - 32768) pc ls st h
def fd_39_41 (X : zX) (nL : Nat) (ini : Bool) (c : Nat) (op a b : Nat) (pc : Nat) (ls : zL) (st : List Value) (h : zH) : Option (Nat × zL × List Value × zH) := bif Nat.ble 40 op then fl_if_icmp .lt ((b : Int) - 32768) pc ls st h else fl_if_icmp .ne ((b : Int) - 32768) pc ls st h
def fd_38_41 (X : zX) (nL : Nat) (ini : Bool) (c : Nat) (op a b : Nat) (pc : Nat) (ls : zL) (st : List Value) (h : zH) : Option (Nat × zL × List Value × zH) := bif Nat.ble 39 op then fd_39_41 X nL ini c op a b pc ls st h else fl_if_icmp .eq ((b : Int) - 32768) pc ls st h
def fd_36_41 (X : zX) (nL : Nat) (ini : Bool) (c : Nat) (op a b : Nat) (pc : Nat) (ls : zL) (st : List Value) (h : zH) : Option (Nat × zL × List Value × zH) := bif Nat.ble 38 op then fd_38_41 X nL ini c op a b pc ls st h else fd_36_38 X nL ini c op a b pc ls st h
def fd_31_41 (X : zX) (nL : Nat) (ini : Bool) (c : Nat) (op a b : Nat) (pc : Nat) (ls : zL) (st : List Value) (h : zH) : Option (Nat × zL × List Value × zH) := bif Nat.ble 36 op then fd_36_41 X nL ini c op a b pc ls st h else fd_31_36 X nL ini c op a b pc ls st h
def fd_21_41 (X : zX) (nL : Nat) (ini : Bool) (c : Nat) (op a b : Nat) (pc : Nat) (ls : zL) (st : List Value) (h : zH) : Option (Nat × zL × List Value × zH) := bif Nat.ble 31 op then fd_31_41 X nL ini c op a b pc ls st h else fd_21_31 X nL ini c op a b pc ls st h
def fd_1_41 (X : zX) (nL : Nat) (ini : Bool) (c : Nat) (op a b : Nat) (pc : Nat) (ls : zL) (st : List Value) (h : zH) : Option (Nat × zL × List Value × zH) := bif Nat.ble 21 op then fd_21_41 X nL ini c op a b pc ls st h else fd_1_21 X nL ini c op a b pc ls st h
def fd_41_43 (X : zX) (nL : Nat) (ini : Bool) (c : Nat) (op a b : Nat) (pc : Nat) (ls : zL) (st : List Value) (h : zH) : Option (Nat × zL × List Value × zH) := bif Nat.ble 42 op then fl_if_icmp .gt ((b : Int) - 32768) pc ls st h else fl_if_icmp .ge ((b : Int) - 32768) pc ls st h
def fd_44_46 (X : zX) (nL : Nat) (ini : Bool) (c : Nat) (op a b : Nat) (pc : Nat) (ls : zL) (st : List Value) (h : zH) : Option (Nat × zL × List Value × zH) := bif Nat.ble 45 op then fl_iconst nL ((a : Int) - 32768) pc ls st h else fl_goto ((b : Int) - 32768) pc ls st h
def fd_43_46 (X : zX) (nL : Nat) (ini : Bool) (c : Nat) (op a b : Nat) (pc : Nat) (ls : zL) (st : List Value) (h : zH) : Option (Nat × zL × List Value × zH) := bif Nat.ble 44 op then fd_44_46 X nL ini c op a b pc ls st h else fl_if_icmp .le ((b : Int) - 32768) pc ls st h
def fd_41_46 (X : zX) (nL : Nat) (ini : Bool) (c : Nat) (op a b : Nat) (pc : Nat) (ls : zL) (st : List Value) (h : zH) : Option (Nat × zL × List Value × zH) := bif Nat.ble 43 op then fd_43_46 X nL ini c op a b pc ls st h else fd_41_43 X nL ini c op a b pc ls st h
def fd_46_48 (X : zX) (nL : Nat) (ini : Bool) (c : Nat) (op a b : Nat) (pc : Nat) (ls : zL) (st : List Value) (h : zH) : Option (Nat × zL × List Value × zH) := bif Nat.ble 47 op then fl_sipush nL ((a : Int) - 32768) pc ls st h else fl_bipush nL ((a : Int) - 32768) pc ls st h
def fd_49_51 (X : zX) (nL : Nat) (ini : Bool) (c : Nat) (op a b : Nat) (pc : Nat) (ls : zL) (st : List Value) (h : zH) : Option (Nat × zL × List Value × zH) := bif Nat.ble 50 op then fl_iload nL a pc ls st h else fl_iload_n nL (Fin.ofNat 4 a) pc ls st h
def fd_48_51 (X : zX) (nL : Nat) (ini : Bool) (c : Nat) (op a b : Nat) (pc : Nat) (ls : zL) (st : List Value) (h : zH) : Option (Nat × zL × List Value × zH) := bif Nat.ble 49 op then fd_49_51 X nL ini c op a b pc ls st h else fl_lconst nL (Fin.ofNat 2 a) pc ls st h
def fd_46_51 (X : zX) (nL : Nat) (ini : Bool) (c : Nat) (op a b : Nat) (pc : Nat) (ls : zL) (st : List Value) (h : zH) : Option (Nat × zL × List Value × zH) := bif Nat.ble 48 op then fd_48_51 X nL ini c op a b pc ls st h else fd_46_48 X nL ini c op a b pc ls st h
def fd_41_51 (X : zX) (nL : Nat) (ini : Bool) (c : Nat) (op a b : Nat) (pc : Nat) (ls : zL) (st : List Value) (h : zH) : Option (Nat × zL × List Value × zH) := bif Nat.ble 46 op then fd_46_51 X nL ini c op a b pc ls st h else fd_41_46 X nL ini c op a b pc ls st h
def fd_51_53 (X : zX) (nL : Nat) (ini : Bool) (c : Nat) (op a b : Nat) (pc : Nat) (ls : zL) (st : List Value) (h : zH) : Option (Nat × zL × List Value × zH) := bif Nat.ble 52 op then fl_lload nL a pc ls st h else fl_lload_n nL (Fin.ofNat 4 a) pc ls st h
def fd_54_56 (X : zX) (nL : Nat) (ini : Bool) (c : Nat) (op a b : Nat) (pc : Nat) (ls : zL) (st : List Value) (h : zH) : Option (Nat × zL × List Value × zH) := bif Nat.ble 55 op then fl_istore_n nL (Fin.ofNat 4 a) pc ls st h else fl_aload nL a pc ls st h
def fd_53_56 (X : zX) (nL : Nat) (ini : Bool) (c : Nat) (op a b : Nat) (pc : Nat) (ls : zL) (st : List Value) (h : zH) : Option (Nat × zL × List Value × zH) := bif Nat.ble 54 op then fd_54_56 X nL ini c op a b pc ls st h else fl_aload_n nL (Fin.ofNat 4 a) pc ls st h
def fd_51_56 (X : zX) (nL : Nat) (ini : Bool) (c : Nat) (op a b : Nat) (pc : Nat) (ls : zL) (st : List Value) (h : zH) : Option (Nat × zL × List Value × zH) := bif Nat.ble 53 op then fd_53_56 X nL ini c op a b pc ls st h else fd_51_53 X nL ini c op a b pc ls st h
def fd_56_58 (X : zX) (nL : Nat) (ini : Bool) (c : Nat) (op a b : Nat) (pc : Nat) (ls : zL) (st : List Value) (h : zH) : Option (Nat × zL × List Value × zH) := bif Nat.ble 57 op then fl_lstore_n nL (Fin.ofNat 4 a) pc ls st h else fl_istore nL a pc ls st h
def fd_59_61 (X : zX) (nL : Nat) (ini : Bool) (c : Nat) (op a b : Nat) (pc : Nat) (ls : zL) (st : List Value) (h : zH) : Option (Nat × zL × List Value × zH) := bif Nat.ble 60 op then fl_astore nL a pc ls st h else fl_astore_n nL (Fin.ofNat 4 a) pc ls st h
def fd_58_61 (X : zX) (nL : Nat) (ini : Bool) (c : Nat) (op a b : Nat) (pc : Nat) (ls : zL) (st : List Value) (h : zH) : Option (Nat × zL × List Value × zH) := bif Nat.ble 59 op then fd_59_61 X nL ini c op a b pc ls st h else fl_lstore nL a pc ls st h
def fd_56_61 (X : zX) (nL : Nat) (ini : Bool) (c : Nat) (op a b : Nat) (pc : Nat) (ls : zL) (st : List Value) (h : zH) : Option (Nat × zL × List Value × zH) := bif Nat.ble 58 op then fd_58_61 X nL ini c op a b pc ls st h else fd_56_58 X nL ini c op a b pc ls st h
def fd_51_61 (X : zX) (nL : Nat) (ini : Bool) (c : Nat) (op a b : Nat) (pc : Nat) (ls : zL) (st : List Value) (h : zH) : Option (Nat × zL × List Value × zH) := bif Nat.ble 56 op then fd_56_61 X nL ini c op a b pc ls st h else fd_51_56 X nL ini c op a b pc ls st h
def fd_41_61 (X : zX) (nL : Nat) (ini : Bool) (c : Nat) (op a b : Nat) (pc : Nat) (ls : zL) (st : List Value) (h : zH) : Option (Nat × zL × List Value × zH) := bif Nat.ble 51 op then fd_51_61 X nL ini c op a b pc ls st h else fd_41_51 X nL ini c op a b pc ls st h
def fd_61_63 (X : zX) (nL : Nat) (ini : Bool) (c : Nat) (op a b : Nat) (pc : Nat) (ls : zL) (st : List Value) (h : zH) : Option (Nat × zL × List Value × zH) := bif Nat.ble 62 op then fl_getfield X ini c a pc ls st h else fl_iinc nL a ((b : Int) - 32768) pc ls st h
def fd_64_66 (X : zX) (nL : Nat) (ini : Bool) (c : Nat) (op a b : Nat) (pc : Nat) (ls : zL) (st : List Value) (h : zH) : Option (Nat × zL × List Value × zH) := bif Nat.ble 65 op then fl_ldc X ini c a pc ls st h else fl_getstatic X ini c a pc ls st h
def fd_63_66 (X : zX) (nL : Nat) (ini : Bool) (c : Nat) (op a b : Nat) (pc : Nat) (ls : zL) (st : List Value) (h : zH) : Option (Nat × zL × List Value × zH) := bif Nat.ble 64 op then fd_64_66 X nL ini c op a b pc ls st h else fl_putfield X ini c a pc ls st h
def fd_61_66 (X : zX) (nL : Nat) (ini : Bool) (c : Nat) (op a b : Nat) (pc : Nat) (ls : zL) (st : List Value) (h : zH) : Option (Nat × zL × List Value × zH) := bif Nat.ble 63 op then fd_63_66 X nL ini c op a b pc ls st h else fd_61_63 X nL ini c op a b pc ls st h
def fd_66_68 (X : zX) (nL : Nat) (ini : Bool) (c : Nat) (op a b : Nat) (pc : Nat) (ls : zL) (st : List Value) (h : zH) : Option (Nat × zL × List Value × zH) := bif Nat.ble 67 op then fl_ldc2_w X ini c a pc ls st h else fl_ldc_w X ini c a pc ls st h
def fd_69_71 (X : zX) (nL : Nat) (ini : Bool) (c : Nat) (op a b : Nat) (pc : Nat) (ls : zL) (st : List Value) (h : zH) : Option (Nat × zL × List Value × zH) := bif Nat.ble 70 op then fl_laload X ini c pc ls st h else fl_baload X ini c pc ls st h
def fd_68_71 (X : zX) (nL : Nat) (ini : Bool) (c : Nat) (op a b : Nat) (pc : Nat) (ls : zL) (st : List Value) (h : zH) : Option (Nat × zL × List Value × zH) := bif Nat.ble 69 op then fd_69_71 X nL ini c op a b pc ls st h else fl_iaload X ini c pc ls st h
def fd_66_71 (X : zX) (nL : Nat) (ini : Bool) (c : Nat) (op a b : Nat) (pc : Nat) (ls : zL) (st : List Value) (h : zH) : Option (Nat × zL × List Value × zH) := bif Nat.ble 68 op then fd_68_71 X nL ini c op a b pc ls st h else fd_66_68 X nL ini c op a b pc ls st h
def fd_61_71 (X : zX) (nL : Nat) (ini : Bool) (c : Nat) (op a b : Nat) (pc : Nat) (ls : zL) (st : List Value) (h : zH) : Option (Nat × zL × List Value × zH) := bif Nat.ble 66 op then fd_66_71 X nL ini c op a b pc ls st h else fd_61_66 X nL ini c op a b pc ls st h
def fd_71_73 (X : zX) (nL : Nat) (ini : Bool) (c : Nat) (op a b : Nat) (pc : Nat) (ls : zL) (st : List Value) (h : zH) : Option (Nat × zL × List Value × zH) := bif Nat.ble 72 op then fl_iastore X ini c pc ls st h else fl_aaload X ini c pc ls st h
def fd_74_76 (X : zX) (nL : Nat) (ini : Bool) (c : Nat) (op a b : Nat) (pc : Nat) (ls : zL) (st : List Value) (h : zH) : Option (Nat × zL × List Value × zH) := bif Nat.ble 75 op then fl_aastore X ini c pc ls st h else fl_lastore X ini c pc ls st h
def fd_73_76 (X : zX) (nL : Nat) (ini : Bool) (c : Nat) (op a b : Nat) (pc : Nat) (ls : zL) (st : List Value) (h : zH) : Option (Nat × zL × List Value × zH) := bif Nat.ble 74 op then fd_74_76 X nL ini c op a b pc ls st h else fl_bastore X ini c pc ls st h
def fd_71_76 (X : zX) (nL : Nat) (ini : Bool) (c : Nat) (op a b : Nat) (pc : Nat) (ls : zL) (st : List Value) (h : zH) : Option (Nat × zL × List Value × zH) := bif Nat.ble 73 op then fd_73_76 X nL ini c op a b pc ls st h else fd_71_73 X nL ini c op a b pc ls st h
def fd_77_79 (X : zX) (nL : Nat) (ini : Bool) (c : Nat) (op a b : Nat) (pc : Nat) (ls : zL) (st : List Value) (h : zH) : Option (Nat × zL × List Value × zH) := bif Nat.ble 78 op then fl_newarray_int X ini c pc ls st h else fl_new X ini c a pc ls st h
def fd_76_79 (X : zX) (nL : Nat) (ini : Bool) (c : Nat) (op a b : Nat) (pc : Nat) (ls : zL) (st : List Value) (h : zH) : Option (Nat × zL × List Value × zH) := bif Nat.ble 77 op then fd_77_79 X nL ini c op a b pc ls st h else fl_arraylength X ini c pc ls st h
def fd_80_82 (X : zX) (nL : Nat) (ini : Bool) (c : Nat) (op a b : Nat) (pc : Nat) (ls : zL) (st : List Value) (h : zH) : Option (Nat × zL × List Value × zH) := bif Nat.ble 81 op then fl_anewarray X ini c a pc ls st h else fl_newarray_long X ini c pc ls st h
def fd_79_82 (X : zX) (nL : Nat) (ini : Bool) (c : Nat) (op a b : Nat) (pc : Nat) (ls : zL) (st : List Value) (h : zH) : Option (Nat × zL × List Value × zH) := bif Nat.ble 80 op then fd_80_82 X nL ini c op a b pc ls st h else fl_newarray_boolean X ini c pc ls st h
def fd_76_82 (X : zX) (nL : Nat) (ini : Bool) (c : Nat) (op a b : Nat) (pc : Nat) (ls : zL) (st : List Value) (h : zH) : Option (Nat × zL × List Value × zH) := bif Nat.ble 79 op then fd_79_82 X nL ini c op a b pc ls st h else fd_76_79 X nL ini c op a b pc ls st h
def fd_71_82 (X : zX) (nL : Nat) (ini : Bool) (c : Nat) (op a b : Nat) (pc : Nat) (ls : zL) (st : List Value) (h : zH) : Option (Nat × zL × List Value × zH) := bif Nat.ble 76 op then fd_76_82 X nL ini c op a b pc ls st h else fd_71_76 X nL ini c op a b pc ls st h
def fd_61_82 (X : zX) (nL : Nat) (ini : Bool) (c : Nat) (op a b : Nat) (pc : Nat) (ls : zL) (st : List Value) (h : zH) : Option (Nat × zL × List Value × zH) := bif Nat.ble 71 op then fd_71_82 X nL ini c op a b pc ls st h else fd_61_71 X nL ini c op a b pc ls st h
def fd_41_82 (X : zX) (nL : Nat) (ini : Bool) (c : Nat) (op a b : Nat) (pc : Nat) (ls : zL) (st : List Value) (h : zH) : Option (Nat × zL × List Value × zH) := bif Nat.ble 61 op then fd_61_82 X nL ini c op a b pc ls st h else fd_41_61 X nL ini c op a b pc ls st h
def fd_1_82 (X : zX) (nL : Nat) (ini : Bool) (c : Nat) (op a b : Nat) (pc : Nat) (ls : zL) (st : List Value) (h : zH) : Option (Nat × zL × List Value × zH) := bif Nat.ble 41 op then fd_41_82 X nL ini c op a b pc ls st h else fd_1_41 X nL ini c op a b pc ls st h
def fstep (X : zX) (nL : Nat) (ini : Bool) (c : Nat) (op a b : Nat) (pc : Nat) (ls : zL) (st : List Value) (h : zH) : Option (Nat × zL × List Value × zH) := bif Nat.beq op 0 then none else bif Nat.ble 82 op then none else fd_1_82 X nL ini c op a b pc ls st h
def fdec (op a b : Nat) : Instr := bif Nat.ble 41 op then (bif Nat.ble 61 op then (bif Nat.ble 71 op then (bif Nat.ble 76 op then (bif Nat.ble 79 op then (bif Nat.ble 80 op then (bif Nat.ble 81 op then (.anewarray a) else (.newarray .long)) else (.newarray .boolean)) else (bif Nat.ble 77 op then (bif Nat.ble 78 op then (.newarray .int) else (.new a)) else (.arraylength))) else (bif Nat.ble 73 op then (bif Nat.ble 74 op then (bif Nat.ble 75 op then (.aastore) else (.lastore)) else (.bastore)) else (bif Nat.ble 72 op then (.iastore) else (.aaload)))) else (bif Nat.ble 66 op then (bif Nat.ble 68 op then (bif Nat.ble 69 op then (bif Nat.ble 70 op then (.laload) else (.baload)) else (.iaload)) else (bif Nat.ble 67 op then (.ldc2_w a) else (.ldc_w a))) else (bif Nat.ble 63 op then (bif Nat.ble 64 op then (bif Nat.ble 65 op then (.ldc a) else (.getstatic a)) else (.putfield a)) else (bif Nat.ble 62 op then (.getfield a) else (.iinc a ((b : Int) - 32768)))))) else (bif Nat.ble 51 op then (bif Nat.ble 56 op then (bif Nat.ble 58 op then (bif Nat.ble 59 op then (bif Nat.ble 60 op then (.astore a) else (.astore_n (Fin.ofNat 4 a))) else (.lstore a)) else (bif Nat.ble 57 op then (.lstore_n (Fin.ofNat 4 a)) else (.istore a))) else (bif Nat.ble 53 op then (bif Nat.ble 54 op then (bif Nat.ble 55 op then (.istore_n (Fin.ofNat 4 a)) else (.aload a)) else (.aload_n (Fin.ofNat 4 a))) else (bif Nat.ble 52 op then (.lload a) else (.lload_n (Fin.ofNat 4 a))))) else (bif Nat.ble 46 op then (bif Nat.ble 48 op then (bif Nat.ble 49 op then (bif Nat.ble 50 op then (.iload a) else (.iload_n (Fin.ofNat 4 a))) else (.lconst (Fin.ofNat 2 a))) else (bif Nat.ble 47 op then (.sipush ((a : Int) - 32768)) else (.bipush ((a : Int) - 32768)))) else (bif Nat.ble 43 op then (bif Nat.ble 44 op then (bif Nat.ble 45 op then (.iconst ((a : Int) - 32768)) else (.goto ((b : Int) - 32768))) else (.if_icmp .le ((b : Int) - 32768))) else (bif Nat.ble 42 op then (.if_icmp .gt ((b : Int) - 32768)) else (.if_icmp .ge ((b : Int) - 32768))))))) else (bif Nat.ble 21 op then (bif Nat.ble 31 op then (bif Nat.ble 36 op then (bif Nat.ble 38 op then (bif Nat.ble 39 op then (bif Nat.ble 40 op then (.if_icmp .lt ((b : Int) - 32768)) else (.if_icmp .ne ((b : Int) - 32768))) else (.if_icmp .eq ((b : Int) - 32768))) else (bif Nat.ble 37 op then (.ifCond .le ((b : Int) - 32768)) else (.ifCond .gt ((b : Int) - 32768)))) else (bif Nat.ble 33 op then (bif Nat.ble 34 op then (bif Nat.ble 35 op then (.ifCond .ge ((b : Int) - 32768)) else (.ifCond .lt ((b : Int) - 32768))) else (.ifCond .ne ((b : Int) - 32768))) else (bif Nat.ble 32 op then (.ifCond .eq ((b : Int) - 32768)) else (.pop)))) else (bif Nat.ble 26 op then (bif Nat.ble 28 op then (bif Nat.ble 29 op then (bif Nat.ble 30 op then (.dup2) else (.dup)) else (.i2c)) else (bif Nat.ble 27 op then (.l2i) else (.i2l))) else (bif Nat.ble 23 op then (bif Nat.ble 24 op then (bif Nat.ble 25 op then (.lcmp) else (.lushr)) else (.lshr)) else (bif Nat.ble 22 op then (.lshl) else (.lneg))))) else (bif Nat.ble 11 op then (bif Nat.ble 16 op then (bif Nat.ble 18 op then (bif Nat.ble 19 op then (bif Nat.ble 20 op then (.lrem) else (.ldiv)) else (.lxor)) else (bif Nat.ble 17 op then (.lor) else (.land))) else (bif Nat.ble 13 op then (bif Nat.ble 14 op then (bif Nat.ble 15 op then (.lmul) else (.lsub)) else (.ladd)) else (bif Nat.ble 12 op then (.iushr) else (.ishr)))) else (bif Nat.ble 6 op then (bif Nat.ble 8 op then (bif Nat.ble 9 op then (bif Nat.ble 10 op then (.ishl) else (.ineg)) else (.irem)) else (bif Nat.ble 7 op then (.idiv) else (.ixor))) else (bif Nat.ble 3 op then (bif Nat.ble 4 op then (bif Nat.ble 5 op then (.ior) else (.iand)) else (.imul)) else (bif Nat.ble 2 op then (.isub) else (.iadd))))))
theorem fs_1 {X : zX} {nL : Nat} {ini : Bool} {c a b pc : Nat} {ls : zL} {st : List Value} {h : zH} {q : Nat × zL × List Value × zH} (hs : fstep X nL ini c 1 a b pc ls st h = some q) : zstep X nL ini c (fdec 1 a b) pc ls st h = some q ∧ yput (fdec 1 a b) st = false :=
  have h1 : fl_iadd pc ls st h = some q := hs
  ⟨ystepI (show zstI X (.iadd) pc ls st h = some q from h1), rfl⟩
theorem fs_2 {X : zX} {nL : Nat} {ini : Bool} {c a b pc : Nat} {ls : zL} {st : List Value} {h : zH} {q : Nat × zL × List Value × zH} (hs : fstep X nL ini c 2 a b pc ls st h = some q) : zstep X nL ini c (fdec 2 a b) pc ls st h = some q ∧ yput (fdec 2 a b) st = false :=
  have h1 : fl_isub pc ls st h = some q := hs
  ⟨ystepI (show zstI X (.isub) pc ls st h = some q from h1), rfl⟩
theorem fs_3 {X : zX} {nL : Nat} {ini : Bool} {c a b pc : Nat} {ls : zL} {st : List Value} {h : zH} {q : Nat × zL × List Value × zH} (hs : fstep X nL ini c 3 a b pc ls st h = some q) : zstep X nL ini c (fdec 3 a b) pc ls st h = some q ∧ yput (fdec 3 a b) st = false :=
  have h1 : fl_imul pc ls st h = some q := hs
  ⟨ystepI (show zstI X (.imul) pc ls st h = some q from h1), rfl⟩
theorem fs_4 {X : zX} {nL : Nat} {ini : Bool} {c a b pc : Nat} {ls : zL} {st : List Value} {h : zH} {q : Nat × zL × List Value × zH} (hs : fstep X nL ini c 4 a b pc ls st h = some q) : zstep X nL ini c (fdec 4 a b) pc ls st h = some q ∧ yput (fdec 4 a b) st = false :=
  have h1 : fl_iand pc ls st h = some q := hs
  ⟨ystepI (show zstI X (.iand) pc ls st h = some q from h1), rfl⟩
theorem fs_5 {X : zX} {nL : Nat} {ini : Bool} {c a b pc : Nat} {ls : zL} {st : List Value} {h : zH} {q : Nat × zL × List Value × zH} (hs : fstep X nL ini c 5 a b pc ls st h = some q) : zstep X nL ini c (fdec 5 a b) pc ls st h = some q ∧ yput (fdec 5 a b) st = false :=
  have h1 : fl_ior pc ls st h = some q := hs
  ⟨ystepI (show zstI X (.ior) pc ls st h = some q from h1), rfl⟩
theorem fs_6 {X : zX} {nL : Nat} {ini : Bool} {c a b pc : Nat} {ls : zL} {st : List Value} {h : zH} {q : Nat × zL × List Value × zH} (hs : fstep X nL ini c 6 a b pc ls st h = some q) : zstep X nL ini c (fdec 6 a b) pc ls st h = some q ∧ yput (fdec 6 a b) st = false :=
  have h1 : fl_ixor pc ls st h = some q := hs
  ⟨ystepI (show zstI X (.ixor) pc ls st h = some q from h1), rfl⟩
theorem fs_7 {X : zX} {nL : Nat} {ini : Bool} {c a b pc : Nat} {ls : zL} {st : List Value} {h : zH} {q : Nat × zL × List Value × zH} (hs : fstep X nL ini c 7 a b pc ls st h = some q) : zstep X nL ini c (fdec 7 a b) pc ls st h = some q ∧ yput (fdec 7 a b) st = false :=
  have h1 : fl_idiv pc ls st h = some q := hs
  ⟨ystepI (show zstI X (.idiv) pc ls st h = some q from h1), rfl⟩
theorem fs_8 {X : zX} {nL : Nat} {ini : Bool} {c a b pc : Nat} {ls : zL} {st : List Value} {h : zH} {q : Nat × zL × List Value × zH} (hs : fstep X nL ini c 8 a b pc ls st h = some q) : zstep X nL ini c (fdec 8 a b) pc ls st h = some q ∧ yput (fdec 8 a b) st = false :=
  have h1 : fl_irem pc ls st h = some q := hs
  ⟨ystepI (show zstI X (.irem) pc ls st h = some q from h1), rfl⟩
theorem fs_9 {X : zX} {nL : Nat} {ini : Bool} {c a b pc : Nat} {ls : zL} {st : List Value} {h : zH} {q : Nat × zL × List Value × zH} (hs : fstep X nL ini c 9 a b pc ls st h = some q) : zstep X nL ini c (fdec 9 a b) pc ls st h = some q ∧ yput (fdec 9 a b) st = false :=
  have h1 : fl_ineg pc ls st h = some q := hs
  ⟨ystepI (show zstI X (.ineg) pc ls st h = some q from h1), rfl⟩
theorem fs_10 {X : zX} {nL : Nat} {ini : Bool} {c a b pc : Nat} {ls : zL} {st : List Value} {h : zH} {q : Nat × zL × List Value × zH} (hs : fstep X nL ini c 10 a b pc ls st h = some q) : zstep X nL ini c (fdec 10 a b) pc ls st h = some q ∧ yput (fdec 10 a b) st = false :=
  have h1 : fl_ishl pc ls st h = some q := hs
  ⟨ystepI (show zstI X (.ishl) pc ls st h = some q from h1), rfl⟩
theorem fs_11 {X : zX} {nL : Nat} {ini : Bool} {c a b pc : Nat} {ls : zL} {st : List Value} {h : zH} {q : Nat × zL × List Value × zH} (hs : fstep X nL ini c 11 a b pc ls st h = some q) : zstep X nL ini c (fdec 11 a b) pc ls st h = some q ∧ yput (fdec 11 a b) st = false :=
  have h1 : fl_ishr pc ls st h = some q := hs
  ⟨ystepI (show zstI X (.ishr) pc ls st h = some q from h1), rfl⟩
theorem fs_12 {X : zX} {nL : Nat} {ini : Bool} {c a b pc : Nat} {ls : zL} {st : List Value} {h : zH} {q : Nat × zL × List Value × zH} (hs : fstep X nL ini c 12 a b pc ls st h = some q) : zstep X nL ini c (fdec 12 a b) pc ls st h = some q ∧ yput (fdec 12 a b) st = false :=
  have h1 : fl_iushr pc ls st h = some q := hs
  ⟨ystepI (show zstI X (.iushr) pc ls st h = some q from h1), rfl⟩
theorem fs_13 {X : zX} {nL : Nat} {ini : Bool} {c a b pc : Nat} {ls : zL} {st : List Value} {h : zH} {q : Nat × zL × List Value × zH} (hs : fstep X nL ini c 13 a b pc ls st h = some q) : zstep X nL ini c (fdec 13 a b) pc ls st h = some q ∧ yput (fdec 13 a b) st = false :=
  have h1 : fl_ladd pc ls st h = some q := hs
  ⟨ystepI (show zstI X (.ladd) pc ls st h = some q from h1), rfl⟩
theorem fs_14 {X : zX} {nL : Nat} {ini : Bool} {c a b pc : Nat} {ls : zL} {st : List Value} {h : zH} {q : Nat × zL × List Value × zH} (hs : fstep X nL ini c 14 a b pc ls st h = some q) : zstep X nL ini c (fdec 14 a b) pc ls st h = some q ∧ yput (fdec 14 a b) st = false :=
  have h1 : fl_lsub pc ls st h = some q := hs
  ⟨ystepI (show zstI X (.lsub) pc ls st h = some q from h1), rfl⟩
theorem fs_15 {X : zX} {nL : Nat} {ini : Bool} {c a b pc : Nat} {ls : zL} {st : List Value} {h : zH} {q : Nat × zL × List Value × zH} (hs : fstep X nL ini c 15 a b pc ls st h = some q) : zstep X nL ini c (fdec 15 a b) pc ls st h = some q ∧ yput (fdec 15 a b) st = false :=
  have h1 : fl_lmul pc ls st h = some q := hs
  ⟨ystepI (show zstI X (.lmul) pc ls st h = some q from h1), rfl⟩
theorem fs_16 {X : zX} {nL : Nat} {ini : Bool} {c a b pc : Nat} {ls : zL} {st : List Value} {h : zH} {q : Nat × zL × List Value × zH} (hs : fstep X nL ini c 16 a b pc ls st h = some q) : zstep X nL ini c (fdec 16 a b) pc ls st h = some q ∧ yput (fdec 16 a b) st = false :=
  have h1 : fl_land pc ls st h = some q := hs
  ⟨ystepI (show zstI X (.land) pc ls st h = some q from h1), rfl⟩
theorem fs_17 {X : zX} {nL : Nat} {ini : Bool} {c a b pc : Nat} {ls : zL} {st : List Value} {h : zH} {q : Nat × zL × List Value × zH} (hs : fstep X nL ini c 17 a b pc ls st h = some q) : zstep X nL ini c (fdec 17 a b) pc ls st h = some q ∧ yput (fdec 17 a b) st = false :=
  have h1 : fl_lor pc ls st h = some q := hs
  ⟨ystepI (show zstI X (.lor) pc ls st h = some q from h1), rfl⟩
theorem fs_18 {X : zX} {nL : Nat} {ini : Bool} {c a b pc : Nat} {ls : zL} {st : List Value} {h : zH} {q : Nat × zL × List Value × zH} (hs : fstep X nL ini c 18 a b pc ls st h = some q) : zstep X nL ini c (fdec 18 a b) pc ls st h = some q ∧ yput (fdec 18 a b) st = false :=
  have h1 : fl_lxor pc ls st h = some q := hs
  ⟨ystepI (show zstI X (.lxor) pc ls st h = some q from h1), rfl⟩
theorem fs_19 {X : zX} {nL : Nat} {ini : Bool} {c a b pc : Nat} {ls : zL} {st : List Value} {h : zH} {q : Nat × zL × List Value × zH} (hs : fstep X nL ini c 19 a b pc ls st h = some q) : zstep X nL ini c (fdec 19 a b) pc ls st h = some q ∧ yput (fdec 19 a b) st = false :=
  have h1 : fl_ldiv pc ls st h = some q := hs
  ⟨ystepI (show zstI X (.ldiv) pc ls st h = some q from h1), rfl⟩
theorem fs_20 {X : zX} {nL : Nat} {ini : Bool} {c a b pc : Nat} {ls : zL} {st : List Value} {h : zH} {q : Nat × zL × List Value × zH} (hs : fstep X nL ini c 20 a b pc ls st h = some q) : zstep X nL ini c (fdec 20 a b) pc ls st h = some q ∧ yput (fdec 20 a b) st = false :=
  have h1 : fl_lrem pc ls st h = some q := hs
  ⟨ystepI (show zstI X (.lrem) pc ls st h = some q from h1), rfl⟩
theorem fs_21 {X : zX} {nL : Nat} {ini : Bool} {c a b pc : Nat} {ls : zL} {st : List Value} {h : zH} {q : Nat × zL × List Value × zH} (hs : fstep X nL ini c 21 a b pc ls st h = some q) : zstep X nL ini c (fdec 21 a b) pc ls st h = some q ∧ yput (fdec 21 a b) st = false :=
  have h1 : fl_lneg pc ls st h = some q := hs
  ⟨ystepI (show zstI X (.lneg) pc ls st h = some q from h1), rfl⟩
theorem fs_22 {X : zX} {nL : Nat} {ini : Bool} {c a b pc : Nat} {ls : zL} {st : List Value} {h : zH} {q : Nat × zL × List Value × zH} (hs : fstep X nL ini c 22 a b pc ls st h = some q) : zstep X nL ini c (fdec 22 a b) pc ls st h = some q ∧ yput (fdec 22 a b) st = false :=
  have h1 : fl_lshl pc ls st h = some q := hs
  ⟨ystepI (show zstI X (.lshl) pc ls st h = some q from h1), rfl⟩
theorem fs_23 {X : zX} {nL : Nat} {ini : Bool} {c a b pc : Nat} {ls : zL} {st : List Value} {h : zH} {q : Nat × zL × List Value × zH} (hs : fstep X nL ini c 23 a b pc ls st h = some q) : zstep X nL ini c (fdec 23 a b) pc ls st h = some q ∧ yput (fdec 23 a b) st = false :=
  have h1 : fl_lshr pc ls st h = some q := hs
  ⟨ystepI (show zstI X (.lshr) pc ls st h = some q from h1), rfl⟩
theorem fs_24 {X : zX} {nL : Nat} {ini : Bool} {c a b pc : Nat} {ls : zL} {st : List Value} {h : zH} {q : Nat × zL × List Value × zH} (hs : fstep X nL ini c 24 a b pc ls st h = some q) : zstep X nL ini c (fdec 24 a b) pc ls st h = some q ∧ yput (fdec 24 a b) st = false :=
  have h1 : fl_lushr pc ls st h = some q := hs
  ⟨ystepI (show zstI X (.lushr) pc ls st h = some q from h1), rfl⟩
theorem fs_25 {X : zX} {nL : Nat} {ini : Bool} {c a b pc : Nat} {ls : zL} {st : List Value} {h : zH} {q : Nat × zL × List Value × zH} (hs : fstep X nL ini c 25 a b pc ls st h = some q) : zstep X nL ini c (fdec 25 a b) pc ls st h = some q ∧ yput (fdec 25 a b) st = false :=
  have h1 : fl_lcmp pc ls st h = some q := hs
  ⟨ystepI (show zstI X (.lcmp) pc ls st h = some q from h1), rfl⟩
theorem fs_26 {X : zX} {nL : Nat} {ini : Bool} {c a b pc : Nat} {ls : zL} {st : List Value} {h : zH} {q : Nat × zL × List Value × zH} (hs : fstep X nL ini c 26 a b pc ls st h = some q) : zstep X nL ini c (fdec 26 a b) pc ls st h = some q ∧ yput (fdec 26 a b) st = false :=
  have h1 : fl_i2l pc ls st h = some q := hs
  ⟨ystepI (show zstI X (.i2l) pc ls st h = some q from h1), rfl⟩
theorem fs_27 {X : zX} {nL : Nat} {ini : Bool} {c a b pc : Nat} {ls : zL} {st : List Value} {h : zH} {q : Nat × zL × List Value × zH} (hs : fstep X nL ini c 27 a b pc ls st h = some q) : zstep X nL ini c (fdec 27 a b) pc ls st h = some q ∧ yput (fdec 27 a b) st = false :=
  have h1 : fl_l2i pc ls st h = some q := hs
  ⟨ystepI (show zstI X (.l2i) pc ls st h = some q from h1), rfl⟩
theorem fs_28 {X : zX} {nL : Nat} {ini : Bool} {c a b pc : Nat} {ls : zL} {st : List Value} {h : zH} {q : Nat × zL × List Value × zH} (hs : fstep X nL ini c 28 a b pc ls st h = some q) : zstep X nL ini c (fdec 28 a b) pc ls st h = some q ∧ yput (fdec 28 a b) st = false :=
  have h1 : fl_i2c pc ls st h = some q := hs
  ⟨ystepI (show zstI X (.i2c) pc ls st h = some q from h1), rfl⟩
theorem fs_29 {X : zX} {nL : Nat} {ini : Bool} {c a b pc : Nat} {ls : zL} {st : List Value} {h : zH} {q : Nat × zL × List Value × zH} (hs : fstep X nL ini c 29 a b pc ls st h = some q) : zstep X nL ini c (fdec 29 a b) pc ls st h = some q ∧ yput (fdec 29 a b) st = false :=
  have h1 : fl_dup pc ls st h = some q := hs
  ⟨ystepI (show zstI X (.dup) pc ls st h = some q from h1), rfl⟩
theorem fs_30 {X : zX} {nL : Nat} {ini : Bool} {c a b pc : Nat} {ls : zL} {st : List Value} {h : zH} {q : Nat × zL × List Value × zH} (hs : fstep X nL ini c 30 a b pc ls st h = some q) : zstep X nL ini c (fdec 30 a b) pc ls st h = some q ∧ yput (fdec 30 a b) st = false :=
  have h1 : fl_dup2 pc ls st h = some q := hs
  ⟨ystepI (show zstI X (.dup2) pc ls st h = some q from h1), rfl⟩
theorem fs_31 {X : zX} {nL : Nat} {ini : Bool} {c a b pc : Nat} {ls : zL} {st : List Value} {h : zH} {q : Nat × zL × List Value × zH} (hs : fstep X nL ini c 31 a b pc ls st h = some q) : zstep X nL ini c (fdec 31 a b) pc ls st h = some q ∧ yput (fdec 31 a b) st = false :=
  have h1 : fl_pop pc ls st h = some q := hs
  ⟨ystepI (show zstI X (.pop) pc ls st h = some q from h1), rfl⟩
theorem fs_32 {X : zX} {nL : Nat} {ini : Bool} {c a b pc : Nat} {ls : zL} {st : List Value} {h : zH} {q : Nat × zL × List Value × zH} (hs : fstep X nL ini c 32 a b pc ls st h = some q) : zstep X nL ini c (fdec 32 a b) pc ls st h = some q ∧ yput (fdec 32 a b) st = false :=
  have h1 : fl_ifCond .eq ((b : Int) - 32768) pc ls st h = some q := hs
  ⟨ystepI (show zstI X (.ifCond .eq ((b : Int) - 32768)) pc ls st h = some q from h1), rfl⟩
theorem fs_33 {X : zX} {nL : Nat} {ini : Bool} {c a b pc : Nat} {ls : zL} {st : List Value} {h : zH} {q : Nat × zL × List Value × zH} (hs : fstep X nL ini c 33 a b pc ls st h = some q) : zstep X nL ini c (fdec 33 a b) pc ls st h = some q ∧ yput (fdec 33 a b) st = false :=
  have h1 : fl_ifCond .ne ((b : Int) - 32768) pc ls st h = some q := hs
  ⟨ystepI (show zstI X (.ifCond .ne ((b : Int) - 32768)) pc ls st h = some q from h1), rfl⟩
theorem fs_34 {X : zX} {nL : Nat} {ini : Bool} {c a b pc : Nat} {ls : zL} {st : List Value} {h : zH} {q : Nat × zL × List Value × zH} (hs : fstep X nL ini c 34 a b pc ls st h = some q) : zstep X nL ini c (fdec 34 a b) pc ls st h = some q ∧ yput (fdec 34 a b) st = false :=
  have h1 : fl_ifCond .lt ((b : Int) - 32768) pc ls st h = some q := hs
  ⟨ystepI (show zstI X (.ifCond .lt ((b : Int) - 32768)) pc ls st h = some q from h1), rfl⟩
theorem fs_35 {X : zX} {nL : Nat} {ini : Bool} {c a b pc : Nat} {ls : zL} {st : List Value} {h : zH} {q : Nat × zL × List Value × zH} (hs : fstep X nL ini c 35 a b pc ls st h = some q) : zstep X nL ini c (fdec 35 a b) pc ls st h = some q ∧ yput (fdec 35 a b) st = false :=
  have h1 : fl_ifCond .ge ((b : Int) - 32768) pc ls st h = some q := hs
  ⟨ystepI (show zstI X (.ifCond .ge ((b : Int) - 32768)) pc ls st h = some q from h1), rfl⟩
theorem fs_36 {X : zX} {nL : Nat} {ini : Bool} {c a b pc : Nat} {ls : zL} {st : List Value} {h : zH} {q : Nat × zL × List Value × zH} (hs : fstep X nL ini c 36 a b pc ls st h = some q) : zstep X nL ini c (fdec 36 a b) pc ls st h = some q ∧ yput (fdec 36 a b) st = false :=
  have h1 : fl_ifCond .gt ((b : Int) - 32768) pc ls st h = some q := hs
  ⟨ystepI (show zstI X (.ifCond .gt ((b : Int) - 32768)) pc ls st h = some q from h1), rfl⟩
theorem fs_37 {X : zX} {nL : Nat} {ini : Bool} {c a b pc : Nat} {ls : zL} {st : List Value} {h : zH} {q : Nat × zL × List Value × zH} (hs : fstep X nL ini c 37 a b pc ls st h = some q) : zstep X nL ini c (fdec 37 a b) pc ls st h = some q ∧ yput (fdec 37 a b) st = false :=
  have h1 : fl_ifCond .le ((b : Int) - 32768) pc ls st h = some q := hs
  ⟨ystepI (show zstI X (.ifCond .le ((b : Int) - 32768)) pc ls st h = some q from h1), rfl⟩
theorem fs_38 {X : zX} {nL : Nat} {ini : Bool} {c a b pc : Nat} {ls : zL} {st : List Value} {h : zH} {q : Nat × zL × List Value × zH} (hs : fstep X nL ini c 38 a b pc ls st h = some q) : zstep X nL ini c (fdec 38 a b) pc ls st h = some q ∧ yput (fdec 38 a b) st = false :=
  have h1 : fl_if_icmp .eq ((b : Int) - 32768) pc ls st h = some q := hs
  ⟨ystepI (show zstI X (.if_icmp .eq ((b : Int) - 32768)) pc ls st h = some q from h1), rfl⟩
theorem fs_39 {X : zX} {nL : Nat} {ini : Bool} {c a b pc : Nat} {ls : zL} {st : List Value} {h : zH} {q : Nat × zL × List Value × zH} (hs : fstep X nL ini c 39 a b pc ls st h = some q) : zstep X nL ini c (fdec 39 a b) pc ls st h = some q ∧ yput (fdec 39 a b) st = false :=
  have h1 : fl_if_icmp .ne ((b : Int) - 32768) pc ls st h = some q := hs
  ⟨ystepI (show zstI X (.if_icmp .ne ((b : Int) - 32768)) pc ls st h = some q from h1), rfl⟩
theorem fs_40 {X : zX} {nL : Nat} {ini : Bool} {c a b pc : Nat} {ls : zL} {st : List Value} {h : zH} {q : Nat × zL × List Value × zH} (hs : fstep X nL ini c 40 a b pc ls st h = some q) : zstep X nL ini c (fdec 40 a b) pc ls st h = some q ∧ yput (fdec 40 a b) st = false :=
  have h1 : fl_if_icmp .lt ((b : Int) - 32768) pc ls st h = some q := hs
  ⟨ystepI (show zstI X (.if_icmp .lt ((b : Int) - 32768)) pc ls st h = some q from h1), rfl⟩
theorem fs_41 {X : zX} {nL : Nat} {ini : Bool} {c a b pc : Nat} {ls : zL} {st : List Value} {h : zH} {q : Nat × zL × List Value × zH} (hs : fstep X nL ini c 41 a b pc ls st h = some q) : zstep X nL ini c (fdec 41 a b) pc ls st h = some q ∧ yput (fdec 41 a b) st = false :=
  have h1 : fl_if_icmp .ge ((b : Int) - 32768) pc ls st h = some q := hs
  ⟨ystepI (show zstI X (.if_icmp .ge ((b : Int) - 32768)) pc ls st h = some q from h1), rfl⟩
theorem fs_42 {X : zX} {nL : Nat} {ini : Bool} {c a b pc : Nat} {ls : zL} {st : List Value} {h : zH} {q : Nat × zL × List Value × zH} (hs : fstep X nL ini c 42 a b pc ls st h = some q) : zstep X nL ini c (fdec 42 a b) pc ls st h = some q ∧ yput (fdec 42 a b) st = false :=
  have h1 : fl_if_icmp .gt ((b : Int) - 32768) pc ls st h = some q := hs
  ⟨ystepI (show zstI X (.if_icmp .gt ((b : Int) - 32768)) pc ls st h = some q from h1), rfl⟩
theorem fs_43 {X : zX} {nL : Nat} {ini : Bool} {c a b pc : Nat} {ls : zL} {st : List Value} {h : zH} {q : Nat × zL × List Value × zH} (hs : fstep X nL ini c 43 a b pc ls st h = some q) : zstep X nL ini c (fdec 43 a b) pc ls st h = some q ∧ yput (fdec 43 a b) st = false :=
  have h1 : fl_if_icmp .le ((b : Int) - 32768) pc ls st h = some q := hs
  ⟨ystepI (show zstI X (.if_icmp .le ((b : Int) - 32768)) pc ls st h = some q from h1), rfl⟩
theorem fs_44 {X : zX} {nL : Nat} {ini : Bool} {c a b pc : Nat} {ls : zL} {st : List Value} {h : zH} {q : Nat × zL × List Value × zH} (hs : fstep X nL ini c 44 a b pc ls st h = some q) : zstep X nL ini c (fdec 44 a b) pc ls st h = some q ∧ yput (fdec 44 a b) st = false :=
  have h1 : fl_goto ((b : Int) - 32768) pc ls st h = some q := hs
  ⟨ystepI (show zstI X (.goto ((b : Int) - 32768)) pc ls st h = some q from h1), rfl⟩
theorem fs_45 {X : zX} {nL : Nat} {ini : Bool} {c a b pc : Nat} {ls : zL} {st : List Value} {h : zH} {q : Nat × zL × List Value × zH} (hs : fstep X nL ini c 45 a b pc ls st h = some q) : zstep X nL ini c (fdec 45 a b) pc ls st h = some q ∧ yput (fdec 45 a b) st = false :=
  have h1 : fl_iconst nL ((a : Int) - 32768) pc ls st h = some q := hs
  ⟨ystepL (show zstL nL (.iconst ((a : Int) - 32768)) pc ls st h = some q from h1), rfl⟩
theorem fs_46 {X : zX} {nL : Nat} {ini : Bool} {c a b pc : Nat} {ls : zL} {st : List Value} {h : zH} {q : Nat × zL × List Value × zH} (hs : fstep X nL ini c 46 a b pc ls st h = some q) : zstep X nL ini c (fdec 46 a b) pc ls st h = some q ∧ yput (fdec 46 a b) st = false :=
  have h1 : fl_bipush nL ((a : Int) - 32768) pc ls st h = some q := hs
  ⟨ystepL (show zstL nL (.bipush ((a : Int) - 32768)) pc ls st h = some q from h1), rfl⟩
theorem fs_47 {X : zX} {nL : Nat} {ini : Bool} {c a b pc : Nat} {ls : zL} {st : List Value} {h : zH} {q : Nat × zL × List Value × zH} (hs : fstep X nL ini c 47 a b pc ls st h = some q) : zstep X nL ini c (fdec 47 a b) pc ls st h = some q ∧ yput (fdec 47 a b) st = false :=
  have h1 : fl_sipush nL ((a : Int) - 32768) pc ls st h = some q := hs
  ⟨ystepL (show zstL nL (.sipush ((a : Int) - 32768)) pc ls st h = some q from h1), rfl⟩
theorem fs_48 {X : zX} {nL : Nat} {ini : Bool} {c a b pc : Nat} {ls : zL} {st : List Value} {h : zH} {q : Nat × zL × List Value × zH} (hs : fstep X nL ini c 48 a b pc ls st h = some q) : zstep X nL ini c (fdec 48 a b) pc ls st h = some q ∧ yput (fdec 48 a b) st = false :=
  have h1 : fl_lconst nL (Fin.ofNat 2 a) pc ls st h = some q := hs
  ⟨ystepL (show zstL nL (.lconst (Fin.ofNat 2 a)) pc ls st h = some q from h1), rfl⟩
theorem fs_49 {X : zX} {nL : Nat} {ini : Bool} {c a b pc : Nat} {ls : zL} {st : List Value} {h : zH} {q : Nat × zL × List Value × zH} (hs : fstep X nL ini c 49 a b pc ls st h = some q) : zstep X nL ini c (fdec 49 a b) pc ls st h = some q ∧ yput (fdec 49 a b) st = false :=
  have h1 : fl_iload_n nL (Fin.ofNat 4 a) pc ls st h = some q := hs
  ⟨ystepL (show zstL nL (.iload_n (Fin.ofNat 4 a)) pc ls st h = some q from h1), rfl⟩
theorem fs_50 {X : zX} {nL : Nat} {ini : Bool} {c a b pc : Nat} {ls : zL} {st : List Value} {h : zH} {q : Nat × zL × List Value × zH} (hs : fstep X nL ini c 50 a b pc ls st h = some q) : zstep X nL ini c (fdec 50 a b) pc ls st h = some q ∧ yput (fdec 50 a b) st = false :=
  have h1 : fl_iload nL a pc ls st h = some q := hs
  ⟨ystepL (show zstL nL (.iload a) pc ls st h = some q from h1), rfl⟩
theorem fs_51 {X : zX} {nL : Nat} {ini : Bool} {c a b pc : Nat} {ls : zL} {st : List Value} {h : zH} {q : Nat × zL × List Value × zH} (hs : fstep X nL ini c 51 a b pc ls st h = some q) : zstep X nL ini c (fdec 51 a b) pc ls st h = some q ∧ yput (fdec 51 a b) st = false :=
  have h1 : fl_lload_n nL (Fin.ofNat 4 a) pc ls st h = some q := hs
  ⟨ystepL (show zstL nL (.lload_n (Fin.ofNat 4 a)) pc ls st h = some q from h1), rfl⟩
theorem fs_52 {X : zX} {nL : Nat} {ini : Bool} {c a b pc : Nat} {ls : zL} {st : List Value} {h : zH} {q : Nat × zL × List Value × zH} (hs : fstep X nL ini c 52 a b pc ls st h = some q) : zstep X nL ini c (fdec 52 a b) pc ls st h = some q ∧ yput (fdec 52 a b) st = false :=
  have h1 : fl_lload nL a pc ls st h = some q := hs
  ⟨ystepL (show zstL nL (.lload a) pc ls st h = some q from h1), rfl⟩
theorem fs_53 {X : zX} {nL : Nat} {ini : Bool} {c a b pc : Nat} {ls : zL} {st : List Value} {h : zH} {q : Nat × zL × List Value × zH} (hs : fstep X nL ini c 53 a b pc ls st h = some q) : zstep X nL ini c (fdec 53 a b) pc ls st h = some q ∧ yput (fdec 53 a b) st = false :=
  have h1 : fl_aload_n nL (Fin.ofNat 4 a) pc ls st h = some q := hs
  ⟨ystepL (show zstL nL (.aload_n (Fin.ofNat 4 a)) pc ls st h = some q from h1), rfl⟩
theorem fs_54 {X : zX} {nL : Nat} {ini : Bool} {c a b pc : Nat} {ls : zL} {st : List Value} {h : zH} {q : Nat × zL × List Value × zH} (hs : fstep X nL ini c 54 a b pc ls st h = some q) : zstep X nL ini c (fdec 54 a b) pc ls st h = some q ∧ yput (fdec 54 a b) st = false :=
  have h1 : fl_aload nL a pc ls st h = some q := hs
  ⟨ystepL (show zstL nL (.aload a) pc ls st h = some q from h1), rfl⟩
theorem fs_55 {X : zX} {nL : Nat} {ini : Bool} {c a b pc : Nat} {ls : zL} {st : List Value} {h : zH} {q : Nat × zL × List Value × zH} (hs : fstep X nL ini c 55 a b pc ls st h = some q) : zstep X nL ini c (fdec 55 a b) pc ls st h = some q ∧ yput (fdec 55 a b) st = false :=
  have h1 : fl_istore_n nL (Fin.ofNat 4 a) pc ls st h = some q := hs
  ⟨ystepL (show zstL nL (.istore_n (Fin.ofNat 4 a)) pc ls st h = some q from h1), rfl⟩
theorem fs_56 {X : zX} {nL : Nat} {ini : Bool} {c a b pc : Nat} {ls : zL} {st : List Value} {h : zH} {q : Nat × zL × List Value × zH} (hs : fstep X nL ini c 56 a b pc ls st h = some q) : zstep X nL ini c (fdec 56 a b) pc ls st h = some q ∧ yput (fdec 56 a b) st = false :=
  have h1 : fl_istore nL a pc ls st h = some q := hs
  ⟨ystepL (show zstL nL (.istore a) pc ls st h = some q from h1), rfl⟩
theorem fs_57 {X : zX} {nL : Nat} {ini : Bool} {c a b pc : Nat} {ls : zL} {st : List Value} {h : zH} {q : Nat × zL × List Value × zH} (hs : fstep X nL ini c 57 a b pc ls st h = some q) : zstep X nL ini c (fdec 57 a b) pc ls st h = some q ∧ yput (fdec 57 a b) st = false :=
  have h1 : fl_lstore_n nL (Fin.ofNat 4 a) pc ls st h = some q := hs
  ⟨ystepL (show zstL nL (.lstore_n (Fin.ofNat 4 a)) pc ls st h = some q from h1), rfl⟩
theorem fs_58 {X : zX} {nL : Nat} {ini : Bool} {c a b pc : Nat} {ls : zL} {st : List Value} {h : zH} {q : Nat × zL × List Value × zH} (hs : fstep X nL ini c 58 a b pc ls st h = some q) : zstep X nL ini c (fdec 58 a b) pc ls st h = some q ∧ yput (fdec 58 a b) st = false :=
  have h1 : fl_lstore nL a pc ls st h = some q := hs
  ⟨ystepL (show zstL nL (.lstore a) pc ls st h = some q from h1), rfl⟩
theorem fs_59 {X : zX} {nL : Nat} {ini : Bool} {c a b pc : Nat} {ls : zL} {st : List Value} {h : zH} {q : Nat × zL × List Value × zH} (hs : fstep X nL ini c 59 a b pc ls st h = some q) : zstep X nL ini c (fdec 59 a b) pc ls st h = some q ∧ yput (fdec 59 a b) st = false :=
  have h1 : fl_astore_n nL (Fin.ofNat 4 a) pc ls st h = some q := hs
  ⟨ystepL (show zstL nL (.astore_n (Fin.ofNat 4 a)) pc ls st h = some q from h1), rfl⟩
theorem fs_60 {X : zX} {nL : Nat} {ini : Bool} {c a b pc : Nat} {ls : zL} {st : List Value} {h : zH} {q : Nat × zL × List Value × zH} (hs : fstep X nL ini c 60 a b pc ls st h = some q) : zstep X nL ini c (fdec 60 a b) pc ls st h = some q ∧ yput (fdec 60 a b) st = false :=
  have h1 : fl_astore nL a pc ls st h = some q := hs
  ⟨ystepL (show zstL nL (.astore a) pc ls st h = some q from h1), rfl⟩
theorem fs_61 {X : zX} {nL : Nat} {ini : Bool} {c a b pc : Nat} {ls : zL} {st : List Value} {h : zH} {q : Nat × zL × List Value × zH} (hs : fstep X nL ini c 61 a b pc ls st h = some q) : zstep X nL ini c (fdec 61 a b) pc ls st h = some q ∧ yput (fdec 61 a b) st = false :=
  have h1 : fl_iinc nL a ((b : Int) - 32768) pc ls st h = some q := hs
  ⟨ystepL (show zstL nL (.iinc a ((b : Int) - 32768)) pc ls st h = some q from h1), rfl⟩
theorem fs_62 {X : zX} {nL : Nat} {ini : Bool} {c a b pc : Nat} {ls : zL} {st : List Value} {h : zH} {q : Nat × zL × List Value × zH} (hs : fstep X nL ini c 62 a b pc ls st h = some q) : zstep X nL ini c (fdec 62 a b) pc ls st h = some q ∧ yput (fdec 62 a b) st = false :=
  have h1 : fl_getfield X ini c a pc ls st h = some q := hs
  ⟨ystepH (show zstH X ini c (.getfield a) pc ls st h = some q from h1), rfl⟩
theorem fs_63 {X : zX} {nL : Nat} {ini : Bool} {c a b pc : Nat} {ls : zL} {st : List Value} {h : zH} {q : Nat × zL × List Value × zH} (hs : fstep X nL ini c 63 a b pc ls st h = some q) : zstep X nL ini c (fdec 63 a b) pc ls st h = some q ∧ yput (fdec 63 a b) st = false := by
  have h1 : fl_putfield X ini c a pc ls st h = some q := hs
  cases st with
  | nil => cases h1
  | cons v r =>
    cases hv : ysym v with
    | true =>
      unfold fl_putfield at h1
      dsimp only at h1
      rw [hv] at h1
      cases h1
    | false =>
      refine ⟨ystepH (show zstH X ini c (.putfield a) pc ls (v :: r) h = some q from ?_), hv⟩
      unfold fl_putfield at h1
      dsimp only at h1
      rw [hv] at h1
      exact h1
theorem fs_64 {X : zX} {nL : Nat} {ini : Bool} {c a b pc : Nat} {ls : zL} {st : List Value} {h : zH} {q : Nat × zL × List Value × zH} (hs : fstep X nL ini c 64 a b pc ls st h = some q) : zstep X nL ini c (fdec 64 a b) pc ls st h = some q ∧ yput (fdec 64 a b) st = false :=
  have h1 : fl_getstatic X ini c a pc ls st h = some q := hs
  ⟨ystepH (show zstH X ini c (.getstatic a) pc ls st h = some q from h1), rfl⟩
theorem fs_65 {X : zX} {nL : Nat} {ini : Bool} {c a b pc : Nat} {ls : zL} {st : List Value} {h : zH} {q : Nat × zL × List Value × zH} (hs : fstep X nL ini c 65 a b pc ls st h = some q) : zstep X nL ini c (fdec 65 a b) pc ls st h = some q ∧ yput (fdec 65 a b) st = false :=
  have h1 : fl_ldc X ini c a pc ls st h = some q := hs
  ⟨ystepH (show zstH X ini c (.ldc a) pc ls st h = some q from h1), rfl⟩
theorem fs_66 {X : zX} {nL : Nat} {ini : Bool} {c a b pc : Nat} {ls : zL} {st : List Value} {h : zH} {q : Nat × zL × List Value × zH} (hs : fstep X nL ini c 66 a b pc ls st h = some q) : zstep X nL ini c (fdec 66 a b) pc ls st h = some q ∧ yput (fdec 66 a b) st = false :=
  have h1 : fl_ldc_w X ini c a pc ls st h = some q := hs
  ⟨ystepH (show zstH X ini c (.ldc_w a) pc ls st h = some q from h1), rfl⟩
theorem fs_67 {X : zX} {nL : Nat} {ini : Bool} {c a b pc : Nat} {ls : zL} {st : List Value} {h : zH} {q : Nat × zL × List Value × zH} (hs : fstep X nL ini c 67 a b pc ls st h = some q) : zstep X nL ini c (fdec 67 a b) pc ls st h = some q ∧ yput (fdec 67 a b) st = false :=
  have h1 : fl_ldc2_w X ini c a pc ls st h = some q := hs
  ⟨ystepH (show zstH X ini c (.ldc2_w a) pc ls st h = some q from h1), rfl⟩
theorem fs_68 {X : zX} {nL : Nat} {ini : Bool} {c a b pc : Nat} {ls : zL} {st : List Value} {h : zH} {q : Nat × zL × List Value × zH} (hs : fstep X nL ini c 68 a b pc ls st h = some q) : zstep X nL ini c (fdec 68 a b) pc ls st h = some q ∧ yput (fdec 68 a b) st = false :=
  have h1 : fl_iaload X ini c pc ls st h = some q := hs
  ⟨ystepH (show zstH X ini c (.iaload) pc ls st h = some q from h1), rfl⟩
theorem fs_69 {X : zX} {nL : Nat} {ini : Bool} {c a b pc : Nat} {ls : zL} {st : List Value} {h : zH} {q : Nat × zL × List Value × zH} (hs : fstep X nL ini c 69 a b pc ls st h = some q) : zstep X nL ini c (fdec 69 a b) pc ls st h = some q ∧ yput (fdec 69 a b) st = false :=
  have h1 : fl_baload X ini c pc ls st h = some q := hs
  ⟨ystepH (show zstH X ini c (.baload) pc ls st h = some q from h1), rfl⟩
theorem fs_70 {X : zX} {nL : Nat} {ini : Bool} {c a b pc : Nat} {ls : zL} {st : List Value} {h : zH} {q : Nat × zL × List Value × zH} (hs : fstep X nL ini c 70 a b pc ls st h = some q) : zstep X nL ini c (fdec 70 a b) pc ls st h = some q ∧ yput (fdec 70 a b) st = false :=
  have h1 : fl_laload X ini c pc ls st h = some q := hs
  ⟨ystepH (show zstH X ini c (.laload) pc ls st h = some q from h1), rfl⟩
theorem fs_71 {X : zX} {nL : Nat} {ini : Bool} {c a b pc : Nat} {ls : zL} {st : List Value} {h : zH} {q : Nat × zL × List Value × zH} (hs : fstep X nL ini c 71 a b pc ls st h = some q) : zstep X nL ini c (fdec 71 a b) pc ls st h = some q ∧ yput (fdec 71 a b) st = false :=
  have h1 : fl_aaload X ini c pc ls st h = some q := hs
  ⟨ystepH (show zstH X ini c (.aaload) pc ls st h = some q from h1), rfl⟩
theorem fs_72 {X : zX} {nL : Nat} {ini : Bool} {c a b pc : Nat} {ls : zL} {st : List Value} {h : zH} {q : Nat × zL × List Value × zH} (hs : fstep X nL ini c 72 a b pc ls st h = some q) : zstep X nL ini c (fdec 72 a b) pc ls st h = some q ∧ yput (fdec 72 a b) st = false :=
  have h1 : fl_iastore X ini c pc ls st h = some q := hs
  ⟨ystepH (show zstH X ini c (.iastore) pc ls st h = some q from h1), rfl⟩
theorem fs_73 {X : zX} {nL : Nat} {ini : Bool} {c a b pc : Nat} {ls : zL} {st : List Value} {h : zH} {q : Nat × zL × List Value × zH} (hs : fstep X nL ini c 73 a b pc ls st h = some q) : zstep X nL ini c (fdec 73 a b) pc ls st h = some q ∧ yput (fdec 73 a b) st = false :=
  have h1 : fl_bastore X ini c pc ls st h = some q := hs
  ⟨ystepH (show zstH X ini c (.bastore) pc ls st h = some q from h1), rfl⟩
theorem fs_74 {X : zX} {nL : Nat} {ini : Bool} {c a b pc : Nat} {ls : zL} {st : List Value} {h : zH} {q : Nat × zL × List Value × zH} (hs : fstep X nL ini c 74 a b pc ls st h = some q) : zstep X nL ini c (fdec 74 a b) pc ls st h = some q ∧ yput (fdec 74 a b) st = false :=
  have h1 : fl_lastore X ini c pc ls st h = some q := hs
  ⟨ystepH (show zstH X ini c (.lastore) pc ls st h = some q from h1), rfl⟩
theorem fs_75 {X : zX} {nL : Nat} {ini : Bool} {c a b pc : Nat} {ls : zL} {st : List Value} {h : zH} {q : Nat × zL × List Value × zH} (hs : fstep X nL ini c 75 a b pc ls st h = some q) : zstep X nL ini c (fdec 75 a b) pc ls st h = some q ∧ yput (fdec 75 a b) st = false :=
  have h1 : fl_aastore X ini c pc ls st h = some q := hs
  ⟨ystepH (show zstH X ini c (.aastore) pc ls st h = some q from h1), rfl⟩
theorem fs_76 {X : zX} {nL : Nat} {ini : Bool} {c a b pc : Nat} {ls : zL} {st : List Value} {h : zH} {q : Nat × zL × List Value × zH} (hs : fstep X nL ini c 76 a b pc ls st h = some q) : zstep X nL ini c (fdec 76 a b) pc ls st h = some q ∧ yput (fdec 76 a b) st = false :=
  have h1 : fl_arraylength X ini c pc ls st h = some q := hs
  ⟨ystepH (show zstH X ini c (.arraylength) pc ls st h = some q from h1), rfl⟩
theorem fs_77 {X : zX} {nL : Nat} {ini : Bool} {c a b pc : Nat} {ls : zL} {st : List Value} {h : zH} {q : Nat × zL × List Value × zH} (hs : fstep X nL ini c 77 a b pc ls st h = some q) : zstep X nL ini c (fdec 77 a b) pc ls st h = some q ∧ yput (fdec 77 a b) st = false :=
  have h1 : fl_new X ini c a pc ls st h = some q := hs
  ⟨ystepH (show zstH X ini c (.new a) pc ls st h = some q from h1), rfl⟩
theorem fs_78 {X : zX} {nL : Nat} {ini : Bool} {c a b pc : Nat} {ls : zL} {st : List Value} {h : zH} {q : Nat × zL × List Value × zH} (hs : fstep X nL ini c 78 a b pc ls st h = some q) : zstep X nL ini c (fdec 78 a b) pc ls st h = some q ∧ yput (fdec 78 a b) st = false :=
  have h1 : fl_newarray_int X ini c pc ls st h = some q := hs
  ⟨ystepH (show zstH X ini c (.newarray .int) pc ls st h = some q from h1), rfl⟩
theorem fs_79 {X : zX} {nL : Nat} {ini : Bool} {c a b pc : Nat} {ls : zL} {st : List Value} {h : zH} {q : Nat × zL × List Value × zH} (hs : fstep X nL ini c 79 a b pc ls st h = some q) : zstep X nL ini c (fdec 79 a b) pc ls st h = some q ∧ yput (fdec 79 a b) st = false :=
  have h1 : fl_newarray_boolean X ini c pc ls st h = some q := hs
  ⟨ystepH (show zstH X ini c (.newarray .boolean) pc ls st h = some q from h1), rfl⟩
theorem fs_80 {X : zX} {nL : Nat} {ini : Bool} {c a b pc : Nat} {ls : zL} {st : List Value} {h : zH} {q : Nat × zL × List Value × zH} (hs : fstep X nL ini c 80 a b pc ls st h = some q) : zstep X nL ini c (fdec 80 a b) pc ls st h = some q ∧ yput (fdec 80 a b) st = false :=
  have h1 : fl_newarray_long X ini c pc ls st h = some q := hs
  ⟨ystepH (show zstH X ini c (.newarray .long) pc ls st h = some q from h1), rfl⟩
theorem fs_81 {X : zX} {nL : Nat} {ini : Bool} {c a b pc : Nat} {ls : zL} {st : List Value} {h : zH} {q : Nat × zL × List Value × zH} (hs : fstep X nL ini c 81 a b pc ls st h = some q) : zstep X nL ini c (fdec 81 a b) pc ls st h = some q ∧ yput (fdec 81 a b) st = false :=
  have h1 : fl_anewarray X ini c a pc ls st h = some q := hs
  ⟨ystepH (show zstH X ini c (.anewarray a) pc ls st h = some q from h1), rfl⟩
theorem fstep_ok {X : zX} {nL : Nat} {ini : Bool} {c op a b pc : Nat} {ls : zL} {st : List Value} {h : zH} {q : Nat × zL × List Value × zH} (hs : fstep X nL ini c op a b pc ls st h = some q) : zstep X nL ini c (fdec op a b) pc ls st h = some q ∧ yput (fdec op a b) st = false := by
  by_cases hop : 82 ≤ op
  · exfalso
    unfold fstep at hs
    rw [Nat.ble_eq_true_of_le hop] at hs
    cases hb : Nat.beq op 0 <;> rw [hb] at hs <;> cases hs
  · match op, Nat.not_le.mp hop, hs with
    | 0, _, hs => cases hs
    | 1, _, hs => exact fs_1 hs
    | 2, _, hs => exact fs_2 hs
    | 3, _, hs => exact fs_3 hs
    | 4, _, hs => exact fs_4 hs
    | 5, _, hs => exact fs_5 hs
    | 6, _, hs => exact fs_6 hs
    | 7, _, hs => exact fs_7 hs
    | 8, _, hs => exact fs_8 hs
    | 9, _, hs => exact fs_9 hs
    | 10, _, hs => exact fs_10 hs
    | 11, _, hs => exact fs_11 hs
    | 12, _, hs => exact fs_12 hs
    | 13, _, hs => exact fs_13 hs
    | 14, _, hs => exact fs_14 hs
    | 15, _, hs => exact fs_15 hs
    | 16, _, hs => exact fs_16 hs
    | 17, _, hs => exact fs_17 hs
    | 18, _, hs => exact fs_18 hs
    | 19, _, hs => exact fs_19 hs
    | 20, _, hs => exact fs_20 hs
    | 21, _, hs => exact fs_21 hs
    | 22, _, hs => exact fs_22 hs
    | 23, _, hs => exact fs_23 hs
    | 24, _, hs => exact fs_24 hs
    | 25, _, hs => exact fs_25 hs
    | 26, _, hs => exact fs_26 hs
    | 27, _, hs => exact fs_27 hs
    | 28, _, hs => exact fs_28 hs
    | 29, _, hs => exact fs_29 hs
    | 30, _, hs => exact fs_30 hs
    | 31, _, hs => exact fs_31 hs
    | 32, _, hs => exact fs_32 hs
    | 33, _, hs => exact fs_33 hs
    | 34, _, hs => exact fs_34 hs
    | 35, _, hs => exact fs_35 hs
    | 36, _, hs => exact fs_36 hs
    | 37, _, hs => exact fs_37 hs
    | 38, _, hs => exact fs_38 hs
    | 39, _, hs => exact fs_39 hs
    | 40, _, hs => exact fs_40 hs
    | 41, _, hs => exact fs_41 hs
    | 42, _, hs => exact fs_42 hs
    | 43, _, hs => exact fs_43 hs
    | 44, _, hs => exact fs_44 hs
    | 45, _, hs => exact fs_45 hs
    | 46, _, hs => exact fs_46 hs
    | 47, _, hs => exact fs_47 hs
    | 48, _, hs => exact fs_48 hs
    | 49, _, hs => exact fs_49 hs
    | 50, _, hs => exact fs_50 hs
    | 51, _, hs => exact fs_51 hs
    | 52, _, hs => exact fs_52 hs
    | 53, _, hs => exact fs_53 hs
    | 54, _, hs => exact fs_54 hs
    | 55, _, hs => exact fs_55 hs
    | 56, _, hs => exact fs_56 hs
    | 57, _, hs => exact fs_57 hs
    | 58, _, hs => exact fs_58 hs
    | 59, _, hs => exact fs_59 hs
    | 60, _, hs => exact fs_60 hs
    | 61, _, hs => exact fs_61 hs
    | 62, _, hs => exact fs_62 hs
    | 63, _, hs => exact fs_63 hs
    | 64, _, hs => exact fs_64 hs
    | 65, _, hs => exact fs_65 hs
    | 66, _, hs => exact fs_66 hs
    | 67, _, hs => exact fs_67 hs
    | 68, _, hs => exact fs_68 hs
    | 69, _, hs => exact fs_69 hs
    | 70, _, hs => exact fs_70 hs
    | 71, _, hs => exact fs_71 hs
    | 72, _, hs => exact fs_72 hs
    | 73, _, hs => exact fs_73 hs
    | 74, _, hs => exact fs_74 hs
    | 75, _, hs => exact fs_75 hs
    | 76, _, hs => exact fs_76 hs
    | 77, _, hs => exact fs_77 hs
    | 78, _, hs => exact fs_78 hs
    | 79, _, hs => exact fs_79 hs
    | 80, _, hs => exact fs_80 hs
    | 81, _, hs => exact fs_81 hs
    | n + 82, h9, _ => exact absurd h9 (by omega)
def fget (B pc : Nat) : Nat := Nat.mod (Nat.shiftRight B (Nat.mul 40 pc)) 1099511627776
def fst2 (X : zX) (nL : Nat) (ini : Bool) (c : Nat) (w : Nat) (pc : Nat) (ls : zL) (st : List Value) (h : zH) : Option (Nat × zL × List Value × zH) := fstep X nL ini c (Nat.mod w 256) (Nat.mod (Nat.div w 256) 65536) (Nat.div w 16777216) pc ls st h
def fdec2 (w : Nat) : Instr := fdec (Nat.mod w 256) (Nat.mod (Nat.div w 256) 65536) (Nat.div w 16777216)
def frun (X : zX) (I : zI) (mcl : Nat → Nat) (C : Nat → yE → List Value → zH → Option (List yO)) (c : Nat) (ini : Bool) (nL : Nat) (rt : Option FieldType) (tab : Nat → Option (Instr × Nat)) (B : Nat) : Nat → yE → Nat → zL → List Value → zH → Option (List yO)
  | 0, _, _, _, _, _ => none
  | n + 1, E, pc, ls, st, h => match fst2 X nL ini c (fget B pc) pc ls st h with
    | some (pc1, ls1, st1, h1) => frun X I mcl C c ini nL rt tab B n E pc1 ls1 st1 h1
    | none => match tab pc with
      | none => none
      | some (i, _) => match zret rt i st with
        | some r => some [(E, r, h)]
        | none => match zcall X I mcl c i st h with
          | some (mi, as, rest) => match C mi E as h with
            | some os => yseq (fun o => frun X I mcl C c ini nL rt tab B n o.1 (pc + 3) ls (o.2.1.toList ++ rest) o.2.2) os
            | none => none
          | none => match zobjI I c i st with
            | some rest => frun X I mcl C c ini nL rt tab B n E (pc + 3) ls rest h
            | none => match (bif yput i st then none else zstep X nL ini c i pc ls st h) with
              | some (pc1, ls1, st1, h1) => frun X I mcl C c ini nL rt tab B n E pc1 ls1 st1 h1
              | none => match ysy X nL c i pc E ls st h with
                | some ss => yseq (fun s => frun X I mcl C c ini nL rt tab B n s.1 s.2.1 s.2.2.1 s.2.2.2.1 s.2.2.2.2) ss
                | none => none
/-- the number says what the table says -/
def fok (tab : Nat → Option (Instr × Nat)) (B : Nat) : Prop := ∀ pc : Nat, Nat.mod (fget B pc) 256 ≠ 0 → ∃ len : Nat, tab pc = some (fdec2 (fget B pc), len)
theorem fst2_ok {X : zX} {nL : Nat} {ini : Bool} {c B pc : Nat} {tab : Nat → Option (Instr × Nat)} {ls : zL} {st : List Value} {h : zH} {q : Nat × zL × List Value × zH} (hf : fok tab B) (hs : fst2 X nL ini c (fget B pc) pc ls st h = some q) : ∃ (i : Instr) (len : Nat), tab pc = some (i, len) ∧ zstep X nL ini c i pc ls st h = some q ∧ yput i st = false := by
  have h0 : Nat.mod (fget B pc) 256 ≠ 0 := by
    intro e
    unfold fst2 fstep at hs
    rw [e] at hs
    cases hs
  obtain ⟨len, hl⟩ := hf pc h0
  obtain ⟨g1, g2⟩ := fstep_ok hs
  exact ⟨_, len, hl, g1, g2⟩
section YS
variable {X0 X : zX} {I : zI} {mcl : Nat → Nat} {mt : zM}
set_option maxHeartbeats 4000000 in
theorem frun_ok {F : Nat → yE → List Value → zH → Option (List yO)} {C : zC} {c : Nat} {ini : Bool} {nL : Nat} {rt : Option FieldType} {tab : Nat → Option (Instr × Nat)} {B : Nat} (hf : fok tab B) (hX : yXX X0 X) (hm : ∀ k, mcl k < 100)
    (hF : ∀ (mi : Nat) (E : yE) (as : List Value) (h : zH) (os : List yO), F mi E as h = some os → ∀ (ρ : yR) (cas : List Value) (ch : zH), yG E ρ → yvs ρ as cas → yhs ρ h ch → yEnds ρ (fun r h' => C mi cas ch r h') os) :
    ∀ (n : Nat) (E : yE) (pc : Nat) (ls : zL) (st : List Value) (h : zH) (os : List yO), frun X0 I mcl F c ini nL rt tab B n E pc ls st h = some os → ∀ (ρ : yR) (cl : zL) (cst : List Value) (ch : zH), yG E ρ → yls ρ ls cl → yvs ρ st cst → yhs ρ h ch → yEnds ρ (fun r h' => zRun X I mcl C c ini nL rt tab n pc cl cst ch r h') os := by
  intro n
  induction n with
  | zero => intro E pc ls st h os q; cases q
  | succ n ih =>
    intro E pc ls st h os q ρ cl cst ch hG hl hst hh
    unfold frun at q
    split at q
    · next pc1 ls1 st1 h1 hs0 =>
      obtain ⟨i, len, ht, hs, hp⟩ := fst2_ok hf hs0
      obtain ⟨cl', cst', ch', g1, g2, g3, g4⟩ := yzstep hX hs hp hl hst hh
      obtain ⟨o, ho, ρ', r, h', k1, k2, k3, k4, k5⟩ := ih _ _ _ _ _ _ q ρ cl' cst' ch' hG g2 g3 g4
      exact ⟨o, ho, ρ', r, h', k1, k2, k3, k4, ⟨i, len, ht, Or.inr (Or.inl ⟨pc1, cl', cst', ch', g1, k5⟩)⟩⟩
    · split at q
      · cases q
      · next i len ht =>
        split at q
        · next r hr =>
          cases q
          obtain ⟨g1, g2⟩ := yzret hr hst
          refine ⟨_, List.mem_cons_self, ρ, r, ch, yext.rf, hG, ?_, hh, ⟨i, len, ht, Or.inl ⟨g1, rfl⟩⟩⟩
          cases r with
          | none => exact rfl
          | some v => exact ⟨v, rfl, yv_r (g2 v rfl)⟩
        · split at q
          · next mi as rest hc =>
            split at q
            · next os1 hC =>
              obtain ⟨cas, crest, g1, g2, g3⟩ := yzcall (I := I) hX hm hc hst hh
              obtain ⟨o, ho, ρ1, r1, h1, k1, k2, k3, k4, k5⟩ := hF _ _ _ _ _ hC ρ cas ch hG g2 hh
              obtain ⟨x, hx, hin⟩ := yseq_in q ho
              obtain ⟨o2, ho2, ρ2, r2, h2, e1, e2, e3, e4, e5⟩ := ih _ _ _ _ _ _ hx ρ1 cl (r1.toList ++ crest) h1 k2 (hl.ext k1) (yA.app (g3.ext k1) (yrv_list k3)) k4
              exact ⟨o2, hin _ ho2, ρ2, r2, h2, k1.trans e1, e2, e3, e4, ⟨i, len, ht, Or.inr (Or.inr (Or.inr ⟨mi, cas, crest, r1, h1, g1, k5, e5⟩))⟩⟩
            · cases q
          · split at q
            · next rest hr =>
              obtain ⟨crest, g1, g2⟩ := yzobjI hr hst
              obtain ⟨o, ho, ρ', r, h', k1, k2, k3, k4, k5⟩ := ih _ _ _ _ _ _ q ρ cl crest ch hG hl g2 hh
              exact ⟨o, ho, ρ', r, h', k1, k2, k3, k4, ⟨i, len, ht, Or.inr (Or.inr (Or.inl ⟨crest, g1, k5⟩))⟩⟩
            · split at q
              · next pc1 ls1 st1 h1 hs =>
                cases hp : yput i st with
                | true => rw [hp] at hs; cases hs
                | false =>
                  rw [hp] at hs
                  obtain ⟨cl', cst', ch', g1, g2, g3, g4⟩ := yzstep hX hs hp hl hst hh
                  obtain ⟨o, ho, ρ', r, h', k1, k2, k3, k4, k5⟩ := ih _ _ _ _ _ _ q ρ cl' cst' ch' hG g2 g3 g4
                  exact ⟨o, ho, ρ', r, h', k1, k2, k3, k4, ⟨i, len, ht, Or.inr (Or.inl ⟨pc1, cl', cst', ch', g1, k5⟩)⟩⟩
              · split at q
                · next ss hs =>
                  obtain ⟨s, hin, ρ1, cl1, cst1, ch1, k1, k2, k3, k4, k5, k6⟩ := ysy_ok (ini := ini) hX hs hG hl hst hh
                  obtain ⟨x, hx, hin2⟩ := yseq_in q hin
                  obtain ⟨o, ho, ρ2, r2, h2, e1, e2, e3, e4, e5⟩ := ih _ _ _ _ _ _ hx ρ1 cl1 cst1 ch1 k2 k3 k4 k5
                  refine ⟨o, hin2 _ ho, ρ2, r2, h2, k1.trans e1, e2, e3, e4, ?_⟩
                  rcases k6 with k6 | ⟨k6, k7, k8, k9⟩
                  · exact ⟨i, len, ht, Or.inr (Or.inl ⟨_, cl1, cst1, ch1, k6, e5⟩)⟩
                  · rw [k6, k7, k8, k9] at e5
                    exact zRun_more _ _ _ _ _ _ _ e5
                · cases q
def fev (X : zX) (I : zI) (mcl : Nat → Nat) (mt : zM) (fb : Nat → Nat) : Nat → Nat → yE → List Value → zH → Option (List yO)
  | 0, _, _, _, _ => none
  | d + 1, mi, E, as, h => match mt mi with
    | some (c, ini, nL, rt, tab) => bif Nat.ble (lg_sl as).length nL then frun X I mcl (fev X I mcl mt fb d) c ini nL rt tab (fb mi) 100000 E 0 (lv_args 0 as) [] h else none
    | none => none
theorem fev_ok {fb : Nat → Nat} (hfb : ∀ (mi c : Nat) (ini : Bool) (nL : Nat) (rt : Option FieldType) (tab : Nat → Option (Instr × Nat)), mt mi = some (c, ini, nL, rt, tab) → fok tab (fb mi)) (hX : yXX X0 X) (hm : ∀ k, mcl k < 100) : ∀ (d mi : Nat) (E : yE) (as : List Value) (h : zH) (os : List yO), fev X0 I mcl mt fb d mi E as h = some os → ∀ (ρ : yR) (cas : List Value) (ch : zH), yG E ρ → yvs ρ as cas → yhs ρ h ch → yEnds ρ (fun r h' => zEv X I mcl mt d mi cas ch r h') os := by
  intro d
  induction d with
  | zero => intro mi E as h os q; cases q
  | succ d ih =>
    intro mi E as h os q ρ cas ch hG has hh
    unfold fev at q
    split at q
    · next c ini nL rt tab hmi =>
      cases hb : Nat.ble (lg_sl as).length nL with
      | false => rw [hb] at q; cases q
      | true =>
        rw [hb] at q
        have hlg := Nat.le_of_ble_eq_true hb
        obtain ⟨o, ho, ρ', r, h', k1, k2, k3, k4, k5⟩ := frun_ok (hfb _ _ _ _ _ _ hmi) hX hm ih _ _ _ _ _ _ _ q ρ (lv_args 0 cas) [] ch hG (yargs 0 has) rfl hh
        exact ⟨o, ho, ρ', r, h', k1, k2, k3, k4, ⟨c, ini, nL, rt, tab, 100000, hmi, by rw [ysl_len has]; exact hlg, k5⟩⟩
    · cases q
end YS
