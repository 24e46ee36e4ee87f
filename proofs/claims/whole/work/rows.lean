section
/-! A SMALL MACHINE OF OUR OWN over lists, and (further below) that the Java machine follows it. Names begin with z. -/
abbrev zV : Type := List Int32 ⊕ List Int64 ⊕ List (Option Nat) ⊕ List Value
/-- a cell: number of its class (an object), or number of its array type (0 int, 1 long, 2 boolean, 3 references) -/
abbrev zE : Type := Nat × zV
abbrev zH : Type := List zE
abbrev zL : Type := List (Nat × Value)
/-- the tables: fields (own class, index), constants and statics, classes to be made, fields of things outside, arrays outside (of bytes?), types of fields, which are final -/
abbrev zX : Type := (Nat → Nat → Option (Nat × Nat)) × (Nat → Nat → Option Value) × (Nat → Nat → Option (Nat × List Value)) × (Nat → Nat → Nat → Option Value) × (Nat → Option (Bool × List Int32)) × (Nat → Nat → FieldType) × (Nat → Nat → Bool) × (Nat → Nat → Bool) × Nat
def zfld (X : zX) : Nat → Nat → Option (Nat × Nat) := X.1
def zkon (X : zX) : Nat → Nat → Option Value := X.2.1
def znew (X : zX) : Nat → Nat → Option (Nat × List Value) := X.2.2.1
def zxget (X : zX) : Nat → Nat → Nat → Option Value := X.2.2.2.1
def zxarr (X : zX) : Nat → Option (Bool × List Int32) := X.2.2.2.2.1
def zty (X : zX) : Nat → Nat → FieldType := X.2.2.2.2.2.1
def zfin (X : zX) : Nat → Nat → Bool := X.2.2.2.2.2.2.1
/-- (own class, index): is it the class of which rows of references are made; is it Object.<init> -/
def zisP (X : zX) : Nat → Nat → Bool := X.2.2.2.2.2.2.2.1
/-- the number of the class whose objects lie in rows of references -/
def zpc (X : zX) : Nat := X.2.2.2.2.2.2.2.2
def zobj (fs : List Value) : zV := .inr (.inr (.inr fs))
def zget (ls : zL) (i : Nat) : Option Value := (ls.find? (fun q => q.1 == i)).map (fun q => q.2)
def zset1 (ls : zL) (i : Nat) (v : Value) : zL := (i, v) :: ls.filter (fun q => !(q.1 == i) && !(q.1 + 1 == i && q.2.category == 2))
def zset2 (ls : zL) (i : Nat) (v : Value) : zL := (i, v) :: ls.filter (fun q => !(q.1 == i) && (!(q.1 == i + 1) && !(q.1 + 1 == i && q.2.category == 2)))
/-- an address for a value that has none: types of values don't look at it -/
def zdry : Value → Value
  | .retAddr _ => .ref 0
  | v => v
def zidx (i : Int32) (n : Nat) : Bool := !(decide (i < 0)) && decide (i.toNatClampNeg < n)
def zputs (X : zX) (ini : Bool) (c ci k : Nat) (v : Value) : Bool :=
  (!(zfin X ci k) || (ini && ci == c)) && decide (narrow (zty X ci k) (zdry v) = zdry v) && fits (zty X ci k) (zdry v)
def zicmp : Jvm.ClassFile.Cond → Int32 → Int32 → Bool
  | .eq, x, y => decide (x = y)
  | .ne, x, y => !decide (x = y)
  | .lt, x, y => decide (x < y)
  | .ge, x, y => decide (y ≤ x)
  | .gt, x, y => decide (y < x)
  | .le, x, y => decide (x ≤ y)
def zjump (pc : Nat) (off : Int) (ls : zL) (st : List Value) (h : zH) : Option (Nat × zL × List Value × zH) :=
  if 0 ≤ (pc : Int) + off then some (((pc : Int) + off).toNat, ls, st, h) else none
def zbr (b : Bool) (pc : Nat) (off : Int) (ls : zL) (st : List Value) (h : zH) : Option (Nat × zL × List Value × zH) :=
  if 0 ≤ (pc : Int) + off then (if b = true then some (((pc : Int) + off).toNat, ls, st, h) else some (pc + 3, ls, st, h)) else none
def zrv : Option Nat → Value
  | none => .null
  | some k => .ref k
def zlen : Instr → Nat
  | .bipush _ | .iload _ | .aload _ | .lload _ | .istore _ | .astore _ | .lstore _ | .newarray _ | .ldc _ => 2
  | .sipush _ | .iinc _ _ | .goto _ | .if_icmp _ _ | .ifCond _ _ | .getfield _ | .putfield _ | .getstatic _ | .invokevirtual _ | .invokestatic _ | .invokespecial _ | .new _ | .anewarray _ | .ldc_w _ | .ldc2_w _ => 3
  | _ => 1
def zstI (X : zX) (i : Instr) (pc : Nat) (ls : zL) (st : List Value) (h : zH) : Option (Nat × zL × List Value × zH) :=
  match i with
  | .iadd => match st with
    | .int y :: .int x :: r => some (pc + 1, ls, .int (x + y) :: r, h)
    | _ => none
  | .isub => match st with
    | .int y :: .int x :: r => some (pc + 1, ls, .int (x - y) :: r, h)
    | _ => none
  | .imul => match st with
    | .int y :: .int x :: r => some (pc + 1, ls, .int (x * y) :: r, h)
    | _ => none
  | .iand => match st with
    | .int y :: .int x :: r => some (pc + 1, ls, .int (x &&& y) :: r, h)
    | _ => none
  | .ior => match st with
    | .int y :: .int x :: r => some (pc + 1, ls, .int (x ||| y) :: r, h)
    | _ => none
  | .ixor => match st with
    | .int y :: .int x :: r => some (pc + 1, ls, .int (x ^^^ y) :: r, h)
    | _ => none
  | .idiv => match st with
    | .int y :: .int x :: r => if y = 0 then none else some (pc + 1, ls, .int (x / y) :: r, h)
    | _ => none
  | .irem => match st with
    | .int y :: .int x :: r => if y = 0 then none else some (pc + 1, ls, .int (x - x / y * y) :: r, h)
    | _ => none
  | .ineg => match st with
    | .int x :: r => some (pc + 1, ls, .int (-x) :: r, h)
    | _ => none
  | .ishl => match st with
    | .int y :: .int x :: r => some (pc + 1, ls, .int (x <<< (y &&& 31)) :: r, h)
    | _ => none
  | .ishr => match st with
    | .int y :: .int x :: r => some (pc + 1, ls, .int (x >>> (y &&& 31)) :: r, h)
    | _ => none
  | .iushr => match st with
    | .int y :: .int x :: r => some (pc + 1, ls, .int ((x.toUInt32 >>> (y.toUInt32 &&& Int32.toUInt32 31)).toInt32) :: r, h)
    | _ => none
  | .ladd => match st with
    | .long y :: .long x :: r => some (pc + 1, ls, .long (x + y) :: r, h)
    | _ => none
  | .lsub => match st with
    | .long y :: .long x :: r => some (pc + 1, ls, .long (x - y) :: r, h)
    | _ => none
  | .lmul => match st with
    | .long y :: .long x :: r => some (pc + 1, ls, .long (x * y) :: r, h)
    | _ => none
  | .land => match st with
    | .long y :: .long x :: r => some (pc + 1, ls, .long (x &&& y) :: r, h)
    | _ => none
  | .lor => match st with
    | .long y :: .long x :: r => some (pc + 1, ls, .long (x ||| y) :: r, h)
    | _ => none
  | .lxor => match st with
    | .long y :: .long x :: r => some (pc + 1, ls, .long (x ^^^ y) :: r, h)
    | _ => none
  | .ldiv => match st with
    | .long y :: .long x :: r => if y = 0 then none else some (pc + 1, ls, .long (x / y) :: r, h)
    | _ => none
  | .lrem => match st with
    | .long y :: .long x :: r => if y = 0 then none else some (pc + 1, ls, .long (x - x / y * y) :: r, h)
    | _ => none
  | .lneg => match st with
    | .long x :: r => some (pc + 1, ls, .long (-x) :: r, h)
    | _ => none
  | .lshl => match st with
    | .int y :: .long x :: r => some (pc + 1, ls, .long (x <<< (y.toInt64 &&& 63)) :: r, h)
    | _ => none
  | .lshr => match st with
    | .int y :: .long x :: r => some (pc + 1, ls, .long (x >>> (y.toInt64 &&& 63)) :: r, h)
    | _ => none
  | .lushr => match st with
    | .int y :: .long x :: r => some (pc + 1, ls, .long ((x.toUInt64 >>> (y.toInt64.toUInt64 &&& Int64.toUInt64 63)).toInt64) :: r, h)
    | _ => none
  | .lcmp => match st with
    | .long y :: .long x :: r => some (pc + 1, ls, .int (lg_cmp x y) :: r, h)
    | _ => none
  | .i2l => match st with
    | .int x :: r => some (pc + 1, ls, .long x.toInt64 :: r, h)
    | _ => none
  | .l2i => match st with
    | .long x :: r => some (pc + 1, ls, .int x.toInt32 :: r, h)
    | _ => none
  | .i2c => match st with
    | .int x :: r => some (pc + 1, ls, .int (x.toUInt32 % 65536).toInt32 :: r, h)
    | _ => none
  | .dup => match st with
    | .int x :: r => some (pc + 1, ls, .int x :: .int x :: r, h)
    | .ref x :: r => some (pc + 1, ls, .ref x :: .ref x :: r, h)
    | _ => none
  | .dup2 => match st with
    | .int x :: .ref a :: r => some (pc + 1, ls, .int x :: .ref a :: .int x :: .ref a :: r, h)
    | _ => none
  | .pop => match st with
    | .int _ :: r => some (pc + 1, ls, r, h)
    | .ref _ :: r => some (pc + 1, ls, r, h)
    | _ => none
  | .ifCond c off => match st with
    | .int x :: r => zbr (zicmp c x 0) pc off ls r h
    | _ => none
  | .if_icmp c off => match st with
    | .int y :: .int x :: r => zbr (zicmp c x y) pc off ls r h
    | _ => none
  | .goto off => zjump pc off ls st h
  | .tableswitch d lo hi offs => match st with
    | .int x :: r => if x.toInt < lo ∨ hi < x.toInt then zjump pc d ls r h else
        match offs[(x.toInt - lo).toNat]? with
        | some off => zjump pc off ls r h
        | none => none
    | _ => none
  | .lookupswitch d ps => match st with
    | .int x :: r => if (ps.toList.zip (ps.toList.drop 1)).all (fun (a, next) => a.1 < next.1) = true then zjump pc (Op.lookupswitch.offset ps.toList d x.toInt) ls r h else none
    | _ => none
  | _ => none
def zstL (nL : Nat) (i : Instr) (pc : Nat) (ls : zL) (st : List Value) (h : zH) : Option (Nat × zL × List Value × zH) :=
  match i with
  | .iconst n => some (pc + 1, ls, .int (Int32.ofInt n) :: st, h)
  | .bipush n => some (pc + 2, ls, .int (Int8.ofInt n).toInt32 :: st, h)
  | .sipush n => some (pc + 3, ls, .int (Int16.ofInt n).toInt32 :: st, h)
  | .lconst n => some (pc + 1, ls, .long (Int64.ofNat (n : Nat)) :: st, h)
  | .iload_n k => match zget ls k with
    | some (.int x) => some (pc + 1, ls, .int x :: st, h)
    | _ => none
  | .iload k => match zget ls k with
    | some (.int x) => some (pc + 2, ls, .int x :: st, h)
    | _ => none
  | .lload_n k => match zget ls k with
    | some (.long x) => some (pc + 1, ls, .long x :: st, h)
    | _ => none
  | .lload k => match zget ls k with
    | some (.long x) => some (pc + 2, ls, .long x :: st, h)
    | _ => none
  | .aload_n k => match zget ls k with
    | some (.ref x) => some (pc + 1, ls, .ref x :: st, h)
    | some (.retAddr x) => some (pc + 1, ls, .retAddr x :: st, h)
    | _ => none
  | .aload k => match zget ls k with
    | some (.ref x) => some (pc + 2, ls, .ref x :: st, h)
    | some (.retAddr x) => some (pc + 2, ls, .retAddr x :: st, h)
    | _ => none
  | .istore_n k => match st with
    | .int x :: r => if (k : Nat) < nL then some (pc + 1, zset1 ls k (.int x), r, h) else none
    | _ => none
  | .istore k => match st with
    | .int x :: r => if k < nL then some (pc + 2, zset1 ls k (.int x), r, h) else none
    | _ => none
  | .lstore_n k => match st with
    | .long x :: r => if (k : Nat) + 1 < nL then some (pc + 1, zset2 ls k (.long x), r, h) else none
    | _ => none
  | .lstore k => match st with
    | .long x :: r => if k + 1 < nL then some (pc + 2, zset2 ls k (.long x), r, h) else none
    | _ => none
  | .astore_n k => match st with
    | .ref x :: r => if (k : Nat) < nL then some (pc + 1, zset1 ls k (.ref x), r, h) else none
    | _ => none
  | .astore k => match st with
    | .ref x :: r => if k < nL then some (pc + 2, zset1 ls k (.ref x), r, h) else none
    | _ => none
  | .iinc k n => match zget ls k with
    | some (.int x) => if k < nL then some (pc + 3, zset1 ls k (.int (x + Int32.ofInt n)), st, h) else none
    | _ => none
  | _ => none
def zstH (X : zX) (ini : Bool) (c : Nat) (i : Instr) (pc : Nat) (ls : zL) (st : List Value) (h : zH) : Option (Nat × zL × List Value × zH) :=
  match i with
  | .getfield j => match st with
    | .ref a :: r => match zfld X c j, h[a]? with
      | some (ci, k), some (ci', .inr (.inr (.inr fs))) => match fs[k]? with
        | some v => if ci' = ci then some (pc + 3, ls, v :: r, h) else none
        | none => none
      | _, _ => none
    | .retAddr e :: r => match zxget X c j e with
      | some v => some (pc + 3, ls, v :: r, h)
      | none => none
    | _ => none
  | .putfield j => match st with
    | v :: .ref a :: r => match zfld X c j, h[a]? with
      | some (ci, k), some (ci', .inr (.inr (.inr fs))) => if ci' = ci ∧ k < fs.length ∧ zputs X ini c ci k v = true then some (pc + 3, ls, r, h.set a (ci, .inr (.inr (.inr (fs.set k v))))) else none
      | _, _ => none
    | _ => none
  | .getstatic j => match zkon X c j with
    | some v => some (pc + 3, ls, v :: st, h)
    | none => none
  | .ldc j => match zkon X c j with
    | some (.int x) => some (pc + 2, ls, .int x :: st, h)
    | some (.retAddr x) => some (pc + 2, ls, .retAddr x :: st, h)
    | _ => none
  | .ldc_w j => match zkon X c j with
    | some (.int x) => some (pc + 3, ls, .int x :: st, h)
    | _ => none
  | .ldc2_w j => match zkon X c j with
    | some (.long x) => some (pc + 3, ls, .long x :: st, h)
    | _ => none
  | .iaload => match st with
    | .int i :: .ref a :: r => match h[a]? with
      | some (0, .inl l) => if zidx i l.length = true then some (pc + 1, ls, .int (l.getD i.toNatClampNeg 0) :: r, h) else none
      | _ => none
    | .int i :: .retAddr e :: r => match zxarr X e with
      | some (false, l) => if zidx i l.length = true then some (pc + 1, ls, .int (l.getD i.toNatClampNeg 0) :: r, h) else none
      | _ => none
    | _ => none
  | .baload => match st with
    | .int i :: .ref a :: r => match h[a]? with
      | some (2, .inl l) => if zidx i l.length = true then some (pc + 1, ls, .int (l.getD i.toNatClampNeg 0) :: r, h) else none
      | _ => none
    | .int i :: .retAddr e :: r => match zxarr X e with
      | some (true, l) => if zidx i l.length = true then some (pc + 1, ls, .int (l.getD i.toNatClampNeg 0) :: r, h) else none
      | _ => none
    | _ => none
  | .laload => match st with
    | .int i :: .ref a :: r => match h[a]? with
      | some (1, .inr (.inl l)) => if zidx i l.length = true then some (pc + 1, ls, .long (l.getD i.toNatClampNeg 0) :: r, h) else none
      | _ => none
    | _ => none
  | .aaload => match st with
    | .int i :: .ref a :: r => match h[a]? with
      | some (3, .inr (.inr (.inl l))) => if zidx i l.length = true then some (pc + 1, ls, zrv (l.getD i.toNatClampNeg none) :: r, h) else none
      | _ => none
    | _ => none
  | .iastore => match st with
    | .int x :: .int i :: .ref a :: r => match h[a]? with
      | some (0, .inl l) => if zidx i l.length = true then some (pc + 1, ls, r, h.set a (0, .inl (l.set i.toNatClampNeg x))) else none
      | _ => none
    | _ => none
  | .bastore => match st with
    | .int x :: .int i :: .ref a :: r => match h[a]? with
      | some (2, .inl l) => if zidx i l.length = true then some (pc + 1, ls, r, h.set a (2, .inl (l.set i.toNatClampNeg (x &&& 1)))) else none
      | _ => none
    | _ => none
  | .lastore => match st with
    | .long x :: .int i :: .ref a :: r => match h[a]? with
      | some (1, .inr (.inl l)) => if zidx i l.length = true then some (pc + 1, ls, r, h.set a (1, .inr (.inl (l.set i.toNatClampNeg x)))) else none
      | _ => none
    | _ => none
  | .aastore => match st with
    | .ref v :: .int i :: .ref a :: r => match h[a]?, h[v]? with
      | some (3, .inr (.inr (.inl l))), some (ci, .inr (.inr (.inr _))) => if zidx i l.length = true ∧ ci = zpc X then some (pc + 1, ls, r, h.set a (3, .inr (.inr (.inl (l.set i.toNatClampNeg (some v)))))) else none
      | _, _ => none
    | _ => none
  | .arraylength => match st with
    | .ref a :: r => match h[a]? with
      | some (0, .inl l) => some (pc + 1, ls, .int (Int32.ofNat l.length) :: r, h)
      | some (2, .inl l) => some (pc + 1, ls, .int (Int32.ofNat l.length) :: r, h)
      | some (1, .inr (.inl l)) => some (pc + 1, ls, .int (Int32.ofNat l.length) :: r, h)
      | some (3, .inr (.inr (.inl l))) => some (pc + 1, ls, .int (Int32.ofNat l.length) :: r, h)
      | _ => none
    | .retAddr e :: r => match zxarr X e with
      | some (_, l) => some (pc + 1, ls, .int (Int32.ofNat l.length) :: r, h)
      | _ => none
    | _ => none
  | .new j => match znew X c j with
    | some (ci, fs) => some (pc + 3, ls, .ref h.length :: st, h ++ [(ci, .inr (.inr (.inr fs)))])
    | none => none
  | .newarray .int => match st with
    | .int n :: r => if n < 0 ∨ 1000000 < n.toNatClampNeg then none else some (pc + 2, ls, .ref h.length :: r, h ++ [(0, .inl (List.replicate n.toNatClampNeg 0))])
    | _ => none
  | .newarray .boolean => match st with
    | .int n :: r => if n < 0 ∨ 1000000 < n.toNatClampNeg then none else some (pc + 2, ls, .ref h.length :: r, h ++ [(2, .inl (List.replicate n.toNatClampNeg 0))])
    | _ => none
  | .newarray .long => match st with
    | .int n :: r => if n < 0 ∨ 1000000 < n.toNatClampNeg then none else some (pc + 2, ls, .ref h.length :: r, h ++ [(1, .inr (.inl (List.replicate n.toNatClampNeg 0)))])
    | _ => none
  | .anewarray j => match st with
    | .int n :: r => if n < 0 ∨ 1000000 < n.toNatClampNeg ∨ zisP X c j = false then none else some (pc + 3, ls, .ref h.length :: r, h ++ [(3, .inr (.inr (.inl (List.replicate n.toNatClampNeg none))))])
    | _ => none
  | _ => none
/-- one instruction that is no call and no end -/
def zstep (X : zX) (nL : Nat) (ini : Bool) (c : Nat) (i : Instr) (pc : Nat) (ls : zL) (st : List Value) (h : zH) : Option (Nat × zL × List Value × zH) :=
  match zstI X i pc ls st h with
  | some r => some r
  | none => match zstL nL i pc ls st h with
    | some r => some r
    | none => zstH X ini c i pc ls st h
end
section
/-! What a cell, a value, a heap of our machine is on the Java machine. B: where its cells begin; xa: addresses of things outside; ca: classes of arrays. -/
def zcv (B : Nat) (xa : Nat → Nat) : Value → Value
  | .ref k => .ref (B + k)
  | .retAddr k => .ref (xa k)
  | .int x => .int x
  | .long x => .long x
  | .float x => .float x
  | .double x => .double x
  | .null => .null
def zcl (B : Nat) (xa : Nat → Nat) (ls : zL) : List (Nat × Value) := ls.map (fun q => (q.1, zcv B xa q.2))
def zc (B : Nat) (xa : Nat → Nat) (ca : Nat → ClassId) : zE → va_E
  | (t, .inl l) => .inl (ca t, l.length, .inl (fun k => l.getD k 0))
  | (t, .inr (.inl l)) => .inl (ca t, l.length, .inr (.inl (fun k => l.getD k 0)))
  | (t, .inr (.inr (.inl l))) => .inl (ca t, l.length, .inr (.inr (.inr (.inr (fun k => (l.getD k none).map (fun q => B + q))))))
  | (ci, .inr (.inr (.inr fs))) => .inr (ci, fs.map (zcv B xa))
def zHR (B : Nat) (xa : Nat → Nat) (ca : Nat → ClassId) (D : va_G) (cl : List vw_C) (h : zH) (H : Heap) : Prop :=
  H.size = B + h.length ∧ ∀ (k : Nat) (e : zE), h[k]? = some e → va_at D cl (B + k, zc B xa ca e) H
theorem zcv_cat (B : Nat) (xa : Nat → Nat) (v : Value) : (zcv B xa v).category = v.category := by cases v <;> rfl
theorem zget_mem {ls : zL} {i : Nat} {v : Value} (h : zget ls i = some v) : (i, v) ∈ ls := by
  unfold zget at h
  cases hf : ls.find? (fun q => q.1 == i) with
  | none => rw [hf] at h; cases h
  | some q =>
    rw [hf] at h
    have h1 := List.find?_some hf
    have h2 := List.mem_of_find?_eq_some hf
    obtain ⟨a, b⟩ := q
    have e1 : a = i := by simpa using h1
    have e2 : b = v := by simpa using h
    subst e1; subst e2
    exact h2
theorem zget_at {B : Nat} {xa : Nat → Nat} {LS : Array Slot} {nL : Nat} {ls : zL} {i : Nat} {v : Value} (hl : lv_has LS nL (zcl B xa ls)) (h : zget ls i = some v) : LS[i]? = some (.val (zcv B xa v)) :=
  hl.2.2 (i, zcv B xa v) (List.mem_map.mpr ⟨(i, v), zget_mem h, rfl⟩)
theorem zset1_cl (B : Nat) (xa : Nat → Nat) (ls : zL) (i : Nat) (v : Value) : (i, zcv B xa v) :: (zcl B xa ls).filter (fun q => !(q.1 == i) && !(q.1 + 1 == i && q.2.category == 2)) = zcl B xa (zset1 ls i v) := by
  unfold zcl zset1
  rw [List.filter_map, List.map_cons]
  congr 2
  apply List.filter_congr
  intro q _
  simp [Function.comp, zcv_cat]
theorem zset2_cl (B : Nat) (xa : Nat → Nat) (ls : zL) (i : Nat) (v : Value) : (i, zcv B xa v) :: (zcl B xa ls).filter (fun q => !(q.1 == i) && (!(q.1 == i + 1) && !(q.1 + 1 == i && q.2.category == 2))) = zcl B xa (zset2 ls i v) := by
  unfold zcl zset2
  rw [List.filter_map, List.map_cons]
  congr 2
  apply List.filter_congr
  intro q _
  simp [Function.comp, zcv_cat]
def zlok (i : Instr) (len : Nat) : Bool := match i with
  | .tableswitch _ _ _ _ => true
  | .lookupswitch _ _ => true
  | _ => len == zlen i
theorem zjump_of {pc : Nat} {off : Int} {ls : zL} {st : List Value} {h : zH} {pc' : Nat} {ls' : zL} {st' : List Value} {h' : zH} (e : zjump pc off ls st h = some (pc', ls', st', h')) : (pc : Int) + off = (pc' : Int) ∧ ls' = ls ∧ st' = st ∧ h' = h := by
  unfold zjump at e
  split at e
  · cases e
    exact ⟨by omega, rfl, rfl, rfl⟩
  · cases e

theorem zbr_of {b : Bool} {pc : Nat} {off : Int} {ls : zL} {st : List Value} {h : zH} {pc' : Nat} {ls' : zL} {st' : List Value} {h' : zH} (e : zbr b pc off ls st h = some (pc', ls', st', h')) : ∃ tgt : Nat, (pc : Int) + off = (tgt : Int) ∧ ls' = ls ∧ st' = st ∧ h' = h ∧ ((b = true ∧ pc' = tgt) ∨ (b = false ∧ pc' = pc + 3)) := by
  unfold zbr at e
  split at e
  · split at e
    · next hb =>
      cases e
      exact ⟨_, by omega, rfl, rfl, rfl, Or.inl ⟨hb, rfl⟩⟩
    · next hb =>
      cases e
      exact ⟨((pc : Int) + off).toNat, by omega, rfl, rfl, rfl, Or.inr ⟨by simpa using hb, rfl⟩⟩
  · cases e

section ZS
variable {p : Program} {l : Launch} {e : Env} {R : Room} {s : State} {m : MethodId} {args : Array Value} {below : List Frame} {meth : Method} {c : Code} {H : Heap} {locs : List Loc} {cells slots : Nat} {Q : State → Prop}
variable {cc : ByteArray} {B : Nat} {xa : Nat → Nat}
set_option maxHeartbeats 4000000 in
set_option maxRecDepth 100000 in
theorem zstI_ok {X : zX} {i : Instr} {len pc : Nat} {ls : zL} {st : List Value} {h : zH} {pc' : Nat} {ls' : zL} {st' : List Value} {h' : zH} {LS : Array Slot} (hx : p.tables.exec = Jvm.exec) (hb : c.code = cc) (hd : decode cc pc = .ok (i, len)) (hlen : zlok i len = true)
    (hs : zstI X i pc ls st h = some (pc', ls', st', h')) (k : W p l e R s m args below meth c H locs cells slots Q (F0 m pc' LS (st'.map (zcv B xa)))) : (W p l e R s m args below meth c H locs cells slots Q (F0 m pc LS (st.map (zcv B xa)))) ∧ ls' = ls ∧ h' = h := by
  cases i with
  | iadd =>
    obtain rfl : len = 1 := eq_of_beq hlen
    dsimp only [zstI] at hs
    split at hs
    · cases hs
      exact ⟨lv_iadd hx hb hd k, rfl, rfl⟩
    · cases hs
  | isub =>
    obtain rfl : len = 1 := eq_of_beq hlen
    dsimp only [zstI] at hs
    split at hs
    · cases hs
      exact ⟨lv_isub hx hb hd k, rfl, rfl⟩
    · cases hs
  | imul =>
    obtain rfl : len = 1 := eq_of_beq hlen
    dsimp only [zstI] at hs
    split at hs
    · cases hs
      exact ⟨lv_imul hx hb hd k, rfl, rfl⟩
    · cases hs
  | iand =>
    obtain rfl : len = 1 := eq_of_beq hlen
    dsimp only [zstI] at hs
    split at hs
    · cases hs
      exact ⟨lv_iand hx hb hd k, rfl, rfl⟩
    · cases hs
  | ior =>
    obtain rfl : len = 1 := eq_of_beq hlen
    dsimp only [zstI] at hs
    split at hs
    · cases hs
      exact ⟨lv_ior hx hb hd k, rfl, rfl⟩
    · cases hs
  | ixor =>
    obtain rfl : len = 1 := eq_of_beq hlen
    dsimp only [zstI] at hs
    split at hs
    · cases hs
      exact ⟨lv_ixor hx hb hd k, rfl, rfl⟩
    · cases hs
  | ladd =>
    obtain rfl : len = 1 := eq_of_beq hlen
    dsimp only [zstI] at hs
    split at hs
    · cases hs
      exact ⟨lv_ladd hx hb hd k, rfl, rfl⟩
    · cases hs
  | lsub =>
    obtain rfl : len = 1 := eq_of_beq hlen
    dsimp only [zstI] at hs
    split at hs
    · cases hs
      exact ⟨lv_lsub hx hb hd k, rfl, rfl⟩
    · cases hs
  | lmul =>
    obtain rfl : len = 1 := eq_of_beq hlen
    dsimp only [zstI] at hs
    split at hs
    · cases hs
      exact ⟨lv_lmul hx hb hd k, rfl, rfl⟩
    · cases hs
  | land =>
    obtain rfl : len = 1 := eq_of_beq hlen
    dsimp only [zstI] at hs
    split at hs
    · cases hs
      exact ⟨lv_land hx hb hd k, rfl, rfl⟩
    · cases hs
  | lor =>
    obtain rfl : len = 1 := eq_of_beq hlen
    dsimp only [zstI] at hs
    split at hs
    · cases hs
      exact ⟨lv_lor hx hb hd k, rfl, rfl⟩
    · cases hs
  | lxor =>
    obtain rfl : len = 1 := eq_of_beq hlen
    dsimp only [zstI] at hs
    split at hs
    · cases hs
      exact ⟨lv_lxor hx hb hd k, rfl, rfl⟩
    · cases hs
  | ineg =>
    obtain rfl : len = 1 := eq_of_beq hlen
    dsimp only [zstI] at hs
    split at hs
    · cases hs
      exact ⟨lv_ineg hx hb hd k, rfl, rfl⟩
    · cases hs
  | lneg =>
    obtain rfl : len = 1 := eq_of_beq hlen
    dsimp only [zstI] at hs
    split at hs
    · cases hs
      exact ⟨lv_lneg hx hb hd k, rfl, rfl⟩
    · cases hs
  | ishl =>
    obtain rfl : len = 1 := eq_of_beq hlen
    dsimp only [zstI] at hs
    split at hs
    · cases hs
      exact ⟨lv_ishl hx hb hd k, rfl, rfl⟩
    · cases hs
  | ishr =>
    obtain rfl : len = 1 := eq_of_beq hlen
    dsimp only [zstI] at hs
    split at hs
    · cases hs
      exact ⟨lv_ishr hx hb hd k, rfl, rfl⟩
    · cases hs
  | iushr =>
    obtain rfl : len = 1 := eq_of_beq hlen
    dsimp only [zstI] at hs
    split at hs
    · cases hs
      exact ⟨lv_iushr hx hb hd rfl k, rfl, rfl⟩
    · cases hs
  | lshl =>
    obtain rfl : len = 1 := eq_of_beq hlen
    dsimp only [zstI] at hs
    split at hs
    · cases hs
      exact ⟨lv_lshl hx hb hd rfl k, rfl, rfl⟩
    · cases hs
  | lshr =>
    obtain rfl : len = 1 := eq_of_beq hlen
    dsimp only [zstI] at hs
    split at hs
    · cases hs
      exact ⟨lv_lshr hx hb hd rfl k, rfl, rfl⟩
    · cases hs
  | lushr =>
    obtain rfl : len = 1 := eq_of_beq hlen
    dsimp only [zstI] at hs
    split at hs
    · cases hs
      exact ⟨lv_lushr hx hb hd rfl k, rfl, rfl⟩
    · cases hs
  | i2l =>
    obtain rfl : len = 1 := eq_of_beq hlen
    dsimp only [zstI] at hs
    split at hs
    · cases hs
      exact ⟨lv_i2l hx hb hd rfl k, rfl, rfl⟩
    · cases hs
  | l2i =>
    obtain rfl : len = 1 := eq_of_beq hlen
    dsimp only [zstI] at hs
    split at hs
    · cases hs
      exact ⟨lv_l2i hx hb hd rfl k, rfl, rfl⟩
    · cases hs
  | i2c =>
    obtain rfl : len = 1 := eq_of_beq hlen
    dsimp only [zstI] at hs
    split at hs
    · cases hs
      exact ⟨lv_i2c hx hb hd rfl k, rfl, rfl⟩
    · cases hs
  | lcmp =>
    obtain rfl : len = 1 := eq_of_beq hlen
    dsimp only [zstI] at hs
    split at hs
    · cases hs
      exact ⟨W.lcmp hx hb hd k, rfl, rfl⟩
    · cases hs
  | idiv =>
    obtain rfl : len = 1 := eq_of_beq hlen
    dsimp only [zstI] at hs
    split at hs
    · split at hs
      · cases hs
      · next hy =>
        cases hs
        exact ⟨lv_idiv hx hb hd hy k, rfl, rfl⟩
    · cases hs
  | irem =>
    obtain rfl : len = 1 := eq_of_beq hlen
    dsimp only [zstI] at hs
    split at hs
    · split at hs
      · cases hs
      · next hy =>
        cases hs
        exact ⟨lv_irem hx hb hd hy k, rfl, rfl⟩
    · cases hs
  | ldiv =>
    obtain rfl : len = 1 := eq_of_beq hlen
    dsimp only [zstI] at hs
    split at hs
    · split at hs
      · cases hs
      · next hy =>
        cases hs
        exact ⟨lv_ldiv hx hb hd hy k, rfl, rfl⟩
    · cases hs
  | lrem =>
    obtain rfl : len = 1 := eq_of_beq hlen
    dsimp only [zstI] at hs
    split at hs
    · split at hs
      · cases hs
      · next hy =>
        cases hs
        exact ⟨lv_lrem hx hb hd hy k, rfl, rfl⟩
    · cases hs
  | dup =>
    obtain rfl : len = 1 := eq_of_beq hlen
    dsimp only [zstI] at hs
    split at hs
    · cases hs
      exact ⟨lv_dup hx hb hd rfl k, rfl, rfl⟩
    · cases hs
      exact ⟨lv_dup hx hb hd rfl k, rfl, rfl⟩
    · cases hs
  | dup2 =>
    obtain rfl : len = 1 := eq_of_beq hlen
    dsimp only [zstI] at hs
    split at hs
    · cases hs
      exact ⟨lv_dup2_11 hx hb hd rfl rfl k, rfl, rfl⟩
    · cases hs
  | pop =>
    obtain rfl : len = 1 := eq_of_beq hlen
    dsimp only [zstI] at hs
    split at hs
    · cases hs
      exact ⟨lv_pop hx hb hd rfl k, rfl, rfl⟩
    · cases hs
      exact ⟨lv_pop hx hb hd rfl k, rfl, rfl⟩
    · cases hs
  | ifCond cnd off =>
    obtain rfl : len = 3 := eq_of_beq hlen
    dsimp only [zstI] at hs
    split at hs
    · obtain ⟨tgt, ht, rfl, rfl, rfl, hc⟩ := zbr_of hs
      refine ⟨?_, rfl, rfl⟩
      cases cnd with
      | eq =>
        refine lv_if_eq hx hb hd ht (fun q => ?_) (fun q => ?_)
        · rcases hc with ⟨_, rfl⟩ | ⟨hz, _⟩
          · exact k
          · exact absurd q (by simpa [zicmp] using hz)
        · rcases hc with ⟨hz, _⟩ | ⟨_, rfl⟩
          · exact absurd q (by simpa [zicmp] using hz)
          · exact k
      | ne =>
        refine lv_if_ne hx hb hd ht (fun q => ?_) (fun q => ?_)
        · rcases hc with ⟨_, rfl⟩ | ⟨hz, _⟩
          · exact k
          · exact absurd q (by simpa [zicmp] using hz)
        · rcases hc with ⟨hz, _⟩ | ⟨_, rfl⟩
          · exact absurd q (by simpa [zicmp] using hz)
          · exact k
      | lt =>
        refine lv_if_lt hx hb hd ht (fun q => ?_) (fun q => ?_)
        · rcases hc with ⟨_, rfl⟩ | ⟨hz, _⟩
          · exact k
          · exact absurd q (by simpa [zicmp] using hz)
        · rcases hc with ⟨hz, _⟩ | ⟨_, rfl⟩
          · exact absurd q (by simpa [zicmp] using hz)
          · exact k
      | ge =>
        refine lv_if_ge hx hb hd ht (fun q => ?_) (fun q => ?_)
        · rcases hc with ⟨_, rfl⟩ | ⟨hz, _⟩
          · exact k
          · exact absurd q (by simpa [zicmp] using hz)
        · rcases hc with ⟨hz, _⟩ | ⟨_, rfl⟩
          · exact absurd q (by simpa [zicmp] using hz)
          · exact k
      | gt =>
        refine lv_if_gt hx hb hd ht (fun q => ?_) (fun q => ?_)
        · rcases hc with ⟨_, rfl⟩ | ⟨hz, _⟩
          · exact k
          · exact absurd q (by simpa [zicmp] using hz)
        · rcases hc with ⟨hz, _⟩ | ⟨_, rfl⟩
          · exact absurd q (by simpa [zicmp] using hz)
          · exact k
      | le =>
        refine lv_if_le hx hb hd ht (fun q => ?_) (fun q => ?_)
        · rcases hc with ⟨_, rfl⟩ | ⟨hz, _⟩
          · exact k
          · exact absurd q (by simpa [zicmp] using hz)
        · rcases hc with ⟨hz, _⟩ | ⟨_, rfl⟩
          · exact absurd q (by simpa [zicmp] using hz)
          · exact k
    · cases hs
  | if_icmp cnd off =>
    obtain rfl : len = 3 := eq_of_beq hlen
    dsimp only [zstI] at hs
    split at hs
    · obtain ⟨tgt, ht, rfl, rfl, rfl, hc⟩ := zbr_of hs
      refine ⟨?_, rfl, rfl⟩
      cases cnd with
      | eq =>
        refine lv_icmp_eq hx hb hd ht (fun q => ?_) (fun q => ?_)
        · rcases hc with ⟨_, rfl⟩ | ⟨hz, _⟩
          · exact k
          · exact absurd q (by simpa [zicmp] using hz)
        · rcases hc with ⟨hz, _⟩ | ⟨_, rfl⟩
          · exact absurd q (by simpa [zicmp] using hz)
          · exact k
      | ne =>
        refine lv_icmp_ne hx hb hd ht (fun q => ?_) (fun q => ?_)
        · rcases hc with ⟨_, rfl⟩ | ⟨hz, _⟩
          · exact k
          · exact absurd q (by simpa [zicmp] using hz)
        · rcases hc with ⟨hz, _⟩ | ⟨_, rfl⟩
          · exact absurd q (by simpa [zicmp] using hz)
          · exact k
      | lt =>
        refine lv_icmp_lt hx hb hd ht (fun q => ?_) (fun q => ?_)
        · rcases hc with ⟨_, rfl⟩ | ⟨hz, _⟩
          · exact k
          · exact absurd q (by simpa [zicmp] using hz)
        · rcases hc with ⟨hz, _⟩ | ⟨_, rfl⟩
          · exact absurd q (by simpa [zicmp] using hz)
          · exact k
      | ge =>
        refine lv_icmp_ge hx hb hd ht (fun q => ?_) (fun q => ?_)
        · rcases hc with ⟨_, rfl⟩ | ⟨hz, _⟩
          · exact k
          · exact absurd q (by simpa [zicmp] using hz)
        · rcases hc with ⟨hz, _⟩ | ⟨_, rfl⟩
          · exact absurd q (by simpa [zicmp] using hz)
          · exact k
      | gt =>
        refine lv_icmp_gt hx hb hd ht (fun q => ?_) (fun q => ?_)
        · rcases hc with ⟨_, rfl⟩ | ⟨hz, _⟩
          · exact k
          · exact absurd q (by simpa [zicmp] using hz)
        · rcases hc with ⟨hz, _⟩ | ⟨_, rfl⟩
          · exact absurd q (by simpa [zicmp] using hz)
          · exact k
      | le =>
        refine lv_icmp_le hx hb hd ht (fun q => ?_) (fun q => ?_)
        · rcases hc with ⟨_, rfl⟩ | ⟨hz, _⟩
          · exact k
          · exact absurd q (by simpa [zicmp] using hz)
        · rcases hc with ⟨hz, _⟩ | ⟨_, rfl⟩
          · exact absurd q (by simpa [zicmp] using hz)
          · exact k
    · cases hs
  | goto off =>
    obtain rfl : len = 3 := eq_of_beq hlen
    dsimp only [zstI] at hs
    obtain ⟨ht, rfl, rfl, rfl⟩ := zjump_of hs
    exact ⟨lv_goto hx hb hd ht k, rfl, rfl⟩
  | tableswitch d lo hi offs =>
    dsimp only [zstI] at hs
    split at hs
    · split at hs
      · next ho =>
        obtain ⟨ht, rfl, rfl, rfl⟩ := zjump_of hs
        exact ⟨lv_tableOut hx hb hd ho ht k, rfl, rfl⟩
      · next ho =>
        split at hs
        · next hoff =>
          obtain ⟨ht, rfl, rfl, rfl⟩ := zjump_of hs
          exact ⟨lv_tableIn hx hb hd (fun q => ho (Or.inl q)) (fun q => ho (Or.inr q)) hoff ht k, rfl, rfl⟩
        · cases hs
    · cases hs
  | lookupswitch d ps =>
    dsimp only [zstI] at hs
    split at hs
    · split at hs
      · next hp =>
        obtain ⟨ht, rfl, rfl, rfl⟩ := zjump_of hs
        exact ⟨lv_lookup hx hb hd hp rfl ht k, rfl, rfl⟩
      · cases hs
    · cases hs
  | _ => exact nomatch (show (none : Option (Nat × zL × List Value × zH)) = some _ from hs)
end ZS
end
section
section ZS
variable {p : Program} {l : Launch} {e : Env} {R : Room} {s : State} {m : MethodId} {args : Array Value} {below : List Frame} {meth : Method} {c : Code} {H : Heap} {locs : List Loc} {cells slots : Nat} {Q : State → Prop}
variable {cc : ByteArray} {B : Nat} {xa : Nat → Nat}
set_option maxHeartbeats 4000000 in
set_option maxRecDepth 100000 in
theorem zstL_ok {nL : Nat} {i : Instr} {len pc : Nat} {ls : zL} {st : List Value} {h : zH} {pc' : Nat} {ls' : zL} {st' : List Value} {h' : zH} {LS : Array Slot} (hx : p.tables.exec = Jvm.exec) (hb : c.code = cc) (hd : decode cc pc = .ok (i, len)) (hlen : zlok i len = true) (hl : lv_has LS nL (zcl B xa ls))
    (hs : zstL nL i pc ls st h = some (pc', ls', st', h')) (k : ∀ LS' : Array Slot, lv_has LS' nL (zcl B xa ls') → W p l e R s m args below meth c H locs cells slots Q (F0 m pc' LS' (st'.map (zcv B xa)))) : (W p l e R s m args below meth c H locs cells slots Q (F0 m pc LS (st.map (zcv B xa)))) ∧ h' = h := by
  cases i with
  | iconst n =>
    obtain rfl : len = 1 := eq_of_beq hlen
    dsimp only [zstL] at hs
    cases hs
    exact ⟨lv_iconst hx hb hd rfl (k LS hl), rfl⟩
  | bipush n =>
    obtain rfl : len = 2 := eq_of_beq hlen
    dsimp only [zstL] at hs
    cases hs
    exact ⟨lv_bipush hx hb hd rfl (k LS hl), rfl⟩
  | sipush n =>
    obtain rfl : len = 3 := eq_of_beq hlen
    dsimp only [zstL] at hs
    cases hs
    exact ⟨lv_sipush hx hb hd rfl (k LS hl), rfl⟩
  | lconst n =>
    obtain rfl : len = 1 := eq_of_beq hlen
    dsimp only [zstL] at hs
    cases hs
    exact ⟨lv_lconst hx hb hd rfl (k LS hl), rfl⟩
  | iload_n j =>
    obtain rfl : len = 1 := eq_of_beq hlen
    dsimp only [zstL] at hs
    split at hs
    · next hg =>
      cases hs
      exact ⟨lv_iload_n hx hb hd rfl (zget_at hl hg) (k LS hl), rfl⟩
    · cases hs
  | lload_n j =>
    obtain rfl : len = 1 := eq_of_beq hlen
    dsimp only [zstL] at hs
    split at hs
    · next hg =>
      cases hs
      exact ⟨lv_lload_n hx hb hd rfl (zget_at hl hg) (k LS hl), rfl⟩
    · cases hs
  | iload j =>
    obtain rfl : len = 2 := eq_of_beq hlen
    dsimp only [zstL] at hs
    split at hs
    · next hg =>
      cases hs
      exact ⟨lv_iload hx hb hd (zget_at hl hg) (k LS hl), rfl⟩
    · cases hs
  | lload j =>
    obtain rfl : len = 2 := eq_of_beq hlen
    dsimp only [zstL] at hs
    split at hs
    · next hg =>
      cases hs
      exact ⟨lv_lload hx hb hd (zget_at hl hg) (k LS hl), rfl⟩
    · cases hs
  | aload_n j =>
    obtain rfl : len = 1 := eq_of_beq hlen
    dsimp only [zstL] at hs
    split at hs
    · next hg =>
      cases hs
      exact ⟨lv_aload_n hx hb hd rfl (zget_at hl hg) (k LS hl), rfl⟩
    · next hg =>
      cases hs
      exact ⟨lv_aload_n hx hb hd rfl (zget_at hl hg) (k LS hl), rfl⟩
    · cases hs
  | aload j =>
    obtain rfl : len = 2 := eq_of_beq hlen
    dsimp only [zstL] at hs
    split at hs
    · next hg =>
      cases hs
      exact ⟨lv_aload hx hb hd (zget_at hl hg) (k LS hl), rfl⟩
    · next hg =>
      cases hs
      exact ⟨lv_aload hx hb hd (zget_at hl hg) (k LS hl), rfl⟩
    · cases hs
  | istore_n j =>
    obtain rfl : len = 1 := eq_of_beq hlen
    dsimp only [zstL] at hs
    split at hs
    · split at hs
      · next hn =>
        cases hs
        exact ⟨lv_istore_n hx hb hd rfl hl hn (zset1_cl B xa ls _ (.int _)) (fun ls2 h2 => k ls2 h2), rfl⟩
      · cases hs
    · cases hs
  | astore_n j =>
    obtain rfl : len = 1 := eq_of_beq hlen
    dsimp only [zstL] at hs
    split at hs
    · split at hs
      · next hn =>
        cases hs
        exact ⟨lv_astore_n hx hb hd rfl hl hn (zset1_cl B xa ls _ (.ref _)) (fun ls2 h2 => k ls2 h2), rfl⟩
      · cases hs
    · cases hs
  | lstore_n j =>
    obtain rfl : len = 1 := eq_of_beq hlen
    dsimp only [zstL] at hs
    split at hs
    · split at hs
      · next hn =>
        cases hs
        exact ⟨lv_lstore_n hx hb hd rfl hl hn (zset2_cl B xa ls _ (.long _)) (fun ls2 h2 => k ls2 h2), rfl⟩
      · cases hs
    · cases hs
  | istore j =>
    obtain rfl : len = 2 := eq_of_beq hlen
    dsimp only [zstL] at hs
    split at hs
    · split at hs
      · next hn =>
        cases hs
        exact ⟨lv_istore hx hb hd hl hn (zset1_cl B xa ls _ (.int _)) (fun ls2 h2 => k ls2 h2), rfl⟩
      · cases hs
    · cases hs
  | astore j =>
    obtain rfl : len = 2 := eq_of_beq hlen
    dsimp only [zstL] at hs
    split at hs
    · split at hs
      · next hn =>
        cases hs
        exact ⟨lv_astore hx hb hd hl hn (zset1_cl B xa ls _ (.ref _)) (fun ls2 h2 => k ls2 h2), rfl⟩
      · cases hs
    · cases hs
  | lstore j =>
    obtain rfl : len = 2 := eq_of_beq hlen
    dsimp only [zstL] at hs
    split at hs
    · split at hs
      · next hn =>
        cases hs
        exact ⟨lv_lstore hx hb hd hl hn (zset2_cl B xa ls _ (.long _)) (fun ls2 h2 => k ls2 h2), rfl⟩
      · cases hs
    · cases hs
  | iinc j n =>
    obtain rfl : len = 3 := eq_of_beq hlen
    dsimp only [zstL] at hs
    split at hs
    · next x hg =>
      split at hs
      · next hn =>
        cases hs
        obtain ⟨i9, hi9⟩ := List.getElem?_of_mem (List.mem_map.mpr ⟨(j, .int x), zget_mem hg, rfl⟩ : (j, Value.int x) ∈ zcl B xa ls)
        exact ⟨lv_iinc hx hb hd hl hi9 rfl hn (zset1_cl B xa ls j (.int (x + Int32.ofInt n))) (fun ls2 h2 => k ls2 h2), rfl⟩
      · cases hs
    · cases hs
  | _ => exact nomatch (show (none : Option (Nat × zL × List Value × zH)) = some _ from hs)
end ZS
end
