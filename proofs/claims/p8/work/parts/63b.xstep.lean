/-! The steps. -/
section XI
variable {nf : Bool} {xs : List Int32} {d c : Nat} {ini : Bool} {nL : Nat} {rt : Option FieldType} {tab : Nat → Option (Instr × Nat)} {G : xG} {r : Option Value} {h' : zH} {pc pc' len : Nat} {ls ls' : zL} {st : List Value} {m : xM} {g : xL} {N : Nat}
/-- an instruction and where the next one stands -/
def xt (tab : Nat → Option (Instr × Nat)) (pc pc' : Nat) (i : Instr) : Prop := tab pc = some (i, pc' - pc) ∧ pc + zlen i = pc'
/-- a branch -/
def xtb (tab : Nat → Option (Instr × Nat)) (pc pc' q : Nat) (i : Instr) (off : Int) : Prop := tab pc = some (i, 3) ∧ pc + 3 = pc' ∧ (pc : Int) + off = (q : Int)
/-- a field -/
def xtf (tab : Nat → Option (Instr × Nat)) (c pc pc' : Nat) (i : Instr) (j ci k ty : Nat) : Prop := tab pc = some (i, 3) ∧ pc + 3 = pc' ∧ zfldT c j = some (ci, k) ∧ xty (ztyT ci k) = ty
/-- a call -/
def xtc (tab : Nat → Option (Instr × Nat)) (c pc pc' : Nat) (i : Instr) (j kd mi n : Nat) : Prop := tab pc = some (i, 3) ∧ pc + 3 = pc' ∧ zIT c j = some (kd, mi, n)
theorem s_iconst {n : Int} (t : xt tab pc pc' (.iconst n)) : XS nf xs d c ini nL rt tab G r h' (pc, ls, st, m, g) (pc', ls, .int (Int32.ofInt n) :: st, m, g) := by
  obtain ⟨t, rfl⟩ := t
  exact xpure t rfl rfl (fun _ => rfl) (fun h s q => by cases q; rfl)
theorem s_bipush {n : Int} (t : xt tab pc pc' (.bipush n)) : XS nf xs d c ini nL rt tab G r h' (pc, ls, st, m, g) (pc', ls, .int (Int8.ofInt n).toInt32 :: st, m, g) := by
  obtain ⟨t, rfl⟩ := t
  exact xpure t rfl rfl (fun _ => rfl) (fun h s q => by cases q; rfl)
theorem s_sipush {n : Int} (t : xt tab pc pc' (.sipush n)) : XS nf xs d c ini nL rt tab G r h' (pc, ls, st, m, g) (pc', ls, .int (Int16.ofInt n).toInt32 :: st, m, g) := by
  obtain ⟨t, rfl⟩ := t
  exact xpure t rfl rfl (fun _ => rfl) (fun h s q => by cases q; rfl)
theorem s_lconst {n : Fin 2} (t : xt tab pc pc' (.lconst n)) : XS nf xs d c ini nL rt tab G r h' (pc, ls, st, m, g) (pc', ls, .long (Int64.ofNat (n : Nat)) :: st, m, g) := by
  obtain ⟨t, rfl⟩ := t
  exact xpure t rfl rfl (fun _ => rfl) (fun h s q => by cases q; rfl)
theorem s_iload_n {k : Fin 4} {x : Int32} (t : xt tab pc pc' (.iload_n k)) (e : zget ls k = some (.int x)) : XS nf xs d c ini nL rt tab G r h' (pc, ls, st, m, g) (pc', ls, .int x :: st, m, g) := by
  obtain ⟨t, rfl⟩ := t
  exact xpure t rfl rfl (fun _ => rfl) (fun h s q => by simp only [zstep, zstI, zstL, e] at q; cases q; rfl)
theorem s_iload {k : Nat} {x : Int32} (t : xt tab pc pc' (.iload k)) (e : zget ls k = some (.int x)) : XS nf xs d c ini nL rt tab G r h' (pc, ls, st, m, g) (pc', ls, .int x :: st, m, g) := by
  obtain ⟨t, rfl⟩ := t
  exact xpure t rfl rfl (fun _ => rfl) (fun h s q => by simp only [zstep, zstI, zstL, e] at q; cases q; rfl)
theorem s_lload_n {k : Fin 4} {x : Int64} (t : xt tab pc pc' (.lload_n k)) (e : zget ls k = some (.long x)) : XS nf xs d c ini nL rt tab G r h' (pc, ls, st, m, g) (pc', ls, .long x :: st, m, g) := by
  obtain ⟨t, rfl⟩ := t
  exact xpure t rfl rfl (fun _ => rfl) (fun h s q => by simp only [zstep, zstI, zstL, e] at q; cases q; rfl)
theorem s_aload_n {k : Fin 4} {x : Nat} (t : xt tab pc pc' (.aload_n k)) (e : zget ls k = some (.ref x)) : XS nf xs d c ini nL rt tab G r h' (pc, ls, st, m, g) (pc', ls, .ref x :: st, m, g) := by
  obtain ⟨t, rfl⟩ := t
  exact xpure t rfl rfl (fun _ => rfl) (fun h s q => by simp only [zstep, zstI, zstL, e] at q; cases q; rfl)
theorem s_aload {k : Nat} {x : Nat} (t : xt tab pc pc' (.aload k)) (e : zget ls k = some (.ref x)) : XS nf xs d c ini nL rt tab G r h' (pc, ls, st, m, g) (pc', ls, .ref x :: st, m, g) := by
  obtain ⟨t, rfl⟩ := t
  exact xpure t rfl rfl (fun _ => rfl) (fun h s q => by simp only [zstep, zstI, zstL, e] at q; cases q; rfl)
theorem s_aloadX_n {k : Fin 4} {x : Nat} (t : xt tab pc pc' (.aload_n k)) (e : zget ls k = some (.retAddr x)) : XS nf xs d c ini nL rt tab G r h' (pc, ls, st, m, g) (pc', ls, .retAddr x :: st, m, g) := by
  obtain ⟨t, rfl⟩ := t
  exact xpure t rfl rfl (fun _ => rfl) (fun h s q => by simp only [zstep, zstI, zstL, e] at q; cases q; rfl)
theorem s_istore_n {k : Fin 4} {x : Int32} (t : xt tab pc pc' (.istore_n k)) (e : zset1 ls k (.int x) = ls') : XS nf xs d c ini nL rt tab G r h' (pc, ls, .int x :: st, m, g) (pc', ls', st, m, g) := by
  obtain ⟨t, rfl⟩ := t
  exact xpure t rfl rfl (fun _ => rfl) (fun h s q => by
    simp only [zstep, zstI, zstL, e] at q
    split at q
    · next q2 => split at q2 <;> cases q2; cases q; rfl
    · next q2 => split at q2 <;> cases q2; cases q)
theorem s_istore {k : Nat} {x : Int32} (t : xt tab pc pc' (.istore k)) (e : zset1 ls k (.int x) = ls') : XS nf xs d c ini nL rt tab G r h' (pc, ls, .int x :: st, m, g) (pc', ls', st, m, g) := by
  obtain ⟨t, rfl⟩ := t
  exact xpure t rfl rfl (fun _ => rfl) (fun h s q => by
    simp only [zstep, zstI, zstL, e] at q
    split at q
    · next q2 => split at q2 <;> cases q2; cases q; rfl
    · next q2 => split at q2 <;> cases q2; cases q)
theorem s_astore_n {k : Fin 4} {x : Nat} (t : xt tab pc pc' (.astore_n k)) (e : zset1 ls k (.ref x) = ls') : XS nf xs d c ini nL rt tab G r h' (pc, ls, .ref x :: st, m, g) (pc', ls', st, m, g) := by
  obtain ⟨t, rfl⟩ := t
  exact xpure t rfl rfl (fun _ => rfl) (fun h s q => by
    simp only [zstep, zstI, zstL, e] at q
    split at q
    · next q2 => split at q2 <;> cases q2; cases q; rfl
    · next q2 => split at q2 <;> cases q2; cases q)
theorem s_iinc {k : Nat} {n : Int} {x : Int32} (t : xt tab pc pc' (.iinc k n)) (e : zget ls k = some (.int x)) (e2 : zset1 ls k (.int (x + Int32.ofInt n)) = ls') : XS nf xs d c ini nL rt tab G r h' (pc, ls, st, m, g) (pc', ls', st, m, g) := by
  obtain ⟨t, rfl⟩ := t
  exact xpure t rfl rfl (fun _ => rfl) (fun h s q => by
    simp only [zstep, zstI, zstL, e, e2] at q
    split at q
    · next q2 => split at q2 <;> cases q2; cases q; rfl
    · next q2 => split at q2 <;> cases q2; cases q)
theorem s_iadd {x y : Int32} (t : xt tab pc pc' .iadd) : XS nf xs d c ini nL rt tab G r h' (pc, ls, .int y :: .int x :: st, m, g) (pc', ls, .int (x + y) :: st, m, g) := by
  obtain ⟨t, rfl⟩ := t
  exact xpure t rfl rfl (fun _ => rfl) (fun h s q => by cases q; rfl)
theorem s_isub {x y : Int32} (t : xt tab pc pc' .isub) : XS nf xs d c ini nL rt tab G r h' (pc, ls, .int y :: .int x :: st, m, g) (pc', ls, .int (x - y) :: st, m, g) := by
  obtain ⟨t, rfl⟩ := t
  exact xpure t rfl rfl (fun _ => rfl) (fun h s q => by cases q; rfl)
theorem s_imul {x y : Int32} (t : xt tab pc pc' .imul) : XS nf xs d c ini nL rt tab G r h' (pc, ls, .int y :: .int x :: st, m, g) (pc', ls, .int (x * y) :: st, m, g) := by
  obtain ⟨t, rfl⟩ := t
  exact xpure t rfl rfl (fun _ => rfl) (fun h s q => by cases q; rfl)
theorem s_iand {x y : Int32} (t : xt tab pc pc' .iand) : XS nf xs d c ini nL rt tab G r h' (pc, ls, .int y :: .int x :: st, m, g) (pc', ls, .int (x &&& y) :: st, m, g) := by
  obtain ⟨t, rfl⟩ := t
  exact xpure t rfl rfl (fun _ => rfl) (fun h s q => by cases q; rfl)
theorem s_ior {x y : Int32} (t : xt tab pc pc' .ior) : XS nf xs d c ini nL rt tab G r h' (pc, ls, .int y :: .int x :: st, m, g) (pc', ls, .int (x ||| y) :: st, m, g) := by
  obtain ⟨t, rfl⟩ := t
  exact xpure t rfl rfl (fun _ => rfl) (fun h s q => by cases q; rfl)
theorem s_ishl {x y : Int32} (t : xt tab pc pc' .ishl) : XS nf xs d c ini nL rt tab G r h' (pc, ls, .int y :: .int x :: st, m, g) (pc', ls, .int (x <<< (y &&& 31)) :: st, m, g) := by
  obtain ⟨t, rfl⟩ := t
  exact xpure t rfl rfl (fun _ => rfl) (fun h s q => by cases q; rfl)
theorem s_ishr {x y : Int32} (t : xt tab pc pc' .ishr) : XS nf xs d c ini nL rt tab G r h' (pc, ls, .int y :: .int x :: st, m, g) (pc', ls, .int (x >>> (y &&& 31)) :: st, m, g) := by
  obtain ⟨t, rfl⟩ := t
  exact xpure t rfl rfl (fun _ => rfl) (fun h s q => by cases q; rfl)
theorem s_lshl {x : Int64} {y : Int32} (t : xt tab pc pc' .lshl) : XS nf xs d c ini nL rt tab G r h' (pc, ls, .int y :: .long x :: st, m, g) (pc', ls, .long (x <<< (y.toInt64 &&& 63)) :: st, m, g) := by
  obtain ⟨t, rfl⟩ := t
  exact xpure t rfl rfl (fun _ => rfl) (fun h s q => by cases q; rfl)
theorem s_lshr {x : Int64} {y : Int32} (t : xt tab pc pc' .lshr) : XS nf xs d c ini nL rt tab G r h' (pc, ls, .int y :: .long x :: st, m, g) (pc', ls, .long (x >>> (y.toInt64 &&& 63)) :: st, m, g) := by
  obtain ⟨t, rfl⟩ := t
  exact xpure t rfl rfl (fun _ => rfl) (fun h s q => by cases q; rfl)
theorem s_land {x y : Int64} (t : xt tab pc pc' .land) : XS nf xs d c ini nL rt tab G r h' (pc, ls, .long y :: .long x :: st, m, g) (pc', ls, .long (x &&& y) :: st, m, g) := by
  obtain ⟨t, rfl⟩ := t
  exact xpure t rfl rfl (fun _ => rfl) (fun h s q => by cases q; rfl)
theorem s_lor {x y : Int64} (t : xt tab pc pc' .lor) : XS nf xs d c ini nL rt tab G r h' (pc, ls, .long y :: .long x :: st, m, g) (pc', ls, .long (x ||| y) :: st, m, g) := by
  obtain ⟨t, rfl⟩ := t
  exact xpure t rfl rfl (fun _ => rfl) (fun h s q => by cases q; rfl)
theorem s_lcmp {x y : Int64} (t : xt tab pc pc' .lcmp) : XS nf xs d c ini nL rt tab G r h' (pc, ls, .long y :: .long x :: st, m, g) (pc', ls, .int (lg_cmp x y) :: st, m, g) := by
  obtain ⟨t, rfl⟩ := t
  exact xpure t rfl rfl (fun _ => rfl) (fun h s q => by cases q; rfl)
theorem s_dup {v : Value} (t : xt tab pc pc' .dup) (hv : v.category = 1) : XS nf xs d c ini nL rt tab G r h' (pc, ls, v :: st, m, g) (pc', ls, v :: v :: st, m, g) := by
  obtain ⟨t, rfl⟩ := t
  exact xpure t rfl rfl (fun _ => rfl) (fun h s q => by cases v <;> cases q <;> rfl)
theorem s_dup2 {x : Int32} {a : Nat} (t : xt tab pc pc' .dup2) : XS nf xs d c ini nL rt tab G r h' (pc, ls, .int x :: .ref a :: st, m, g) (pc', ls, .int x :: .ref a :: .int x :: .ref a :: st, m, g) := by
  obtain ⟨t, rfl⟩ := t
  exact xpure t rfl rfl (fun _ => rfl) (fun h s q => by cases q; rfl)
theorem s_pop {x : Int32} (t : xt tab pc pc' .pop) : XS nf xs d c ini nL rt tab G r h' (pc, ls, .int x :: st, m, g) (pc', ls, st, m, g) := by
  obtain ⟨t, rfl⟩ := t
  exact xpure t rfl rfl (fun _ => rfl) (fun h s q => by cases q; rfl)
theorem s_goto {q : Nat} {off : Int} (t : xtb tab pc pc' q (.goto off) off) : XS nf xs d c ini nL rt tab G r h' (pc, ls, st, m, g) (q, ls, st, m, g) := by
  obtain ⟨t, rfl, e⟩ := t
  exact xpure t rfl rfl (fun _ => rfl) (fun h s z => by
    have hz : zjump pc off ls st h = some (q, ls, st, h) := by
      unfold zjump
      rw [e, if_pos (by omega)]
      rfl
    simp only [zstep, zstI, hz] at z
    cases z
    rfl)
theorem s_ldc {j : Nat} {x : Int32} (t : xt tab pc pc' (.ldc j)) (e : zkonT c j = some (.int x)) : XS nf xs d c ini nL rt tab G r h' (pc, ls, st, m, g) (pc', ls, .int x :: st, m, g) := by
  obtain ⟨t, rfl⟩ := t
  exact xpure t rfl rfl (fun _ => rfl) (fun h s q => by
    have e' : zkon (zXt nf xs) c j = some (.int x) := e
    simp only [zstep, zstI, zstL, zstH, e'] at q
    cases q
    rfl)
theorem s_ldcX {j : Nat} {x : Nat} (t : xt tab pc pc' (.ldc j)) (e : zkonT c j = some (.retAddr x)) : XS nf xs d c ini nL rt tab G r h' (pc, ls, st, m, g) (pc', ls, .retAddr x :: st, m, g) := by
  obtain ⟨t, rfl⟩ := t
  exact xpure t rfl rfl (fun _ => rfl) (fun h s q => by
    have e' : zkon (zXt nf xs) c j = some (.retAddr x) := e
    simp only [zstep, zstI, zstL, zstH, e'] at q
    cases q
    rfl)
theorem s_getstatic {j : Nat} {v : Value} (t : xt tab pc pc' (.getstatic j)) (e : zstaT nf c j = some v) : XS nf xs d c ini nL rt tab G r h' (pc, ls, st, m, g) (pc', ls, v :: st, m, g) := by
  obtain ⟨t, rfl⟩ := t
  exact xpure t rfl rfl (fun _ => rfl) (fun h s q => by
    have e' : zsta (zXt nf xs) c j = some v := e
    simp only [zstep, zstI, zstL, zstH, e'] at q
    cases q
    rfl)
end XI
