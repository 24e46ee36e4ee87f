/-! Runs of methods on our machine. A table of calls: (own class, index) gives kind (0 Object.<init>, 1 virtual, 2 static, 3 a constructor, 4 a nest mate's, 5 .. 10 Math's max, min, abs of ints, of longs), method, how many arguments. -/
abbrev zI : Type := Nat → Nat → Option (Nat × Nat × Nat)
/-- methods: class, whether it is a constructor, locals, what it answers, its instructions -/
abbrev zM : Type := Nat → Option (Nat × Bool × Nat × Option FieldType × (Nat → Option (Instr × Nat)))
def zret (rt : Option FieldType) (i : Instr) (st : List Value) : Option (Option Value) :=
  match i with
  | .ireturn => match st, rt with
    | [.int v], some ty => if narrow ty (.int v) = .int v then some (some (.int v)) else none
    | _, _ => none
  | .lreturn => match st, rt with
    | [.long v], some .long => some (some (.long v))
    | _, _ => none
  | .areturn => match st, rt with
    | [.ref a], some (.object _) => some (some (.ref a))
    | _, _ => none
  | .return_ => match st, rt with
    | [], none => some none
    | _, _ => none
  | _ => none
def zw8 (r : List Value) : Bool := decide ((r.map fun v => v.category).sum ≤ 8)
def zobjI (I : zI) (c : Nat) (i : Instr) (st : List Value) : Option (List Value) :=
  match i with
  | .invokespecial j => match I c j, st with
    | some (0, _, _), .ref _ :: r => if zw8 r = true then some r else none
    | _, _ => none
  | .invokestatic j => match I c j, st with
    | some (5, _, _), .int y :: .int x :: r => if zw8 r = true then some (.int (if x < y then y else x) :: r) else none
    | some (6, _, _), .int y :: .int x :: r => if zw8 r = true then some (.int (if y < x then y else x) :: r) else none
    | some (7, _, _), .int x :: r => if zw8 r = true then some (.int (if 0 ≤ x then x else 0 - x) :: r) else none
    | some (8, _, _), .long y :: .long x :: r => if zw8 r = true then some (.long (if y < x then x else y) :: r) else none
    | some (9, _, _), .long y :: .long x :: r => if zw8 r = true then some (.long (if y < x then y else x) :: r) else none
    | some (10, _, _), .long x :: r => if zw8 r = true then some (.long (if 0 < x then x else -x) :: r) else none
    | _, _ => none
  | _ => none
def zcall (X : zX) (I : zI) (mcl : Nat → Nat) (c : Nat) (i : Instr) (st : List Value) (h : zH) : Option (Nat × List Value × List Value) :=
  match i with
  | .invokevirtual j => match I c j with
    | some (1, mi, n) => match st.drop n with
      | .ref b :: r => match h[b]? with
        | some (ci, .inr (.inr (.inr _))) => if ci = mcl mi ∧ n ≤ st.length ∧ zw8 r = true then some (mi, .ref b :: (st.take n).reverse, r) else none
        | _ => none
      | .retAddr b :: r => if zxcl X b = some (mcl mi) ∧ n ≤ st.length ∧ zw8 r = true then some (mi, .retAddr b :: (st.take n).reverse, r) else none
      | _ => none
    | _ => none
  | .invokestatic j => match I c j with
    | some (2, mi, n) => if n ≤ st.length ∧ zw8 (st.drop n) = true then some (mi, (st.take n).reverse, st.drop n) else none
    | _ => none
  | .invokespecial j => match I c j with
    | some (3, mi, n) => match st.drop n with
      | .ref b :: r => if n ≤ st.length ∧ zw8 r = true then some (mi, .ref b :: (st.take n).reverse, r) else none
      | _ => none
    | some (4, mi, n) => match st.drop n with
      | .ref b :: r => if n ≤ st.length ∧ zw8 r = true then some (mi, .ref b :: (st.take n).reverse, r) else none
      | _ => none
    | _ => none
  | _ => none
abbrev zC : Type := Nat → List Value → zH → Option Value → zH → Prop
def zRun (X : zX) (I : zI) (mcl : Nat → Nat) (C : zC) (c : Nat) (ini : Bool) (nL : Nat) (rt : Option FieldType) (tab : Nat → Option (Instr × Nat)) : Nat → Nat → zL → List Value → zH → Option Value → zH → Prop
  | 0 => fun _ _ _ _ _ _ => False
  | n + 1 => fun pc ls st h r h' => ∃ (i : Instr) (len : Nat), tab pc = some (i, len) ∧
      ((zret rt i st = some r ∧ h' = h) ∨
       (∃ (pc1 : Nat) (ls1 : zL) (st1 : List Value) (h1 : zH), zstep X nL ini c i pc ls st h = some (pc1, ls1, st1, h1) ∧ zRun X I mcl C c ini nL rt tab n pc1 ls1 st1 h1 r h') ∨
       (∃ rest : List Value, zobjI I c i st = some rest ∧ zRun X I mcl C c ini nL rt tab n (pc + 3) ls rest h r h') ∨
       (∃ (mi : Nat) (as rest : List Value) (r1 : Option Value) (h1 : zH), zcall X I mcl c i st h = some (mi, as, rest) ∧ C mi as h r1 h1 ∧ zRun X I mcl C c ini nL rt tab n (pc + 3) ls (r1.toList ++ rest) h1 r h'))
/-- d: how deep calls go at most -/
def zEv (X : zX) (I : zI) (mcl : Nat → Nat) (mt : zM) : Nat → zC
  | 0 => fun _ _ _ _ _ => False
  | d + 1 => fun mi as h r h' => ∃ (c : Nat) (ini : Bool) (nL : Nat) (rt : Option FieldType) (tab : Nat → Option (Instr × Nat)) (n : Nat), mt mi = some (c, ini, nL, rt, tab) ∧ (lg_sl as).length ≤ nL ∧ zRun X I mcl (zEv X I mcl mt d) c ini nL rt tab n 0 (lv_args 0 as) [] h r h'
/-- cells don't go -/
def zLe (h h' : zH) : Prop := h.length ≤ h'.length ∧ zsl h ≤ zsl h'
theorem zLe.rf {h : zH} : zLe h h := ⟨Nat.le_refl _, Nat.le_refl _⟩
theorem zLe.trans {a b c : zH} (h1 : zLe a b) (h2 : zLe b c) : zLe a c := ⟨Nat.le_trans h1.1 h2.1, Nat.le_trans h1.2 h2.2⟩
theorem zLe.push {h : zH} {e : zE} : zLe h (h ++ [e]) := ⟨by simp, by rw [zsl_push]; omega⟩
theorem zLe.set {h : zH} {a : Nat} {e e' : zE} (ha : h[a]? = some e) (hz : zsz e' = zsz e) : zLe h (h.set a e') := ⟨by simp, by rw [zsl_set ha hz]; omega⟩
theorem zbr_h {b : Bool} {pc : Nat} {off : Int} {ls : zL} {st : List Value} {h : zH} {pc' : Nat} {ls' : zL} {st' : List Value} {h' : zH} (e : zbr b pc off ls st h = some (pc', ls', st', h')) : h' = h := by
  obtain ⟨_, _, _, _, q, _⟩ := zbr_of e
  exact q
set_option maxHeartbeats 4000000 in
theorem zstI_h {X : zX} {i : Instr} {pc : Nat} {ls : zL} {st : List Value} {h : zH} {pc' : Nat} {ls' : zL} {st' : List Value} {h' : zH} (hs : zstI X i pc ls st h = some (pc', ls', st', h')) : h' = h := by
  unfold zstI at hs
  split at hs
  all_goals (try (exact (zjump_of hs).2.2.2))
  all_goals (try (split at hs))
  all_goals (try (split at hs))
  all_goals (try (exact (zjump_of hs).2.2.2))
  all_goals (try (split at hs))
  all_goals (try (exact (zjump_of hs).2.2.2))
  all_goals (try (exact zbr_h hs))
  all_goals (first | (cases hs; rfl) | cases hs)
set_option maxHeartbeats 4000000 in
theorem zstL_h {nL : Nat} {i : Instr} {pc : Nat} {ls : zL} {st : List Value} {h : zH} {pc' : Nat} {ls' : zL} {st' : List Value} {h' : zH} (hs : zstL nL i pc ls st h = some (pc', ls', st', h')) : h' = h := by
  unfold zstL at hs
  split at hs
  all_goals (try (split at hs))
  all_goals (try (split at hs))
  all_goals (first | (cases hs; rfl) | cases hs)
set_option maxHeartbeats 8000000 in
theorem zstH_h {X : zX} {ini : Bool} {c : Nat} {i : Instr} {pc : Nat} {ls : zL} {st : List Value} {h : zH} {pc' : Nat} {ls' : zL} {st' : List Value} {h' : zH} (hs : zstH X ini c i pc ls st h = some (pc', ls', st', h')) : zLe h h' := by
  unfold zstH at hs
  split at hs
  all_goals (try (split at hs))
  all_goals (try (split at hs))
  all_goals (try (split at hs))
  all_goals (try (split at hs))
  all_goals (first | (cases hs; exact zLe.rf) | (cases hs; exact zLe.push) | (cases hs; exact zLe.set (by assumption) (by simp [zsz])) | cases hs)
theorem zstep_h {X : zX} {nL : Nat} {ini : Bool} {c : Nat} {i : Instr} {pc : Nat} {ls : zL} {st : List Value} {h : zH} {pc' : Nat} {ls' : zL} {st' : List Value} {h' : zH} (hs : zstep X nL ini c i pc ls st h = some (pc', ls', st', h')) : zLe h h' := by
  unfold zstep at hs
  split at hs
  · next q =>
    cases hs
    rw [zstI_h q]
    exact zLe.rf
  · split at hs
    · next q =>
      cases hs
      rw [zstL_h q]
      exact zLe.rf
    · exact zstH_h hs
theorem zRun_h {X : zX} {I : zI} {mcl : Nat → Nat} {C : zC} {c : Nat} {ini : Bool} {nL : Nat} {rt : Option FieldType} {tab : Nat → Option (Instr × Nat)} (hC : ∀ mi as h r h', C mi as h r h' → zLe h h') : ∀ (n pc : Nat) (ls : zL) (st : List Value) (h : zH) (r : Option Value) (h' : zH), zRun X I mcl C c ini nL rt tab n pc ls st h r h' → zLe h h' := by
  intro n
  induction n with
  | zero => intro pc ls st h r h' q; exact q.elim
  | succ n ih =>
    intro pc ls st h r h' q
    obtain ⟨i, len, -, q⟩ := q
    rcases q with ⟨-, rfl⟩ | ⟨pc1, ls1, st1, h1, q1, q2⟩ | ⟨rest, -, q2⟩ | ⟨mi, as, rest, r1, h1, -, q1, q2⟩
    · exact zLe.rf
    · exact (zstep_h q1).trans (ih _ _ _ _ _ _ q2)
    · exact ih _ _ _ _ _ _ q2
    · exact (hC _ _ _ _ _ q1).trans (ih _ _ _ _ _ _ q2)
theorem zEv_h {X : zX} {I : zI} {mcl : Nat → Nat} {mt : zM} : ∀ (d mi : Nat) (as : List Value) (h : zH) (r : Option Value) (h' : zH), zEv X I mcl mt d mi as h r h' → zLe h h' := by
  intro d
  induction d with
  | zero => intro mi as h r h' q; exact q.elim
  | succ d ih =>
    intro mi as h r h' q
    obtain ⟨c, ini, nL, rt, tab, n, -, -, q⟩ := q
    exact zRun_h ih _ _ _ _ _ _ _ q
