/-! The Java machine follows our runs: a method's contract out of its run. -/
theorem zargs_cl {B : Nat} {xa : Nat → Nat} : ∀ (as : List Value) (i : Nat), lv_args i (as.map (zcv B xa)) = zcl B xa (lv_args i as)
  | [], _ => rfl
  | v :: as, i => by
    show (i, zcv B xa v) :: lv_args (if (zcv B xa v).category = 2 then i + 2 else i + 1) (as.map (zcv B xa)) = (i, zcv B xa v) :: zcl B xa (lv_args (if v.category = 2 then i + 2 else i + 1) as)
    rw [zcv_cat, zargs_cl as]
theorem zsl_len {B : Nat} {xa : Nat → Nat} : ∀ (as : List Value), (lg_sl (as.map (zcv B xa))).length = (lg_sl as).length
  | [] => rfl
  | v :: as => by
    have ih := zsl_len (B := B) (xa := xa) as
    simp only [lg_sl, List.map_cons, List.flatMap_cons, List.length_append, zcv_cat] at ih ⊢
    rw [ih]
    split <;> rfl
theorem zw8_map {B : Nat} {xa : Nat → Nat} {r : List Value} (h : zw8 r = true) : ((r.map (zcv B xa)).map fun v => v.category).sum ≤ 8 := by
  have h1 := of_decide_eq_true h
  rw [List.map_map]
  have : ((fun v : Value => v.category) ∘ zcv B xa) = fun v => v.category := by funext v; exact zcv_cat B xa v
  rw [this]
  exact h1
def zws (Ts : List Cond) (y : Nat → MethodName × ByteArray) (mi nL : Nat) (rt : Option FieldType) : List Cond := Cond.code (y mi).1 (y mi).2 nL rt :: Ts
def zrm (d mc ms : Nat) : Room := { frames := d, cells := mc, slots := ms, locals := d * 64 }
/-- what the words say of methods and calls -/
def zCal (Ts : List Cond) (I : zI) (y : Nat → MethodName × ByteArray) (own : Nat → String) (mcl : Nat → Nat) (mt : zM) (cl : List vw_C) : Prop :=
  (∀ (mi c : Nat) (ini : Bool) (nL : Nat) (rt : Option FieldType) (tab : Nat → Option (Instr × Nat)), mt mi = some (c, ini, nL, rt, tab) → Cond.code (y mi).1 (y mi).2 nL rt ∈ Ts ∧ (y mi).1.cls = own c ∧ mcl mi = c ∧ plainName (y mi).1.cls = true ∧ (nL ≤ 45 ∧ c < 1000) ∧ (ini = true → (y mi).1.name = "<init>") ∧ ∀ (pc : Nat) (i : Instr) (len : Nat), tab pc = some (i, len) → decode (y mi).2 pc = .ok (i, len) ∧ zlok i len = true) ∧
  (∀ w ∈ Ts, (w.onTables && w.keeps) = true ∨ ∃ ty, w = .arrayClass ty) ∧
  (∀ (ci : Nat) (q : vw_C), cl[ci]? = some q → q.1 = own ci) ∧
  (∀ (c j kd mi n : Nat), I c j = some (kd, mi, n) →
    (kd = 0 → Cond.methodLink (own c) j Lib.objectInit ∈ Ts ∧ Cond.instanceMethod Lib.objectInit ∈ Ts ∧ Cond.code Lib.objectInit ⟨#[0xb1]⟩ 1 none ∈ Ts) ∧
    (0 < kd ∧ kd < 5 → (y mi).1.cls ≠ "java/lang/invoke/MethodHandle" ∧ (y mi).1.cls ≠ "java/lang/invoke/VarHandle" ∧ (parseMethodDescriptor (y mi).1.desc).map (fun d => d.parameters.length) = some n ∧ Cond.initialized (y mi).1.cls ∈ Ts) ∧
    (kd = 1 → Cond.methodLink (own c) j (y mi).1 ∈ Ts ∧ Cond.instanceMethod (y mi).1 ∈ Ts ∧ Cond.selects (y mi).1.cls (y mi).1 (y mi).1 ∈ Ts) ∧
    (kd = 2 → Cond.methodLink (own c) j (y mi).1 ∈ Ts ∧ Cond.static (y mi).1 ∈ Ts) ∧
    (kd = 3 → Cond.methodLink (own c) j (y mi).1 ∈ Ts ∧ Cond.instanceMethod (y mi).1 ∈ Ts ∧ (y mi).1.name = "<init>" ∧ ∀ (c : Nat) (ini : Bool) (nL : Nat) (rt : Option FieldType) (tab : Nat → Option (Instr × Nat)), mt mi = some (c, ini, nL, rt, tab) → rt = none) ∧
    (kd = 4 → Cond.instanceMethod (y mi).1 ∈ Ts ∧ (y mi).1.name = "<init>" ∧ ∀ (c : Nat) (ini : Bool) (nL : Nat) (rt : Option FieldType) (tab : Nat → Option (Instr × Nat)), mt mi = some (c, ini, nL, rt, tab) → rt = none))
/-- what the words say of Math's methods -/
def zMath (Ts : List Cond) (I : zI) (own : Nat → String) : Prop :=
  ∀ (c j kd mi n : Nat), I c j = some (kd, mi, n) →
    (kd = 5 → Cond.methodLink (own c) j Lib.Math.max.name ∈ Ts ∧ Cond.static Lib.Math.max.name ∈ Ts ∧ Cond.initialized "java/lang/Math" ∈ Ts ∧ Cond.code Lib.Math.max.name Lib.Math.max.code 2 (some .int) ∈ Ts) ∧
    (kd = 6 → Cond.methodLink (own c) j Lib.Math.min.name ∈ Ts ∧ Cond.static Lib.Math.min.name ∈ Ts ∧ Cond.initialized "java/lang/Math" ∈ Ts ∧ Cond.code Lib.Math.min.name Lib.Math.min.code 2 (some .int) ∈ Ts) ∧
    (kd = 7 → Cond.methodLink (own c) j Lib.Math.abs.name ∈ Ts ∧ Cond.static Lib.Math.abs.name ∈ Ts ∧ Cond.initialized "java/lang/Math" ∈ Ts ∧ Cond.code Lib.Math.abs.name Lib.Math.abs.code 1 (some .int) ∈ Ts) ∧
    (kd = 8 → Cond.methodLink (own c) j Lib.MathLoose.max_long.x ∈ Ts ∧ Cond.static Lib.MathLoose.max_long.x ∈ Ts ∧ Cond.initialized "java/lang/Math" ∈ Ts ∧ Cond.code Lib.MathLoose.max_long.x Lib.MathLoose.max_long.code 4 (some .long) ∈ Ts) ∧
    (kd = 9 → Cond.methodLink (own c) j Lib.MathLoose.min_long.x ∈ Ts ∧ Cond.static Lib.MathLoose.min_long.x ∈ Ts ∧ Cond.initialized "java/lang/Math" ∈ Ts ∧ Cond.code Lib.MathLoose.min_long.x Lib.MathLoose.min_long.code 4 (some .long) ∈ Ts) ∧
    (kd = 10 → Cond.methodLink (own c) j Lib.MathLoose.abs_long.x ∈ Ts ∧ Cond.static Lib.MathLoose.abs_long.x ∈ Ts ∧ Cond.initialized "java/lang/Math" ∈ Ts ∧ Cond.code Lib.MathLoose.abs_long.x Lib.MathLoose.abs_long.code 2 (some .long) ∈ Ts)
/-- what a state says of nest mates' constructors -/
def zGN (I : zI) (y : Nat → MethodName × ByteArray) (own : Nat → String) (s : State) : Prop :=
  ∀ (c j mi n : Nat), I c j = some (4, mi, n) → ∃ host : String, va_Nw (.methodLinkNest (own c) j (y mi).1 host) s
theorem zGS.moved {Ts : List Cond} {B : Nat} {xa : Nat → Nat} {ca : Nat → ClassId} {D : va_G} {cl : List vw_C} {P : String} {X : zX} {own : Nat → String} {s U : State} (hW : s.WarmedH U.vm) (hq : ∀ q : Nat, q < s.heap.size → ¬ zA B q → U.heap[q]? = s.heap[q]?) (h : zGS Ts B xa ca D cl P X own s) : zGS Ts B xa ca D cl P X own U := by
  obtain ⟨h1, h2, h3, h4, h5, h6, h7⟩ := h
  refine ⟨va_K.moved hW.alike h1, h2.moved hW.alike, fun c j e q => ?_, fun c j v q => ?_, fun c j e v q => ?_, fun e b l q => ?_, fun e c q => ?_⟩
  · obtain ⟨tx, g⟩ := h3 c j e q
    exact ⟨tx, g.warm hW⟩
  · obtain ⟨C, n, d, g, w⟩ := h4 c j v q
    exact ⟨C, n, d, (g.kept hq).moved hW.alike, w⟩
  · obtain ⟨o, n, d, g, w⟩ := h5 c j e v q
    exact ⟨o, n, d, (g.kept hq).moved hW.alike, w⟩
  · exact ((h6 e b l q).kept hq).moved hW.alike
  · exact ((h7 e c q).kept hq).moved hW.alike
theorem zGN.moved {I : zI} {y : Nat → MethodName × ByteArray} {own : Nat → String} {s U : State} (hW : s.WarmedH U.vm) (h : zGN I y own s) : zGN I y own U := fun c j mi n q => by
  obtain ⟨host, g⟩ := h c j mi n q
  exact ⟨host, g.warmM hW⟩
def zPc (Ts : List Cond) (B : Nat) (xa : Nat → Nat) (ca : Nat → ClassId) (D : va_G) (cl : List vw_C) (P : String) (X : zX) (own : Nat → String) (I : zI) (y : Nat → MethodName × ByteArray) (as : List Value) (h : zH) : Array Value → State → Prop := fun a U =>
  a = (as.map (zcv B xa)).toArray ∧ zHR B xa ca D cl h U.heap ∧ zGS Ts B xa ca D cl P X own U ∧ zGN I y own U
def zQc (B : Nat) (xa : Nat → Nat) (ca : Nat → ClassId) (D : va_G) (cl : List vw_C) (r : Option Value) (h : zH) : Array Value → State → Outcome → State → Prop := fun _ st oc t =>
  oc = .returned (r.map (zcv B xa)) ∧ zHR B xa ca D cl h t.heap ∧ va_F (zA B) st t
theorem zPc_blind {Ts : List Cond} {B : Nat} {xa : Nat → Nat} {ca : Nat → ClassId} {D : va_G} {cl : List vw_C} {P : String} {X : zX} {own : Nat → String} {I : zI} {y : Nat → MethodName × ByteArray} {as : List Value} {h : zH} : FrameBlind (zPc Ts B xa ca D cl P X own I y as h) := by
  intro a U g mk q
  obtain ⟨q1, q2, q3, q4⟩ := q
  exact ⟨q1, q2, zGS.moved (s := U) (U := U.calling g mk a) (State.WarmedH.refl U) (fun _ _ _ => rfl) q3, zGN.moved (s := U) (U := U.calling g mk a) (State.WarmedH.refl U) q4⟩
section ZS
variable {p : Program} {l : Launch} {e : Env} {R : Room} {s : State} {m : MethodId} {args : Array Value} {below : List Frame} {meth : Method} {c : Code} {H : Heap} {locs : List Loc} {Q : State → Prop}
variable {cc : ByteArray} {B : Nat} {xa : Nat → Nat} {ca : Nat → ClassId} {D : va_G} {cl : List vw_C}
theorem zcall_W {cells slots mc ms pc : Nat} {LS : Array Slot} {st0 rest : List Value} {a : Array Value} {r : Option Value} {h1 : zH} (hr : va_Run p l e R s m args below meth c H locs cells slots mc ms (F0 m pc LS st0) rest (zQc B xa ca D cl r h1 a) (zA B)) (hS : va_S (zA B) s.heap H locs)
    (kk : ∀ (H1 : Heap) (locs1 : List Loc), zHR B xa ca D cl h1 H1 → va_S (zA B) s.heap H1 locs1 → W p l e R s m args below meth c H1 locs1 (cells + mc) (slots + ms) Q (F0 m (pc + 3) LS ((r.map (zcv B xa)).toList ++ rest))) : W p l e R s m args below meth c H locs cells slots Q (F0 m pc LS st0) := by
  intro T hT X
  obtain ⟨v, st₀, t, T', L, h0, X', hL, e1, e2, ⟨hv, hR1, hz, hk⟩, st⟩ := hr T hT X
  cases hv
  rw [h0] at hz hk
  obtain ⟨t2, a1, b1⟩ := kk T'.heap (locs ++ L) (by rw [e1]; exact hR1) ⟨Nat.le_trans hS.1 (by rw [e1]; exact hz), fun q g1 g2 => by rw [e1, hk q (Nat.lt_of_lt_of_le g1 hS.1) g2]; exact hS.2.1 q g1 g2, fun q hq => by
      rcases List.mem_append.mp hq with h | h
      · exact hS.2.2 q h
      · exact hL q h⟩ T' rfl X'
  exact ⟨t2, st t2 a1, b1⟩
theorem zstep_ok {Ts : List Cond} {P : String} {X : zX} {own : Nat → String} {ini : Bool} {c0 cells slots nL : Nat} {i : Instr} {len pc : Nat} {ls : zL} {st : List Value} {h : zH} {pc' : Nat} {ls' : zL} {st' : List Value} {h' : zH} {LS : Array Slot} (hx : p.tables.exec = Jvm.exec) (hb : c.code = cc) (hd : decode cc pc = .ok (i, len)) (hlen : zlok i len = true)
    (hts : ∀ w ∈ Ts, w.before args s = true) (hown : s.vm.findClass (own c0) = some m.cls) (hT : zTab Ts cl P X c0 (own c0)) (hG : zGS Ts B xa ca D cl P X own s) (hini : ini = true → meth.name = "<init>") (hR : zHR B xa ca D cl h H) (hS : va_S (zA B) s.heap H locs) (hB : B ≤ s.heap.size) (hl : lv_has LS nL (zcl B xa ls))
    (hroom : cells + (h'.length - h.length) ≤ R.cells ∧ slots + (zsl h' - zsl h) ≤ R.slots) (hs : zstep X nL ini c0 i pc ls st h = some (pc', ls', st', h'))
    (k : ∀ (H' : Heap) (locs' : List Loc) (LS' : Array Slot), zHR B xa ca D cl h' H' → va_S (zA B) s.heap H' locs' → lv_has LS' nL (zcl B xa ls') → W p l e R s m args below meth c H' locs' (cells + (h'.length - h.length)) (slots + (zsl h' - zsl h)) Q (F0 m pc' LS' (st'.map (zcv B xa)))) : W p l e R s m args below meth c H locs cells slots Q (F0 m pc LS (st.map (zcv B xa))) := by
  unfold zstep at hs
  split at hs
  · next q =>
    cases hs
    have e1 := zstI_h q
    subst e1
    have e2 : ls' = ls := (zstI_ok (p := p) (l := l) (e := e) (R := R) (s := s) (m := m) (args := args) (below := below) (meth := meth) (c := c) (H := H) (locs := locs) (cells := 0) (slots := 0) (Q := fun _ => True) (B := B) (xa := xa) (LS := LS) hx hb hd hlen q (fun T _ _ => ⟨_, Steps.refl _, trivial⟩)).2.1
    subst e2
    rw [Nat.sub_self, Nat.sub_self, Nat.add_zero, Nat.add_zero] at k
    exact (zstI_ok hx hb hd hlen q (k H locs LS hR hS hl)).1
  · split at hs
    · next q =>
      cases hs
      have e1 := zstL_h q
      subst e1
      rw [Nat.sub_self, Nat.sub_self, Nat.add_zero, Nat.add_zero] at k
      exact (zstL_ok hx hb hd hlen hl q (fun LS' h2 => k H locs LS' hR hS h2)).1
    · have e2 : ls' = ls := by
        unfold zstH at hs
        split at hs
        all_goals (try (split at hs))
        all_goals (try (split at hs))
        all_goals (try (split at hs))
        all_goals (try (split at hs))
        all_goals (first | (cases hs; rfl) | cases hs)
      subst e2
      exact (zstH_ok hx hb hd hlen hts hown hT hG hini hR hS hB hroom hs (fun H' locs' g1 g2 => k H' locs' LS g1 g2 hl)).1
end ZS
