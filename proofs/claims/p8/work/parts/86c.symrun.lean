/-! Symbols: rules for what looks at them; runs. An int symbol has an interval; a branch goes both ways, with the intervals cut. -/
abbrev yE : Type := List (Int × Int) × Nat
abbrev yS : Type := yE × Nat × zL × List Value × zH
def yG (E : yE) (ρ : yR) : Prop := ρ.1.length = E.1.length ∧ ρ.2.1.length = E.2 ∧ ∀ (k : Nat) (q : Int × Int) (x : Int32), E.1[k]? = some q → ρ.1[k]? = some x → q.1 ≤ x.toInt ∧ x.toInt ≤ q.2
def yiv (E : yE) (v : Value) : Option (Int × Int) := match v with
  | .int x => some (x.toInt, x.toInt)
  | .float k => E.1[k.toNat]?
  | _ => none
theorem yiv_ok {E : yE} {ρ : yR} {v w : Value} {q : Int × Int} (hG : yG E ρ) (h : yiv E v = some q) (hv : yv ρ v w) : ∃ x : Int32, w = .int x ∧ q.1 ≤ x.toInt ∧ x.toInt ≤ q.2 := by
  cases v with
  | int x =>
    cases h
    exact ⟨x, hv, Int.le_refl _, Int.le_refl _⟩
  | float k =>
    obtain ⟨x, h1, h2⟩ := hv
    exact ⟨x, h2, hG.2.2 _ _ _ h h1⟩
  | _ => cases h
def ycut (E : yE) (v : Value) (q : Int × Int) : Option yE := match yiv E v with
  | none => none
  | some p => if max p.1 q.1 ≤ min p.2 q.2 then (match v with
    | .float k => some (E.1.set k.toNat (max p.1 q.1, min p.2 q.2), E.2)
    | _ => some E) else none
theorem yG_set {E : yE} {ρ : yR} {k : Nat} {q : Int × Int} {x : Int32} (hG : yG E ρ) (hx : ρ.1[k]? = some x) (hq : q.1 ≤ x.toInt ∧ x.toInt ≤ q.2) : yG (E.1.set k q, E.2) ρ := by
  refine ⟨by rw [hG.1, List.length_set], hG.2.1, fun j p z hj hz => ?_⟩
  by_cases e : j = k
  · subst e
    rw [hx] at hz
    cases hz
    have hj' : (E.1.set j q)[j]? = some p := hj
    rw [List.getElem?_set] at hj'
    simp only [if_true] at hj'
    split at hj'
    · cases hj'
      exact hq
    · cases hj'
  · have hj' : (E.1.set k q)[j]? = some p := hj
    rw [List.getElem?_set_ne (Ne.symm e)] at hj'
    exact hG.2.2 _ _ _ hj' hz
theorem ycut_ok {E : yE} {ρ : yR} {v : Value} {x : Int32} {p q : Int × Int} (hG : yG E ρ) (hp : yiv E v = some p) (hv : yv ρ v (.int x)) (hq : q.1 ≤ x.toInt ∧ x.toInt ≤ q.2) : ∃ E' : yE, ycut E v q = some E' ∧ yG E' ρ := by
  obtain ⟨z, e, h1, h2⟩ := yiv_ok hG hp hv
  cases e
  unfold ycut
  rw [hp]
  dsimp only
  rw [if_pos (by omega)]
  cases v with
  | float k =>
    obtain ⟨z, h3, h4⟩ := hv
    cases h4
    exact ⟨_, rfl, yG_set hG h3 ⟨by show max p.1 q.1 ≤ _; omega, by show _ ≤ min p.2 q.2; omega⟩⟩
  | _ => exact ⟨_, rfl, hG⟩
theorem yiv_cut {E E' : yE} {v w : Value} {q : Int × Int} (h : ycut E v q = some E') (hw : (yiv E w).isSome = true) : (yiv E' w).isSome = true := by
  unfold ycut at h
  split at h
  · cases h
  · split at h
    · split at h
      · cases h
        cases w with
        | float k =>
          simp only [yiv, Option.isSome_iff_exists] at hw ⊢
          obtain ⟨a, ha⟩ := hw
          have hl := (List.getElem?_eq_some_iff.mp ha).1
          exact ⟨_, List.getElem?_eq_getElem (by rw [List.length_set]; exact hl)⟩
        | _ => exact hw
      · cases h
        exact hw
    · cases h
/-- x c y, y in q: x lies in this one -/
def yrg (c : Jvm.ClassFile.Cond) (q : Int × Int) : Int × Int := match c with
  | .eq => q
  | .ne => (-2147483648, 2147483647)
  | .lt => (-2147483648, q.2 - 1)
  | .le => (-2147483648, q.2)
  | .gt => (q.1 + 1, 2147483647)
  | .ge => (q.1, 2147483647)
def yflip : Jvm.ClassFile.Cond → Jvm.ClassFile.Cond
  | .eq => .eq
  | .ne => .ne
  | .lt => .gt
  | .gt => .lt
  | .le => .ge
  | .ge => .le
def yneg : Jvm.ClassFile.Cond → Jvm.ClassFile.Cond
  | .eq => .ne
  | .ne => .eq
  | .lt => .ge
  | .ge => .lt
  | .gt => .le
  | .le => .gt
theorem yb (x : Int32) : -2147483648 ≤ x.toInt ∧ x.toInt ≤ 2147483647 := by
  have h1 := Int32.le_toInt x
  have h2 := Int32.toInt_lt x
  omega
theorem yrg_ok {c : Jvm.ClassFile.Cond} {x y : Int32} {q : Int × Int} (h : zicmp c x y = true) (hy : q.1 ≤ y.toInt ∧ y.toInt ≤ q.2) : (yrg c q).1 ≤ x.toInt ∧ x.toInt ≤ (yrg c q).2 := by
  have hb := yb x
  cases c with
  | eq =>
    have h1 : x = y := of_decide_eq_true h
    subst h1
    exact hy
  | ne => exact hb
  | lt =>
    have h1 : x < y := of_decide_eq_true h
    have h2 := Int32.lt_iff_toInt_lt.mp h1
    exact ⟨hb.1, by show _ ≤ q.2 - 1; omega⟩
  | le =>
    have h1 : x ≤ y := of_decide_eq_true h
    have h2 := Int32.le_iff_toInt_le.mp h1
    exact ⟨hb.1, by show _ ≤ q.2; omega⟩
  | gt =>
    have h1 : y < x := of_decide_eq_true h
    have h2 := Int32.lt_iff_toInt_lt.mp h1
    exact ⟨by show q.1 + 1 ≤ _; omega, hb.2⟩
  | ge =>
    have h1 : y ≤ x := of_decide_eq_true h
    have h2 := Int32.le_iff_toInt_le.mp h1
    exact ⟨by show q.1 ≤ _; omega, hb.2⟩
theorem yflip_ok {c : Jvm.ClassFile.Cond} {x y : Int32} (h : zicmp c x y = true) : zicmp (yflip c) y x = true := by
  cases c with
  | eq => exact decide_eq_true (of_decide_eq_true h : x = y).symm
  | ne =>
    have h1 : (!decide (x = y)) = true := h
    show (!decide (y = x)) = true
    simp only [Bool.not_eq_true', decide_eq_false_iff_not] at h1 ⊢
    exact fun e => h1 e.symm
  | _ => exact h
theorem yneg_ok {c : Jvm.ClassFile.Cond} {x y : Int32} (h : zicmp c x y = false) : zicmp (yneg c) x y = true := by
  cases c with
  | eq =>
    show (!decide (x = y)) = true
    rw [show decide (x = y) = false from h]
    rfl
  | ne =>
    have h1 : (!decide (x = y)) = false := h
    show decide (x = y) = true
    simpa using h1
  | lt =>
    have h1 : ¬ x < y := of_decide_eq_false h
    show decide (y ≤ x) = true
    exact decide_eq_true (Int32.le_iff_toInt_le.mpr (by have := mt Int32.lt_iff_toInt_lt.mpr h1; omega))
  | ge =>
    have h1 : ¬ y ≤ x := of_decide_eq_false h
    show decide (x < y) = true
    exact decide_eq_true (Int32.lt_iff_toInt_lt.mpr (by have := mt Int32.le_iff_toInt_le.mpr h1; omega))
  | gt =>
    have h1 : ¬ y < x := of_decide_eq_false h
    show decide (x ≤ y) = true
    exact decide_eq_true (Int32.le_iff_toInt_le.mpr (by have := mt Int32.lt_iff_toInt_lt.mpr h1; omega))
  | le =>
    have h1 : ¬ x ≤ y := of_decide_eq_false h
    show decide (y < x) = true
    exact decide_eq_true (Int32.lt_iff_toInt_lt.mpr (by have := mt Int32.le_iff_toInt_le.mpr h1; omega))
def ybr1 (E : yE) (a b : Value) (c : Jvm.ClassFile.Cond) : List yE := match yiv E a with
  | none => []
  | some p => match yiv E b with
    | none => []
    | some q => match ycut E a (yrg c q) with
      | none => []
      | some E1 => match ycut E1 b (yrg (yflip c) p) with
        | none => []
        | some E2 => [E2]
theorem ybr1_ok {E : yE} {ρ : yR} {a b : Value} {c : Jvm.ClassFile.Cond} {x y : Int32} (hG : yG E ρ) (ha : (yiv E a).isSome = true) (hb : (yiv E b).isSome = true) (hva : yv ρ a (.int x)) (hvb : yv ρ b (.int y)) (h : zicmp c x y = true) : ∃ E' ∈ ybr1 E a b c, yG E' ρ := by
  obtain ⟨p, hp⟩ := Option.isSome_iff_exists.mp ha
  obtain ⟨q, hq⟩ := Option.isSome_iff_exists.mp hb
  obtain ⟨x', e1, p1⟩ := yiv_ok hG hp hva
  obtain ⟨y', e2, q1⟩ := yiv_ok hG hq hvb
  cases e1
  cases e2
  obtain ⟨E1, g1, G1⟩ := ycut_ok hG hp hva (yrg_ok h q1)
  obtain ⟨q', hq'⟩ := Option.isSome_iff_exists.mp (yiv_cut g1 hb)
  obtain ⟨E2, g2, G2⟩ := ycut_ok G1 hq' hvb (yrg_ok (yflip_ok h) p1)
  refine ⟨E2, ?_, G2⟩
  unfold ybr1
  rw [hp, hq]
  dsimp only
  rw [g1]
  dsimp only
  rw [g2]
  exact List.mem_cons_self
def ybrs (E : yE) (a b : Value) (c : Jvm.ClassFile.Cond) : List yE := match c with
  | .ne => ybr1 E a b .lt ++ ybr1 E a b .gt
  | c => ybr1 E a b c
theorem ybrs_ok {E : yE} {ρ : yR} {a b : Value} {c : Jvm.ClassFile.Cond} {x y : Int32} (hG : yG E ρ) (ha : (yiv E a).isSome = true) (hb : (yiv E b).isSome = true) (hva : yv ρ a (.int x)) (hvb : yv ρ b (.int y)) (h : zicmp c x y = true) : ∃ E' ∈ ybrs E a b c, yG E' ρ := by
  cases c with
  | ne =>
    have h1 : (!decide (x = y)) = true := h
    have h2 : ¬ x = y := by simpa using h1
    by_cases hlt : x < y
    · obtain ⟨E', m, g⟩ := ybr1_ok (c := .lt) hG ha hb hva hvb (decide_eq_true hlt)
      exact ⟨E', List.mem_append_left _ m, g⟩
    · have hgt : y < x := Int32.lt_iff_toInt_lt.mpr (by
        have h3 := mt Int32.lt_iff_toInt_lt.mpr hlt
        have h4 : x.toInt ≠ y.toInt := fun e => h2 (Int32.toInt_inj.mp e)
        omega)
      obtain ⟨E', m, g⟩ := ybr1_ok (c := .gt) hG ha hb hva hvb (decide_eq_true hgt)
      exact ⟨E', List.mem_append_right _ m, g⟩
  | _ => exact ybr1_ok hG ha hb hva hvb h
def ynorm (E : yE) (v : Value) : Value := match v with
  | .float k => match E.1[k.toNat]? with
    | some q => if q.1 = q.2 then .int (Int32.ofInt q.1) else .float k
    | none => .float k
  | v => v
theorem ynorm_ok {E : yE} {ρ : yR} {v w : Value} (hG : yG E ρ) (h : yv ρ v w) : yv ρ (ynorm E v) w := by
  cases v with
  | float k =>
    unfold ynorm
    dsimp only
    split
    · next q hq =>
      split
      · next e =>
        obtain ⟨x, h1, h2⟩ := h
        have h3 := hG.2.2 _ _ _ hq h1
        have h4 : x.toInt = q.1 := by omega
        show w = .int (Int32.ofInt q.1)
        rw [h2, ← h4, Int32.ofInt_toInt]
      · exact h
    · exact h
  | _ => exact h
/-- between these keys -/
def ygap : Int → Int → List Int → List (Int × Int)
  | l, u, [] => if l ≤ u then [(l, u)] else []
  | l, u, k :: ks => (if l ≤ min (k - 1) u then [(l, min (k - 1) u)] else []) ++ ygap (max l (k + 1)) u ks
theorem ygap_ok : ∀ (ks : List Int) (l u x : Int), l ≤ x → x ≤ u → x ∉ ks → ∃ g ∈ ygap l u ks, g.1 ≤ x ∧ x ≤ g.2
  | [], l, u, x, h1, h2, _ => ⟨(l, u), by unfold ygap; rw [if_pos (by omega)]; exact List.mem_cons_self, h1, h2⟩
  | k :: ks, l, u, x, h1, h2, h3 => by
    have h4 : x ≠ k := fun e => h3 (by rw [e]; exact List.mem_cons_self)
    have h5 : x ∉ ks := fun e => h3 (List.mem_cons_of_mem _ e)
    unfold ygap
    by_cases hx : x < k
    · refine ⟨(l, min (k - 1) u), List.mem_append_left _ ?_, h1, by show x ≤ min (k - 1) u; omega⟩
      rw [if_pos (by omega)]
      exact List.mem_cons_self
    · obtain ⟨g, m, hg⟩ := ygap_ok ks (max l (k + 1)) u x (by omega) h2 h5
      exact ⟨g, List.mem_append_right _ m, hg⟩
def yone (E : yE) (s : Nat) (p : Int × Int) (ks : List Int) (pc : Nat) (ls : zL) (r : List Value) (h : zH) : List yS :=
  (ks.filter (fun k => decide (p.1 ≤ k) && decide (k ≤ p.2))).map (fun k => ((E.1.set s (k, k), E.2), pc, ls, .int (Int32.ofInt k) :: r, h))
theorem yone_ok {E : yE} {ρ : yR} {s : Nat} {p : Int × Int} {ks : List Int} {pc : Nat} {ls : zL} {r : List Value} {h : zH} {x : Int32} (hG : yG E ρ) (hp : E.1[s]? = some p) (hx : ρ.1[s]? = some x) (hk : x.toInt ∈ ks) : ∃ E' : yE, (E', pc, ls, .int x :: r, h) ∈ yone E s p ks pc ls r h ∧ yG E' ρ := by
  have h3 := hG.2.2 _ _ _ hp hx
  refine ⟨(E.1.set s (x.toInt, x.toInt), E.2), ?_, yG_set hG hx ⟨Int.le_refl _, Int.le_refl _⟩⟩
  unfold yone
  refine List.mem_map.mpr ⟨x.toInt, List.mem_filter.mpr ⟨hk, ?_⟩, ?_⟩
  · rw [Bool.and_eq_true]
    exact ⟨decide_eq_true h3.1, decide_eq_true h3.2⟩
  · rw [Int32.ofInt_toInt]
def ybin (i : Instr) : Bool := match i with
  | .iadd | .isub | .imul | .iand | .ior | .ixor | .ishl | .ishr | .iushr => true
  | _ => false
theorem ybin_ok {X : zX} {i : Instr} (hb : ybin i = true) (pc : Nat) (x y : Int32) : ∃ z : Int32, ∀ (cl : zL) (cr : List Value) (ch : zH), zstI X i pc cl (.int y :: .int x :: cr) ch = some (pc + 1, cl, .int z :: cr, ch) := by
  cases i with
  | iadd => exact ⟨_, fun _ _ _ => rfl⟩
  | isub => exact ⟨_, fun _ _ _ => rfl⟩
  | imul => exact ⟨_, fun _ _ _ => rfl⟩
  | iand => exact ⟨_, fun _ _ _ => rfl⟩
  | ior => exact ⟨_, fun _ _ _ => rfl⟩
  | ixor => exact ⟨_, fun _ _ _ => rfl⟩
  | ishl => exact ⟨_, fun _ _ _ => rfl⟩
  | ishr => exact ⟨_, fun _ _ _ => rfl⟩
  | iushr => exact ⟨_, fun _ _ _ => rfl⟩
  | _ => cases hb
def yrange (lo : Int) (n : Nat) : List Int := (List.range n).map (fun j : Nat => lo + (j : Int))
theorem yrange_mem {lo x : Int} {n : Nat} (h1 : lo ≤ x) (h2 : x < lo + n) : x ∈ yrange lo n := List.mem_map.mpr ⟨(x - lo).toNat, List.mem_range.mpr (by omega), by omega⟩
theorem yrange_of {lo x : Int} {n : Nat} (h : x ∈ yrange lo n) : lo ≤ x ∧ x < lo + n := by
  obtain ⟨j, hj, e⟩ := List.mem_map.mp h
  have := List.mem_range.mp hj
  omega
def ysy (X : zX) (nL : Nat) (c : Nat) (i : Instr) (pc : Nat) (E : yE) (ls : zL) (st : List Value) (h : zH) : Option (List yS) :=
  match i with
  | .iload_n k => match zget ls k with
    | some (.float s) => some [(E, pc + 1, ls, ynorm E (.float s) :: st, h)]
    | _ => none
  | .iload k => match zget ls k with
    | some (.float s) => some [(E, pc + 2, ls, ynorm E (.float s) :: st, h)]
    | _ => none
  | .istore_n k => match st with
    | .float s :: r => if (k : Nat) < nL then some [(E, pc + 1, zset1 ls k (.float s), r, h)] else none
    | _ => none
  | .istore k => match st with
    | .float s :: r => if k < nL then some [(E, pc + 2, zset1 ls k (.float s), r, h)] else none
    | _ => none
  | .ifCond cd off => match st with
    | a :: r => if 0 ≤ (pc : Int) + off ∧ (yiv E a).isSome = true then some ((ybrs E a (.int 0) cd).map (fun e => (e, ((pc : Int) + off).toNat, ls, r, h)) ++ (ybrs E a (.int 0) (yneg cd)).map (fun e => (e, pc + 3, ls, r, h))) else none
    | _ => none
  | .if_icmp cd off => match st with
    | b :: a :: r => if 0 ≤ (pc : Int) + off ∧ (yiv E a).isSome = true ∧ (yiv E b).isSome = true then some ((ybrs E a b cd).map (fun e => (e, ((pc : Int) + off).toNat, ls, r, h)) ++ (ybrs E a b (yneg cd)).map (fun e => (e, pc + 3, ls, r, h))) else none
    | _ => none
  | .tableswitch d lo hi offs => match st with
    | .float s :: r => match E.1[s.toNat]? with
      | some p => if 0 ≤ (pc : Int) + d then some (yone E s.toNat p (yrange lo (hi - lo + 1).toNat) pc ls r h ++ (ygap p.1 p.2 (yrange lo (hi - lo + 1).toNat)).map (fun g => ((E.1.set s.toNat g, E.2), ((pc : Int) + d).toNat, ls, r, h))) else none
      | none => none
    | _ => none
  | .lookupswitch d ps => match st with
    | .float s :: r => match E.1[s.toNat]? with
      | some p => if 0 ≤ (pc : Int) + d ∧ (ps.toList.zip (ps.toList.drop 1)).all (fun (a, next) => a.1 < next.1) = true then some (yone E s.toNat p (ps.toList.map (fun q => q.1)) pc ls r h ++ (ygap p.1 p.2 (ps.toList.map (fun q => q.1))).map (fun g => ((E.1.set s.toNat g, E.2), ((pc : Int) + d).toNat, ls, r, h))) else none
      | none => none
    | _ => none
  | .iaload => match st with
    | .float s :: r => match E.1[s.toNat]? with
      | some p => if p.2 - p.1 ≤ 64 then some (yone E s.toNat p (yrange p.1 (p.2 - p.1 + 1).toNat) pc ls r h) else none
      | none => none
    | _ => none
  | .putfield j => match st with
    | .float s :: .ref a :: r => match zfld X c j, h[a]? with
      | some (ci, k), some (ci', .inr (.inr (.inr fs))) => if ci' = ci ∧ k < fs.length ∧ zfin X ci k = false ∧ zty X ci k = .int then some [(E, pc + 3, ls, r, h.set a (ci, .inr (.inr (.inr (fs.set k (.float s))))))] else none
      | _, _ => none
    | _ => none
  | .iastore => match st with
    | v :: .int n :: .ref a :: r => match h[a]? with
      | some (t, .inl l) => if t = 0 ∧ zidx n l.length = true ∧ (yiv E v).isSome = true then some [(E, pc + 1, ls, r, h.set a (100, .inr (.inr (.inr ((l.map Value.int).set n.toNatClampNeg v)))))] else none
      | some (t, .inr (.inr (.inr fs))) => if t = 100 ∧ zidx n fs.length = true ∧ (yiv E v).isSome = true then some [(E, pc + 1, ls, r, h.set a (100, .inr (.inr (.inr (fs.set n.toNatClampNeg v)))))] else none
      | _ => none
    | _ => none
  | i => match st with
    | b :: a :: r => if ybin i = true ∧ (yiv E a).isSome = true ∧ (yiv E b).isSome = true ∧ E.1.length < 4294967296 then some [((E.1 ++ [(-2147483648, 2147483647)], E.2), pc + 1, ls, .float (UInt32.ofNat E.1.length) :: r, h)] else none
    | _ => none
