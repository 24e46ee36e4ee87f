/-! One instruction that looks at the stack alone. -/
abbrev aO : Type := Nat × aS
theorem aRel.mk2 {W : aW} {G : aG} {D : List aD} {h0 : zH} {ρ ρ' : List Int} {E E' : List aY} {ls : aLs} {st st' : List aV} {m : aM} {cl : zL} {cst cst' : List Value} {h : zH} (hR : aRel W G D h0 ρ (E, ls, st, m) cl cst h) (hx : aext ρ ρ') (hE : aE W E' ρ') (hs : aSt ρ' st' cst') : aRel W G D h0 ρ' (E', ls, st', m) cl cst' h :=
  ⟨hE, hR.2.1.ext hx, hs, hR.2.2.2.1.ext hx, hR.2.2.2.2.ext hx⟩
def aj (pc : Nat) (off : Int) : Nat := ((pc : Int) + off).toNat
/-- a long's interval -/
def alv (E : List aY) (s : Nat) : Option (Int × Int) := match E[s]? with
  | some (1, l, u) => some (l, u)
  | _ => none
theorem alv_ok {W : aW} {E : List aY} {ρ : List Int} {s : Nat} {q : Int × Int} {v : Value} (hE : aE W E ρ) (hq : alv E s = some q) (hv : av ρ (.inr (.inl s)) v) : ∃ x : Int64, v = .long x ∧ ρ[s]? = some x.toInt ∧ q.1 ≤ x.toInt ∧ x.toInt ≤ q.2 := by
  unfold alv at hq
  split at hq
  · next l u hs =>
    cases hq
    obtain ⟨z, h1, rfl⟩ := hv
    obtain ⟨⟨h2, h3⟩, h4, h5⟩ := hE.2.2 _ _ _ hs h1
    refine ⟨_, rfl, ?_, ?_⟩
    · rw [ai64 h4 h5]; exact h1
    · rw [ai64 h4 h5]; exact ⟨h2, h3⟩
  · cases hq
def acutl (E : List aY) (s : Nat) (q : Int × Int) : Option (List aY) := match E[s]? with
  | some (1, l, u) => bif ile (imx l q.1) (imn u q.2) then some (E.set s (1, imx l q.1, imn u q.2)) else none
  | _ => some E
theorem acutl_ok {W : aW} {E : List aY} {ρ : List Int} {s : Nat} {x : Int64} {q : Int × Int} (hE : aE W E ρ) (hx : ρ[s]? = some x.toInt) (hq : q.1 ≤ x.toInt ∧ x.toInt ≤ q.2) : ∃ E' : List aY, acutl E s q = some E' ∧ aE W E' ρ := by
  unfold acutl
  split
  · next l u hs =>
    obtain ⟨⟨h2, h3⟩, h4⟩ := hE.2.2 _ _ _ hs hx
    rw [imx_eq, imn_eq, ile_iff.mpr (by omega)]
    exact ⟨_, rfl, hE.set hx ⟨⟨by omega, by omega⟩, h4⟩⟩
  · exact ⟨E, rfl, hE⟩
/-- both in these -/
def acut2 (E : List aY) (s s' : Nat) (q q' : Int × Int) : List (List aY) := match acutl E s q with
  | none => []
  | some E1 => match acutl E1 s' q' with
    | none => []
    | some E2 => [E2]
theorem acut2_ok {W : aW} {E : List aY} {ρ : List Int} {s s' : Nat} {x y : Int64} {q q' : Int × Int} (hE : aE W E ρ) (hx : ρ[s]? = some x.toInt) (hy : ρ[s']? = some y.toInt) (hq : q.1 ≤ x.toInt ∧ x.toInt ≤ q.2) (hq' : q'.1 ≤ y.toInt ∧ y.toInt ≤ q'.2) : ∃ E' ∈ acut2 E s s' q q', aE W E' ρ := by
  obtain ⟨E1, g1, G1⟩ := acutl_ok hE hx hq
  obtain ⟨E2, g2, G2⟩ := acutl_ok G1 hy hq'
  refine ⟨E2, ?_, G2⟩
  unfold acut2
  rw [g1]
  dsimp only
  rw [g2]
  exact List.mem_cons_self
/-- a switch: offsets by values, the keys, the offset elsewhere -/
def asw (tg : Int → Option Int) (ks : List Int) (d : Int) (pc : Nat) (E : List aY) (s : Nat) (c : Int) (p : Int × Int) (S : aLs × List aV × aM) : List aO :=
  ((ks.filter (fun k => ile p.1 k && ile k p.2)).flatMap (fun k => match tg k with
    | some off => (match acut E s c (k, k) with
      | some E' => [(aj pc off, E', S)]
      | none => [])
    | none => [])) ++ (agap p.1 p.2 ks).flatMap (fun g => match acut E s c g with
      | some E' => [(aj pc d, E', S)]
      | none => [])
theorem asw_ok {W : aW} {tg : Int → Option Int} {ks : List Int} {d : Int} {pc : Nat} {E : List aY} {ρ : List Int} {s : Nat} {c : Int} {p : Int × Int} {S : aLs × List aV × aM} {x : Int32} {off : Int} (hE : aE W E ρ) (hp : aiv E s c = some p) (hx : ai ρ s c x) (ht : tg x.toInt = some off) (hd : x.toInt ∉ ks → off = d) : ∃ E', (aj pc off, E', S) ∈ asw tg ks d pc E s c p S ∧ aE W E' ρ := by
  have hb := aiv_in hE hp hx
  unfold asw
  by_cases hk : x.toInt ∈ ks
  · obtain ⟨E', g1, g2⟩ := acut_ok (q := (x.toInt, x.toInt)) hE hx ⟨Int.le_refl _, Int.le_refl _⟩
    refine ⟨E', List.mem_append_left _ (List.mem_flatMap.mpr ⟨x.toInt, List.mem_filter.mpr ⟨hk, ?_⟩, ?_⟩), g2⟩
    · rw [Bool.and_eq_true]
      exact ⟨ile_iff.mpr hb.1, ile_iff.mpr hb.2⟩
    · rw [ht]
      dsimp only
      rw [g1]
      exact List.mem_cons_self
  · obtain ⟨g, hg, h3⟩ := agap_ok ks p.1 p.2 x.toInt hb.1 hb.2 hk
    obtain ⟨E', g1, g2⟩ := acut_ok (q := g) hE hx h3
    refine ⟨E', List.mem_append_right _ (List.mem_flatMap.mpr ⟨g, hg, ?_⟩), g2⟩
    rw [g1, hd hk]
    exact List.mem_cons_self
def aL2 (i : Instr) : Bool := match i with
  | .ladd | .lsub | .lmul | .land | .lor | .lxor => true
  | _ => false
def aLs2 (i : Instr) : Bool := match i with
  | .lshl | .lshr | .lushr => true
  | _ => false
theorem aL2_st {X : zX} {i : Instr} (hb : aL2 i = true) (pc : Nat) (x y : Int64) : ∃ z : Int64, ∀ (cl : zL) (cr : List Value) (ch : zH), zstI X i pc cl (.long y :: .long x :: cr) ch = some (pc + 1, cl, .long z :: cr, ch) := by
  cases i with
  | ladd => exact ⟨_, fun _ _ _ => rfl⟩
  | lsub => exact ⟨_, fun _ _ _ => rfl⟩
  | lmul => exact ⟨_, fun _ _ _ => rfl⟩
  | land => exact ⟨_, fun _ _ _ => rfl⟩
  | lor => exact ⟨_, fun _ _ _ => rfl⟩
  | lxor => exact ⟨_, fun _ _ _ => rfl⟩
  | _ => cases hb
theorem aLs2_st {X : zX} {i : Instr} (hb : aLs2 i = true) (pc : Nat) (x : Int64) (y : Int32) : ∃ z : Int64, ∀ (cl : zL) (cr : List Value) (ch : zH), zstI X i pc cl (.int y :: .long x :: cr) ch = some (pc + 1, cl, .long z :: cr, ch) := by
  cases i with
  | lshl => exact ⟨_, fun _ _ _ => rfl⟩
  | lshr => exact ⟨_, fun _ _ _ => rfl⟩
  | lushr => exact ⟨_, fun _ _ _ => rfl⟩
  | _ => cases hb
def atgt (d lo hi : Int) (offs : Array Int) (x : Int) : Option Int := bif ile lo x && ile x hi then offs[(x - lo).toNat]? else some d
def astI (i : Instr) (pc : Nat) (E : List aY) (ls : aLs) (st : List aV) (m : aM) : Option (List aO) :=
  match i with
  | .idiv => match st with
    | .inl (s', c') :: .inl (s, c) :: r => match aiv E s c, aiv E s' c' with
      | some p, some q => bif an0 q then some [(pc + 1, E ++ [adv p q], ls, .inl (E.length, 0) :: r, m)] else none
      | _, _ => none
    | _ => none
  | .irem => match st with
    | .inl (s', c') :: .inl (s, c) :: r => match aiv E s c, aiv E s' c' with
      | some p, some q => bif an0 q then some [(pc + 1, E ++ [arm p q], ls, .inl (E.length, 0) :: r, m)] else none
      | _, _ => none
    | _ => none
  | .ineg => match st with
    | .inl (s, c) :: r => match aiv E s c with
      | some p => some [(pc + 1, E ++ [acl (-p.2) (-p.1)], ls, .inl (E.length, 0) :: r, m)]
      | none => none
    | _ => none
  | .ldiv => match st with
    | .inr (.inl s') :: .inr (.inl _) :: r => match alv E s' with
      | some q => bif an0 q then some [(pc + 1, E ++ [aFL], ls, .inr (.inl E.length) :: r, m)] else none
      | none => none
    | _ => none
  | .lrem => match st with
    | .inr (.inl s') :: .inr (.inl _) :: r => match alv E s' with
      | some q => bif an0 q then some [(pc + 1, E ++ [aFL], ls, .inr (.inl E.length) :: r, m)] else none
      | none => none
    | _ => none
  | .lneg => match st with
    | .inr (.inl _) :: r => some [(pc + 1, E ++ [aFL], ls, .inr (.inl E.length) :: r, m)]
    | _ => none
  | .lcmp => match st with
    | .inr (.inl s') :: .inr (.inl s) :: r => match alv E s, alv E s' with
      | some p, some q => some ((acut2 E s s' (aXl.1, q.2 - 1) (p.1 + 1, aXl.2)).map (fun e => (pc + 1, e, ls, .inl (0, -1) :: r, m)) ++ ((acut2 E s s' q p).map (fun e => (pc + 1, e, ls, .inl (0, 0) :: r, m)) ++ (acut2 E s s' (q.1 + 1, aXl.2) (aXl.1, p.2 - 1)).map (fun e => (pc + 1, e, ls, .inl (0, 1) :: r, m))))
      | _, _ => none
    | _ => none
  | .i2l => match st with
    | .inl (s, c) :: r => match aiv E s c with
      | some p => some [(pc + 1, E ++ [(1, p.1, p.2)], ls, .inr (.inl E.length) :: r, m)]
      | none => none
    | _ => none
  | .l2i => match st with
    | .inr (.inl _) :: r => some [(pc + 1, E ++ [aFI], ls, .inl (E.length, 0) :: r, m)]
    | _ => none
  | .i2c => match st with
    | .inl (s, c) :: r => match aiv E s c with
      | some p => bif ile 0 p.1 && ile p.2 65535 then some [(pc + 1, E, ls, .inl (s, c) :: r, m)] else none
      | none => none
    | _ => none
  | .dup => match st with
    | .inl x :: r => some [(pc + 1, E, ls, .inl x :: .inl x :: r, m)]
    | .inr (.inr (.inl x)) :: r => some [(pc + 1, E, ls, .inr (.inr (.inl x)) :: .inr (.inr (.inl x)) :: r, m)]
    | _ => none
  | .dup2 => match st with
    | .inl x :: .inr (.inr (.inl a)) :: r => some [(pc + 1, E, ls, .inl x :: .inr (.inr (.inl a)) :: .inl x :: .inr (.inr (.inl a)) :: r, m)]
    | _ => none
  | .pop => match st with
    | .inl _ :: r => some [(pc + 1, E, ls, r, m)]
    | .inr (.inr (.inl _)) :: r => some [(pc + 1, E, ls, r, m)]
    | _ => none
  | .ifCond cd off => match st with
    | .inl (s, c) :: r => match aiv E s c, aiv E 0 0 with
      | some _, some _ => bif ile 0 ((pc : Int) + off) then some ((abrs (E, ls, r, m) s c 0 0 cd).map (fun S => (aj pc off, S)) ++ (abrs (E, ls, r, m) s c 0 0 (aneg cd)).map (fun S => (pc + 3, S))) else none
      | _, _ => none
    | _ => none
  | .if_icmp cd off => match st with
    | .inl (s', c') :: .inl (s, c) :: r => match aiv E s c, aiv E s' c' with
      | some _, some _ => bif ile 0 ((pc : Int) + off) then some ((abrs (E, ls, r, m) s c s' c' cd).map (fun S => (aj pc off, S)) ++ (abrs (E, ls, r, m) s c s' c' (aneg cd)).map (fun S => (pc + 3, S))) else none
      | _, _ => none
    | _ => none
  | .goto off => bif ile 0 ((pc : Int) + off) then some [(aj pc off, E, ls, st, m)] else none
  | .tableswitch d lo hi offs => match st with
    | .inl (s, c) :: r => match aiv E s c with
      | some p => bif (offs.toList.all (fun o => ile 0 ((pc : Int) + o)) && ile 0 ((pc : Int) + d)) && (ile lo hi && Nat.beq (hi - lo + 1).toNat offs.size) then some (asw (atgt d lo hi offs) (arange lo (hi - lo + 1).toNat) d pc E s c p (ls, r, m)) else none
      | none => none
    | _ => none
  | .lookupswitch d ps => match st with
    | .inl (s, c) :: r => match aiv E s c with
      | some p => bif (ps.toList.all (fun q => ile 0 ((pc : Int) + q.2)) && ile 0 ((pc : Int) + d)) && (ps.toList.zip (ps.toList.drop 1)).all (fun q => !ile q.2.1 q.1.1) then some (asw (fun x => some (Op.lookupswitch.offset ps.toList d x)) (ps.toList.map (fun q => q.1)) d pc E s c p (ls, r, m)) else none
      | none => none
    | _ => none
  | i => bif aib i then (match st with
    | .inl (s', c') :: .inl (s, c) :: r => match aiv E s c, aiv E s' c' with
      | some p, some q => match abin i E s c s' c' p q with
        | (E', v) => some [(pc + 1, E', ls, v :: r, m)]
      | _, _ => none
    | _ => none) else (bif aL2 i then (match st with
      | .inr (.inl _) :: .inr (.inl _) :: r => some [(pc + 1, E ++ [aFL], ls, .inr (.inl E.length) :: r, m)]
      | _ => none) else (bif aLs2 i then (match st with
        | .inl (s, c) :: .inr (.inl _) :: r => match aiv E s c with
          | some _ => some [(pc + 1, E ++ [aFL], ls, .inr (.inl E.length) :: r, m)]
          | none => none
        | _ => none) else none))
