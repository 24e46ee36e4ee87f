/-! The same runs, worked out. -/
def zrunF (X : zX) (I : zI) (mcl : Nat → Nat) (C : Nat → List Value → zH → Option (Option Value × zH)) (c : Nat) (ini : Bool) (nL : Nat) (rt : Option FieldType) (tab : Nat → Option (Instr × Nat)) : Nat → Nat → zL → List Value → zH → Option (Option Value × zH)
  | 0, _, _, _, _ => none
  | n + 1, pc, ls, st, h => match tab pc with
    | none => none
    | some (i, _) => match zstep X nL ini c i pc ls st h with
      | some (pc1, ls1, st1, h1) => zrunF X I mcl C c ini nL rt tab n pc1 ls1 st1 h1
      | none => match zret rt i st with
        | some r => some (r, h)
        | none => match zcall X I mcl c i st h with
          | some (mi, as, rest) => match C mi as h with
            | some (r1, h1) => zrunF X I mcl C c ini nL rt tab n (pc + 3) ls (r1.toList ++ rest) h1
            | none => none
          | none => match zobjI I c i st with
            | some rest => zrunF X I mcl C c ini nL rt tab n (pc + 3) ls rest h
            | none => none
def zevF (X : zX) (I : zI) (mcl : Nat → Nat) (mt : zM) : Nat → Nat → List Value → zH → Option (Option Value × zH)
  | 0, _, _, _ => none
  | d + 1, mi, as, h => match mt mi with
    | some (c, ini, nL, rt, tab) => if (lg_sl as).length ≤ nL then zrunF X I mcl (zevF X I mcl mt d) c ini nL rt tab 100000 0 (lv_args 0 as) [] h else none
    | none => none
theorem zrunF_ok {X : zX} {I : zI} {mcl : Nat → Nat} {F : Nat → List Value → zH → Option (Option Value × zH)} {C : zC} {c : Nat} {ini : Bool} {nL : Nat} {rt : Option FieldType} {tab : Nat → Option (Instr × Nat)} (hF : ∀ mi as h r h', F mi as h = some (r, h') → C mi as h r h') : ∀ (n pc : Nat) (ls : zL) (st : List Value) (h : zH) (r : Option Value) (h' : zH), zrunF X I mcl F c ini nL rt tab n pc ls st h = some (r, h') → zRun X I mcl C c ini nL rt tab n pc ls st h r h' := by
  intro n
  induction n with
  | zero => intro pc ls st h r h' q; cases q
  | succ n ih =>
    intro pc ls st h r h' q
    unfold zrunF at q
    split at q
    · cases q
    · next i len ht =>
      refine ⟨i, len, ht, ?_⟩
      split at q
      · next pc1 ls1 st1 h1 hs => exact Or.inr (Or.inl ⟨pc1, ls1, st1, h1, hs, ih _ _ _ _ _ _ q⟩)
      · split at q
        · next r9 hr =>
          cases q
          exact Or.inl ⟨hr, rfl⟩
        · split at q
          · next mi as rest hc =>
            split at q
            · next r1 h1 hC => exact Or.inr (Or.inr (Or.inr ⟨mi, as, rest, r1, h1, hc, hF _ _ _ _ _ hC, ih _ _ _ _ _ _ q⟩))
            · cases q
          · split at q
            · next rest ho => exact Or.inr (Or.inr (Or.inl ⟨rest, ho, ih _ _ _ _ _ _ q⟩))
            · cases q
theorem zevF_ok {X : zX} {I : zI} {mcl : Nat → Nat} {mt : zM} : ∀ (d mi : Nat) (as : List Value) (h : zH) (r : Option Value) (h' : zH), zevF X I mcl mt d mi as h = some (r, h') → zEv X I mcl mt d mi as h r h' := by
  intro d
  induction d with
  | zero => intro mi as h r h' q; cases q
  | succ d ih =>
    intro mi as h r h' q
    unfold zevF at q
    split at q
    · next c ini nL rt tab hm =>
      split at q
      · next hl => exact ⟨c, ini, nL, rt, tab, 100000, hm, hl, zrunF_ok ih _ _ _ _ _ _ _ q⟩
      · cases q
    · cases q
