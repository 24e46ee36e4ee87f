/-! Runs with symbols: all ends of a method. -/
abbrev yO : Type := yE × Option Value × zH
def yseq {α β : Type} (f : α → Option (List β)) : List α → Option (List β)
  | [] => some []
  | a :: as => match f a with
    | none => none
    | some x => match yseq f as with
      | none => none
      | some y => some (x ++ y)
theorem yseq_in {α β : Type} {f : α → Option (List β)} : ∀ {l : List α} {r : List β} {a : α}, yseq f l = some r → a ∈ l → ∃ x, f a = some x ∧ ∀ b ∈ x, b ∈ r
  | [], _, _, _, h => nomatch h
  | a :: as, r, z, hs, h => by
    unfold yseq at hs
    split at hs
    · cases hs
    · next x hx =>
      split at hs
      · cases hs
      · next y hy =>
        cases hs
        rcases List.mem_cons.mp h with e | h
        · subst e
          exact ⟨x, hx, fun b hb => List.mem_append_left _ hb⟩
        · obtain ⟨x', h1, h2⟩ := yseq_in hy h
          exact ⟨x', h1, fun b hb => List.mem_append_right _ (h2 b hb)⟩
def yrun (X : zX) (I : zI) (mcl : Nat → Nat) (C : Nat → yE → List Value → zH → Option (List yO)) (c : Nat) (ini : Bool) (nL : Nat) (rt : Option FieldType) (tab : Nat → Option (Instr × Nat)) : Nat → yE → Nat → zL → List Value → zH → Option (List yO)
  | 0, _, _, _, _, _ => none
  | n + 1, E, pc, ls, st, h => match tab pc with
    | none => none
    | some (i, _) => match (bif yput i st then none else zstep X nL ini c i pc ls st h) with
      | some (pc1, ls1, st1, h1) => yrun X I mcl C c ini nL rt tab n E pc1 ls1 st1 h1
      | none => match zret rt i st with
        | some r => some [(E, r, h)]
        | none => match zcall X I mcl c i st h with
          | some (mi, as, rest) => match C mi E as h with
            | some os => yseq (fun o => yrun X I mcl C c ini nL rt tab n o.1 (pc + 3) ls (o.2.1.toList ++ rest) o.2.2) os
            | none => none
          | none => match zobjI I c i st with
            | some rest => yrun X I mcl C c ini nL rt tab n E (pc + 3) ls rest h
            | none => match ysy X nL c i pc E ls st h with
              | some ss => yseq (fun s => yrun X I mcl C c ini nL rt tab n s.1 s.2.1 s.2.2.1 s.2.2.2.1 s.2.2.2.2) ss
              | none => none
def yev (X : zX) (I : zI) (mcl : Nat → Nat) (mt : zM) : Nat → Nat → yE → List Value → zH → Option (List yO)
  | 0, _, _, _, _ => none
  | d + 1, mi, E, as, h => match mt mi with
    | some (c, ini, nL, rt, tab) => if (lg_sl as).length ≤ nL then yrun X I mcl (yev X I mcl mt d) c ini nL rt tab 100000 E 0 (lv_args 0 as) [] h else none
    | none => none
def yrv (ρ : yR) (a r : Option Value) : Prop := match a with
  | none => r = none
  | some v => ∃ w, r = some w ∧ yv ρ v w
/-- what the ends of a call say -/
def yEnds (ρ : yR) (P : Option Value → zH → Prop) (os : List yO) : Prop := ∃ o ∈ os, ∃ (ρ' : yR) (r : Option Value) (h' : zH), yext ρ ρ' ∧ yG o.1 ρ' ∧ yrv ρ' o.2.1 r ∧ yhs ρ' o.2.2 h' ∧ P r h'
theorem zRun_more {X : zX} {I : zI} {mcl : Nat → Nat} {C : zC} {c : Nat} {ini : Bool} {nL : Nat} {rt : Option FieldType} {tab : Nat → Option (Instr × Nat)} : ∀ (n pc : Nat) (ls : zL) (st : List Value) (h : zH) (r : Option Value) (h' : zH), zRun X I mcl C c ini nL rt tab n pc ls st h r h' → zRun X I mcl C c ini nL rt tab (n + 1) pc ls st h r h' := by
  intro n
  induction n with
  | zero => intro pc ls st h r h' q; exact q.elim
  | succ n ih =>
    intro pc ls st h r h' q
    obtain ⟨i, len, ht, q⟩ := q
    refine ⟨i, len, ht, ?_⟩
    rcases q with q | ⟨pc1, ls1, st1, h1, q1, q2⟩ | ⟨rest, q1, q2⟩ | ⟨mi, as, rest, r1, h1, q1, q3, q2⟩
    · exact Or.inl q
    · exact Or.inr (Or.inl ⟨pc1, ls1, st1, h1, q1, ih _ _ _ _ _ _ q2⟩)
    · exact Or.inr (Or.inr (Or.inl ⟨rest, q1, ih _ _ _ _ _ _ q2⟩))
    · exact Or.inr (Or.inr (Or.inr ⟨mi, as, rest, r1, h1, q1, q3, ih _ _ _ _ _ _ q2⟩))
theorem yrv_list {ρ : yR} {a r : Option Value} (h : yrv ρ a r) : yvs ρ a.toList r.toList := by
  cases a with
  | none =>
    rw [show r = none from h]
    exact rfl
  | some v =>
    obtain ⟨w, e, hw⟩ := h
    rw [e]
    exact ⟨w, [], rfl, hw, rfl⟩
section YS
variable {X0 X : zX} {I : zI} {mcl : Nat → Nat} {mt : zM}
set_option maxHeartbeats 4000000 in
theorem yrun_ok {F : Nat → yE → List Value → zH → Option (List yO)} {C : zC} {c : Nat} {ini : Bool} {nL : Nat} {rt : Option FieldType} {tab : Nat → Option (Instr × Nat)} (hX : yXX X0 X) (hm : ∀ k, mcl k < 100)
    (hF : ∀ (mi : Nat) (E : yE) (as : List Value) (h : zH) (os : List yO), F mi E as h = some os → ∀ (ρ : yR) (cas : List Value) (ch : zH), yG E ρ → yvs ρ as cas → yhs ρ h ch → yEnds ρ (fun r h' => C mi cas ch r h') os) :
    ∀ (n : Nat) (E : yE) (pc : Nat) (ls : zL) (st : List Value) (h : zH) (os : List yO), yrun X0 I mcl F c ini nL rt tab n E pc ls st h = some os → ∀ (ρ : yR) (cl : zL) (cst : List Value) (ch : zH), yG E ρ → yls ρ ls cl → yvs ρ st cst → yhs ρ h ch → yEnds ρ (fun r h' => zRun X I mcl C c ini nL rt tab n pc cl cst ch r h') os := by
  intro n
  induction n with
  | zero => intro E pc ls st h os q; cases q
  | succ n ih =>
    intro E pc ls st h os q ρ cl cst ch hG hl hst hh
    unfold yrun at q
    split at q
    · cases q
    · next i len ht =>
      split at q
      · next pc1 ls1 st1 h1 hs =>
        cases hp : yput i st with
        | true => rw [hp] at hs; cases hs
        | false =>
          rw [hp] at hs
          obtain ⟨cl', cst', ch', g1, g2, g3, g4⟩ := yzstep hX hs hp hl hst hh
          obtain ⟨o, ho, ρ', r, h', k1, k2, k3, k4, k5⟩ := ih _ _ _ _ _ _ q ρ cl' cst' ch' hG g2 g3 g4
          exact ⟨o, ho, ρ', r, h', k1, k2, k3, k4, ⟨i, len, ht, Or.inr (Or.inl ⟨pc1, cl', cst', ch', g1, k5⟩)⟩⟩
      · split at q
        · next r hr =>
          cases q
          obtain ⟨g1, g2⟩ := yzret hr hst
          refine ⟨_, List.mem_cons_self, ρ, r, ch, yext.rf, hG, ?_, hh, ⟨i, len, ht, Or.inl ⟨g1, rfl⟩⟩⟩
          cases r with
          | none => exact rfl
          | some v => exact ⟨v, rfl, yv_r (g2 v rfl)⟩
        · split at q
          · next mi as rest hc =>
            split at q
            · next os1 hC =>
              obtain ⟨cas, crest, g1, g2, g3⟩ := yzcall (I := I) hX hm hc hst hh
              obtain ⟨o, ho, ρ1, r1, h1, k1, k2, k3, k4, k5⟩ := hF _ _ _ _ _ hC ρ cas ch hG g2 hh
              obtain ⟨x, hx, hin⟩ := yseq_in q ho
              obtain ⟨o2, ho2, ρ2, r2, h2, e1, e2, e3, e4, e5⟩ := ih _ _ _ _ _ _ hx ρ1 cl (r1.toList ++ crest) h1 k2 (hl.ext k1) (yA.app (g3.ext k1) (yrv_list k3)) k4
              exact ⟨o2, hin _ ho2, ρ2, r2, h2, k1.trans e1, e2, e3, e4, ⟨i, len, ht, Or.inr (Or.inr (Or.inr ⟨mi, cas, crest, r1, h1, g1, k5, e5⟩))⟩⟩
            · cases q
          · split at q
            · next rest hr =>
              obtain ⟨crest, g1, g2⟩ := yzobjI hr hst
              obtain ⟨o, ho, ρ', r, h', k1, k2, k3, k4, k5⟩ := ih _ _ _ _ _ _ q ρ cl crest ch hG hl g2 hh
              exact ⟨o, ho, ρ', r, h', k1, k2, k3, k4, ⟨i, len, ht, Or.inr (Or.inr (Or.inl ⟨crest, g1, k5⟩))⟩⟩
            · split at q
              · next ss hs =>
                obtain ⟨s, hin, ρ1, cl1, cst1, ch1, k1, k2, k3, k4, k5, k6⟩ := ysy_ok (ini := ini) hX hs hG hl hst hh
                obtain ⟨x, hx, hin2⟩ := yseq_in q hin
                obtain ⟨o, ho, ρ2, r2, h2, e1, e2, e3, e4, e5⟩ := ih _ _ _ _ _ _ hx ρ1 cl1 cst1 ch1 k2 k3 k4 k5
                refine ⟨o, hin2 _ ho, ρ2, r2, h2, k1.trans e1, e2, e3, e4, ?_⟩
                rcases k6 with k6 | ⟨k6, k7, k8, k9⟩
                · exact ⟨i, len, ht, Or.inr (Or.inl ⟨_, cl1, cst1, ch1, k6, e5⟩)⟩
                · rw [k6, k7, k8, k9] at e5
                  exact zRun_more _ _ _ _ _ _ _ e5
              · cases q
theorem yev_ok (hX : yXX X0 X) (hm : ∀ k, mcl k < 100) : ∀ (d mi : Nat) (E : yE) (as : List Value) (h : zH) (os : List yO), yev X0 I mcl mt d mi E as h = some os → ∀ (ρ : yR) (cas : List Value) (ch : zH), yG E ρ → yvs ρ as cas → yhs ρ h ch → yEnds ρ (fun r h' => zEv X I mcl mt d mi cas ch r h') os := by
  intro d
  induction d with
  | zero => intro mi E as h os q; cases q
  | succ d ih =>
    intro mi E as h os q ρ cas ch hG has hh
    unfold yev at q
    split at q
    · next c ini nL rt tab hmi =>
      split at q
      · next hlg =>
        obtain ⟨o, ho, ρ', r, h', k1, k2, k3, k4, k5⟩ := yrun_ok hX hm ih _ _ _ _ _ _ _ q ρ (lv_args 0 cas) [] ch hG (yargs 0 has) rfl hh
        exact ⟨o, ho, ρ', r, h', k1, k2, k3, k4, ⟨c, ini, nL, rt, tab, 100000, hmi, by rw [ysl_len has]; exact hlg, k5⟩⟩
      · cases q
    · cases q
end YS
