/-! A method's run, all ways. -/
def anar (E : List aY) (t : FieldType) (s : Nat) (c : Int) : Bool := match t with
  | .int => true
  | .boolean => match aiv E s c with
    | some p => ile 0 p.1 && ile p.2 1
    | none => false
  | .char => match aiv E s c with
    | some p => ile 0 p.1 && ile p.2 65535
    | none => false
  | .byte => match aiv E s c with
    | some p => ile 0 p.1 && ile p.2 1
    | none => false
  | _ => false
theorem achar {x : Int32} (h1 : 0 ≤ x.toInt) (h2 : x.toInt ≤ 65535) : x.toUInt32.toUInt16.toUInt32.toInt32 = x := by
  have hn := atonat h1
  apply Int32.toBitVec_inj.mp
  apply BitVec.eq_of_toNat_eq
  have e1 : x.toUInt32.toUInt16.toUInt32.toInt32.toBitVec.toNat = x.toUInt32.toNat % 65536 := by
    show x.toUInt32.toUInt16.toUInt32.toNat = _
    rw [UInt16.toNat_toUInt32, UInt32.toNat_toUInt16]
  have e2 : x.toUInt32.toNat = x.toBitVec.toNat := rfl
  rw [e1, e2]
  omega
theorem anar_ok {W : aW} {E : List aY} {ρ : List Int} {t : FieldType} {s : Nat} {c : Int} {x : Int32} (hE : aE W E ρ) (h : anar E t s c = true) (hx : ai ρ s c x) : narrow t (.int x) = .int x := by
  have b01 : ∀ p : Int × Int, aiv E s c = some p → (ile 0 p.1 && ile p.2 1) = true → x = 0 ∨ x = 1 := fun p hp hb => by
    have := aiv_in hE hp hx
    rw [Bool.and_eq_true] at hb
    have h1 := ile_iff.mp hb.1
    have h2 := ile_iff.mp hb.2
    rcases (show x.toInt = 0 ∨ x.toInt = 1 by omega) with q | q
    · exact Or.inl (Int32.toInt_inj.mp q)
    · exact Or.inr (Int32.toInt_inj.mp q)
  unfold anar at h
  split at h
  · rfl
  · split at h
    · next p hp => rcases b01 p hp h with rfl | rfl <;> rfl
    · cases h
  · split at h
    · next p hp =>
      have := aiv_in hE hp hx
      rw [Bool.and_eq_true] at h
      have h1 := ile_iff.mp h.1
      have h2 := ile_iff.mp h.2
      show Value.int _ = Value.int x
      rw [achar (by omega) (by omega)]
    · cases h
  · split at h
    · next p hp => rcases b01 p hp h with rfl | rfl <;> rfl
    · cases h
  · cases h
def arets (rt : Option FieldType) (i : Instr) (E : List aY) (st : List aV) : Option (Option aV) := match i with
  | .ireturn => match st with
    | [.inl (s, c)] => match rt with
      | some t => bif anar E t s c then some (some (.inl (s, c))) else none
      | none => none
    | _ => none
  | .lreturn => match st with
    | [.inr (.inl s)] => match rt with
      | some .long => some (some (.inr (.inl s)))
      | _ => none
    | _ => none
  | .areturn => match st with
    | [.inr (.inr (.inl s))] => match rt with
      | some (.object _) => some (some (.inr (.inr (.inl s))))
      | _ => none
    | _ => none
  | .return_ => match st with
    | [] => match rt with
      | none => some none
      | _ => none
    | _ => none
  | _ => none
theorem arets_ok {W : aW} {rt : Option FieldType} {i : Instr} {E : List aY} {st : List aV} {r : Option aV} {ρ : List Int} {cst : List Value} (hs : arets rt i E st = some r) (hE : aE W E ρ) (hst : aSt ρ st cst) : ∃ rv, zret rt i cst = some rv ∧ arv ρ r rv := by
  cases i with
  | ireturn =>
    dsimp only [arets] at hs
    split at hs
    · next s c =>
      split at hs
      · next t =>
        cases hb : anar E t s c with
        | false => rw [hb] at hs; cases hs
        | true =>
          rw [hb] at hs
          cases hs
          obtain ⟨x, cr, rfl, hx, hst⟩ := as1 hst
          rw [show cr = [] from hst]
          refine ⟨some (.int x), ?_, _, rfl, x, hx, rfl⟩
          dsimp only [zret]
          rw [if_pos (anar_ok hE hb hx)]
      · cases hs
    · cases hs
  | lreturn =>
    dsimp only [arets] at hs
    split at hs
    · split at hs
      · cases hs
        obtain ⟨x, cr, rfl, hx, hst⟩ := asl hst
        rw [show cr = [] from hst]
        exact ⟨some (.long x), rfl, _, rfl, hx⟩
      · cases hs
    · cases hs
  | areturn =>
    dsimp only [arets] at hs
    split at hs
    · split at hs
      · cases hs
        obtain ⟨x, cr, rfl, hx, hst⟩ := asr hst
        rw [show cr = [] from hst]
        exact ⟨some (.ref x), rfl, _, rfl, x, hx, rfl⟩
      · cases hs
    · cases hs
  | return_ =>
    dsimp only [arets] at hs
    split at hs
    · split at hs
      · cases hs
        rw [show cst = [] from hst]
        exact ⟨none, rfl, rfl⟩
      · cases hs
    · cases hs
  | _ => cases hs
def aseq {α β : Type} (f : α → Option (List β)) : List α → Option (List β)
  | [] => some []
  | a :: r => match f a with
    | some x => match aseq f r with
      | some y => some (x ++ y)
      | none => none
    | none => none
theorem aseq_ok {α β : Type} {f : α → Option (List β)} : ∀ {l : List α} {out : List β}, aseq f l = some out → ∀ a ∈ l, ∃ x, f a = some x ∧ ∀ b ∈ x, b ∈ out
  | [], _, _, a, h => by cases h
  | c :: r, out, hs, a, ha => by
    unfold aseq at hs
    split at hs
    · next x hx =>
      split at hs
      · next y hy =>
        cases hs
        rcases List.mem_cons.mp ha with rfl | ha
        · exact ⟨x, hx, fun b hb => List.mem_append_left _ hb⟩
        · obtain ⟨x', g1, g2⟩ := aseq_ok hy a ha
          exact ⟨x', g1, fun b hb => List.mem_append_right _ (g2 b hb)⟩
      · cases hs
    · cases hs
/-- the tables of one side: the engine's, calls, classes of methods, forms of cells, protected places, what may be written -/
abbrev aP : Type := zX × zI × (Nat → Nat) × aW × aPt × List aD
def arun (P : aP) (cal : Nat → List aY → List aV → aM → Option (List aXt)) (nt : Nat → aS → Bool) (c nL : Nat) (rt : Option FieldType) (tab : Nat → Option (Instr × Nat)) : Nat → Bool → Nat → aS → Option (List aXt)
  | 0 => fun _ _ _ => none
  | n + 1 => fun sk pc S => bif !sk && nt pc S then some [] else (match tab pc with
    | none => none
    | some q => match arets rt q.1 S.1 S.2.2.1 with
      | some r => some [(S.1, r, S.2.2.2)]
      | none => match astp P.1 c nL P.2.2.2.1 P.2.2.2.2.1 P.2.2.2.2.2 q.1 pc S with
        | some os => aseq (fun o => arun P cal nt c nL rt tab n false o.1 o.2) os
        | none => match amath P.2.1 c q.1 S.1 S.2.2.1 with
          | some os => aseq (fun o => arun P cal nt c nL rt tab n false (pc + 3) (o.1, S.2.1, o.2, S.2.2.2)) os
          | none => match acal P.1 P.2.1 P.2.2.1 P.2.2.2.1 c q.1 S.1 S.2.2.1 with
            | some w => match cal w.1 S.1 w.2.1 S.2.2.2 with
              | some xs => aseq (fun x => arun P cal nt c nL rt tab n false (pc + 3) (x.1, S.2.1, x.2.1.toList ++ w.2.2, x.2.2)) xs
              | none => none
            | none => none)
/-- an end of a run stands to what the run gave -/
def aXr (W : aW) (G : aG) (D : List aD) (h0 : zH) (ρ : List Int) (xs : List aXt) (r : Option Value) (h' : zH) : Prop := ∃ x ∈ xs, ∃ ρ', aext ρ ρ' ∧ aE W x.1 ρ' ∧ arv ρ' x.2.1 r ∧ aH W G ρ' x.2.2 h' ∧ aF W G ρ' D h0 h'
def aCal (W : aW) (G : aG) (D : List aD) (h0 : zH) (C : zC) (Q : List Int → Prop) (cal : Nat → List aY → List aV → aM → Option (List aXt)) : Prop := ∀ (mi : Nat) (E : List aY) (as : List aV) (m : aM) (xs : List aXt) (ρ : List Int) (vs : List Value) (h : zH), cal mi E as m = some xs → Q ρ → aE W E ρ → aH W G ρ m h → aSt ρ as vs → aF W G ρ D h0 h → ∃ (r : Option Value) (h' : zH), C mi vs h r h' ∧ aXr W G D h0 ρ xs r h'
theorem aXr.mono {W : aW} {G : aG} {D : List aD} {h0 : zH} {ρ ρ1 : List Int} {xs ys : List aXt} {r : Option Value} {h' : zH} (hx : aext ρ ρ1) (hm : ∀ x ∈ xs, x ∈ ys) : aXr W G D h0 ρ1 xs r h' → aXr W G D h0 ρ ys r h'
  | ⟨x, h1, ρ', h2, h3⟩ => ⟨x, hm x h1, ρ', hx.trans h2, h3⟩
set_option maxHeartbeats 1000000 in
theorem arun_ok {W : aW} {G : aG} {Pt : aPt} {D : List aD} {h0 : zH} {Y X : zX} {I : zI} {mcl : Nat → Nat} {C : zC} {Q : List Int → Prop} {Post : Option Value → zH → Prop} {cal : Nat → List aY → List aV → aM → Option (List aXt)} {nt : Nat → aS → Bool} {c nL : Nat} {ini : Bool} {rt : Option FieldType} {tab : Nat → Option (Instr × Nat)} (hX : aXX Y X) (hG : aGok W G Pt) (hL : ∀ s : Nat, (afm W s).2.2.1 < 1000000) (hQ : ∀ ρ ρ' : List Int, Q ρ → aext ρ ρ' → Q ρ') (hc : aCal W G D h0 C Q cal) (hn : ∀ (pc : Nat) (S : aS) (ρ : List Int) (cl : zL) (cst : List Value) (h : zH), nt pc S = true → Q ρ → aRel W G D h0 ρ S cl cst h → ∃ (n : Nat) (r : Option Value) (h' : zH), zRun X I mcl C c ini nL rt tab n pc cl cst h r h' ∧ Post r h') : ∀ (n : Nat) (sk : Bool) (pc : Nat) (S : aS) (xs : List aXt) (ρ : List Int) (cl : zL) (cst : List Value) (h : zH), arun (Y, I, mcl, W, Pt, D) cal nt c nL rt tab n sk pc S = some xs → Q ρ → aRel W G D h0 ρ S cl cst h → ∃ (k : Nat) (r : Option Value) (h' : zH), zRun X I mcl C c ini nL rt tab k pc cl cst h r h' ∧ (aXr W G D h0 ρ xs r h' ∨ Post r h') := by
  intro n
  induction n with
  | zero => intro sk pc S xs ρ cl cst h hs; cases hs
  | succ n ih =>
    intro sk pc S xs ρ cl cst h hs hq hR
    unfold arun at hs
    cases hb : (!sk && nt pc S) with
    | true =>
      rw [Bool.and_eq_true] at hb
      obtain ⟨k, r, h', g1, g2⟩ := hn pc S ρ cl cst h hb.2 hq hR
      exact ⟨k, r, h', g1, Or.inr g2⟩
    | false =>
      rw [hb] at hs
      dsimp only [cond_false] at hs
      split at hs
      · cases hs
      · next q ht =>
        obtain ⟨i, len⟩ := q
        split at hs
        · next r hr =>
          cases hs
          obtain ⟨rv, g1, g2⟩ := arets_ok hr hR.1 hR.2.2.1
          exact ⟨1, rv, h, ⟨i, len, ht, Or.inl ⟨g1, rfl⟩⟩, Or.inl ⟨_, List.mem_cons_self, ρ, aext.rf, hR.1, g2, hR.2.2.2.1, hR.2.2.2.2⟩⟩
        · split at hs
          · next os ho =>
            obtain ⟨pc', cl', cst', h1, g1, S', g2, ρ', g3, g4⟩ := astp_ok (ini := ini) hX hG hL ho hR
            obtain ⟨ys, k1, k2⟩ := aseq_ok hs _ g2
            obtain ⟨k, r, h', e1, e2⟩ := ih false pc' S' ys ρ' cl' cst' h1 k1 (hQ _ _ hq g3) g4
            refine ⟨k + 1, r, h', ⟨i, len, ht, Or.inr (Or.inl ⟨pc', cl', cst', h1, g1, e1⟩)⟩, ?_⟩
            rcases e2 with e2 | e2
            · exact Or.inl (e2.mono g3 k2)
            · exact Or.inr e2
          · split at hs
            · next os ho =>
              obtain ⟨cst', g1, o, g2, ρ', g3, g4, g5⟩ := amath_ok ho hR.1 hR.2.2.1
              obtain ⟨ys, k1, k2⟩ := aseq_ok hs _ g2
              obtain ⟨k, r, h', e1, e2⟩ := ih false (pc + 3) _ ys ρ' cl cst' h k1 (hQ _ _ hq g3) ⟨g4, hR.2.1.ext g3, g5, hR.2.2.2.1.ext g3, hR.2.2.2.2.ext g3⟩
              refine ⟨k + 1, r, h', ⟨i, len, ht, Or.inr (Or.inr (Or.inl ⟨cst', g1, e1⟩))⟩, ?_⟩
              rcases e2 with e2 | e2
              · exact Or.inl (e2.mono g3 k2)
              · exact Or.inr e2
            · split at hs
              · next w hw =>
                obtain ⟨mi, as, rest⟩ := w
                split at hs
                · next ys hy =>
                  obtain ⟨vs, cr, g1, g2, g3⟩ := acal_ok (h := h) hX hw hR.1 hR.2.2.2.1.1 hR.2.2.1
                  obtain ⟨r1, h1, c1, x, x1, ρ', x2, x3, x4, x5, x6⟩ := hc mi S.1 as S.2.2.2 ys ρ vs h hy hq hR.1 hR.2.2.2.1 g2 hR.2.2.2.2
                  obtain ⟨zs, k1, k2⟩ := aseq_ok hs _ x1
                  have hst' : aSt ρ' (x.2.1.toList ++ rest) (r1.toList ++ cr) := by
                    cases hx : x.2.1 with
                    | none =>
                      rw [hx] at x4
                      rw [show r1 = none from x4]
                      exact g3.ext x2
                    | some a =>
                      rw [hx] at x4
                      obtain ⟨v, e1, e2⟩ := x4
                      rw [e1]
                      exact ⟨v, cr, rfl, e2, g3.ext x2⟩
                  obtain ⟨k, r, h', e1, e2⟩ := ih false (pc + 3) _ zs ρ' cl _ h1 k1 (hQ _ _ hq x2) ⟨x3, hR.2.1.ext x2, hst', x5, x6⟩
                  refine ⟨k + 1, r, h', ⟨i, len, ht, Or.inr (Or.inr (Or.inr ⟨mi, vs, cr, r1, h1, g1, c1, e1⟩))⟩, ?_⟩
                  rcases e2 with e2 | e2
                  · exact Or.inl (e2.mono x2 k2)
                  · exact Or.inr e2
                · cases hs
              · cases hs
