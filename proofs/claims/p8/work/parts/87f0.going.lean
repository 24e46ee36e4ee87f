/-! A run to marked places as a way, again: it is wanted ahead of go. -/
theorem arun_gq {W : aW} {G : aG} {Pt : aPt} {D : List aD} {h0 : zH} {Y X : zX} {I : zI} {mcl : Nat → Nat} {C : zC} {Q : List Int → Prop} {cal : Nat → List aY → List aV → aM → Option (List aXt)} {nt : Nat → aS → Bool} {c nL : Nat} {ini : Bool} {rt : Option FieldType} {tab : Nat → Option (Instr × Nat)} (hX : aXX Y X) (hG : aGok W G Pt) (hL : ∀ s : Nat, (afm W s).2.2.1 < 1000000) (hQ : ∀ ρ ρ' : List Int, Q ρ → aext ρ ρ' → Q ρ') (hc : aCal W G D h0 C Q cal) : ∀ (n : Nat) (sk : Bool) (pc : Nat) (S : aS) (ρ : List Int) (cl : zL) (cst : List Value) (h : zH), arun (Y, I, mcl, W, Pt, D) cal nt c nL rt tab n sk pc S = some [] → Q ρ → aRel W G D h0 ρ S cl cst h → ∃ (k pc' : Nat) (S' : aS) (ρ' : List Int) (cl' : zL) (cst' : List Value) (h' : zH), zGo X I mcl C c ini nL tab k (pc, cl, cst, h) (pc', cl', cst', h') ∧ nt pc' S' = true ∧ Q ρ' ∧ aext ρ ρ' ∧ aRel W G D h0 ρ' S' cl' cst' h' := by
  intro n
  induction n with
  | zero => intro sk pc S ρ cl cst h hs; cases hs
  | succ n ih =>
    intro sk pc S ρ cl cst h hs hq hR
    unfold arun at hs
    cases hb : (!sk && nt pc S) with
    | true =>
      rw [Bool.and_eq_true] at hb
      exact ⟨0, pc, S, ρ, cl, cst, h, rfl, hb.2, hq, aext.rf, hR⟩
    | false =>
      rw [hb] at hs
      dsimp only [cond_false] at hs
      split at hs
      · cases hs
      · next q ht =>
        obtain ⟨i, len⟩ := q
        split at hs
        · next r hr => cases hs
        · split at hs
          · next os ho =>
            obtain ⟨pc', cl', cst', h1, g1, S', g2, ρ', g3, g4⟩ := astp_ok (ini := ini) hX hG hL ho hR
            obtain ⟨ys, k1, k2⟩ := aseq_ok hs _ g2
            have e0 : ys = [] := by
              cases ys with
              | nil => rfl
              | cons a r => cases k2 a List.mem_cons_self
            rw [e0] at k1
            obtain ⟨k, p2, S2, ρ2, cl2, cst2, h2, e1, e2, e3, e4, e5⟩ := ih false pc' S' ρ' cl' cst' h1 k1 (hQ _ _ hq g3) g4
            exact ⟨k + 1, p2, S2, ρ2, cl2, cst2, h2, ⟨i, len, ht, Or.inl ⟨_, g1, e1⟩⟩, e2, e3, g3.trans e4, e5⟩
          · split at hs
            · next os ho =>
              obtain ⟨cst', g1, o, g2, ρ', g3, g4, g5⟩ := amath_ok ho hR.1 hR.2.2.1
              obtain ⟨ys, k1, k2⟩ := aseq_ok hs _ g2
              have e0 : ys = [] := by
                cases ys with
                | nil => rfl
                | cons a r => cases k2 a List.mem_cons_self
              rw [e0] at k1
              obtain ⟨k, p2, S2, ρ2, cl2, cst2, h2, e1, e2, e3, e4, e5⟩ := ih false (pc + 3) _ ρ' cl cst' h k1 (hQ _ _ hq g3) ⟨g4, hR.2.1.ext g3, g5, hR.2.2.2.1.ext g3, hR.2.2.2.2.ext g3⟩
              exact ⟨k + 1, p2, S2, ρ2, cl2, cst2, h2, ⟨i, len, ht, Or.inr (Or.inl ⟨cst', g1, e1⟩)⟩, e2, e3, g3.trans e4, e5⟩
            · split at hs
              · next w hw =>
                obtain ⟨mi, as, rest⟩ := w
                split at hs
                · next ys hy =>
                  obtain ⟨vs, cr, g1, g2, g3⟩ := acal_ok (h := h) hX hw hR.1 hR.2.2.2.1.1 hR.2.2.1
                  obtain ⟨r1, h1, c1, x, x1, ρ', x2, x3, x4, x5, x6⟩ := hc mi S.1 as S.2.2.2 ys ρ vs h hy hq hR.1 hR.2.2.2.1 g2 hR.2.2.2.2
                  obtain ⟨zs, k1, k2⟩ := aseq_ok hs _ x1
                  have e0 : zs = [] := by
                    cases zs with
                    | nil => rfl
                    | cons a r => cases k2 a List.mem_cons_self
                  rw [e0] at k1
                  have hst' : aSt ρ' (x.2.1.toList ++ rest) (r1.toList ++ cr) := by
                    cases hx : x.2.1 with
                    | none =>
                      rw [hx] at x4
                      rw [show r1 = none from x4]
                      exact g3.ext x2
                    | some a =>
                      rw [hx] at x4
                      obtain ⟨v, e1, e2⟩ := x4
                      rw [e1]
                      exact ⟨v, cr, rfl, e2, g3.ext x2⟩
                  obtain ⟨k, p2, S2, ρ2, cl2, cst2, h2, e1, e2, e3, e4, e5⟩ := ih false (pc + 3) _ ρ' cl _ h1 k1 (hQ _ _ hq x2) ⟨x3, hR.2.1.ext x2, hst', x5, x6⟩
                  exact ⟨k + 1, p2, S2, ρ2, cl2, cst2, h2, ⟨i, len, ht, Or.inr (Or.inr ⟨mi, vs, cr, r1, h1, g1, c1, e1⟩)⟩, e2, e3, x2.trans e4, e5⟩
                · cases hs
              · cases hs
/-! The class's rider: it comes to one of its throws, or to a return with an int; nothing is written. -/
theorem anil_nq {α : Type} {l : List α} (h : anil l = true) : l = [] := by
  cases l with
  | nil => rfl
  | cons a r => cases h
