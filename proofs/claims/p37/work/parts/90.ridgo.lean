/-! A run up to marked places (a return, a throw), as a way of our machine; the class's rider. -/
set_option maxHeartbeats 1000000 in
theorem arun_go {W : aW} {G : aG} {Pt : aPt} {D : List aD} {h0 : zH} {Y X : zX} {I : zI} {mcl : Nat → Nat} {C : zC} {Q : List Int → Prop} {cal : Nat → List aY → List aV → aM → Option (List aXt)} {nt : Nat → aS → Bool} {c nL : Nat} {ini : Bool} {rt : Option FieldType} {tab : Nat → Option (Instr × Nat)} (hX : aXX Y X) (hG : aGok W G Pt) (hL : ∀ s : Nat, (afm W s).2.2.1 < 1000000) (hQ : ∀ ρ ρ' : List Int, Q ρ → aext ρ ρ' → Q ρ') (hc : aCal W G D h0 C Q cal) : ∀ (n : Nat) (sk : Bool) (pc : Nat) (S : aS) (ρ : List Int) (cl : zL) (cst : List Value) (h : zH), arun (Y, I, mcl, W, Pt, D) cal nt c nL rt tab n sk pc S = some [] → Q ρ → aRel W G D h0 ρ S cl cst h → ∃ (k pc' : Nat) (S' : aS) (ρ' : List Int) (cl' : zL) (cst' : List Value) (h' : zH), zGo X I mcl C c ini nL tab k (pc, cl, cst, h) (pc', cl', cst', h') ∧ nt pc' S' = true ∧ Q ρ' ∧ aext ρ ρ' ∧ aRel W G D h0 ρ' S' cl' cst' h' := by
  intro n
  induction n with
  | zero => intro sk pc S ρ cl cst h hs; cases hs
  | succ n ih =>
    intro sk pc S ρ cl cst h hs hq hR
    unfold arun at hs
    cases hb : (!sk && nt pc S) with
    | true =>
      rw [Bool.and_eq_true] at hb
      exact ⟨0, pc, S, ρ, cl, cst, h, rfl, hb.2, hq, aext.rf, hR⟩
    | false =>
      rw [hb] at hs
      dsimp only [cond_false] at hs
      split at hs
      · cases hs
      · next q ht =>
        obtain ⟨i, len⟩ := q
        split at hs
        · next r hr => cases hs
        · split at hs
          · next os ho =>
            obtain ⟨pc', cl', cst', h1, g1, S', g2, ρ', g3, g4⟩ := astp_ok (ini := ini) hX hG hL ho hR
            obtain ⟨ys, k1, k2⟩ := aseq_ok hs _ g2
            have e0 : ys = [] := by
              cases ys with
              | nil => rfl
              | cons a r => cases k2 a List.mem_cons_self
            rw [e0] at k1
            obtain ⟨k, p2, S2, ρ2, cl2, cst2, h2, e1, e2, e3, e4, e5⟩ := ih false pc' S' ρ' cl' cst' h1 k1 (hQ _ _ hq g3) g4
            exact ⟨k + 1, p2, S2, ρ2, cl2, cst2, h2, ⟨i, len, ht, Or.inl ⟨_, g1, e1⟩⟩, e2, e3, g3.trans e4, e5⟩
          · split at hs
            · next os ho =>
              obtain ⟨cst', g1, o, g2, ρ', g3, g4, g5⟩ := amath_ok ho hR.1 hR.2.2.1
              obtain ⟨ys, k1, k2⟩ := aseq_ok hs _ g2
              have e0 : ys = [] := by
                cases ys with
                | nil => rfl
                | cons a r => cases k2 a List.mem_cons_self
              rw [e0] at k1
              obtain ⟨k, p2, S2, ρ2, cl2, cst2, h2, e1, e2, e3, e4, e5⟩ := ih false (pc + 3) _ ρ' cl cst' h k1 (hQ _ _ hq g3) ⟨g4, hR.2.1.ext g3, g5, hR.2.2.2.1.ext g3, hR.2.2.2.2.ext g3⟩
              exact ⟨k + 1, p2, S2, ρ2, cl2, cst2, h2, ⟨i, len, ht, Or.inr (Or.inl ⟨cst', g1, e1⟩)⟩, e2, e3, g3.trans e4, e5⟩
            · split at hs
              · next w hw =>
                obtain ⟨mi, as, rest⟩ := w
                split at hs
                · next ys hy =>
                  obtain ⟨vs, cr, g1, g2, g3⟩ := acal_ok (h := h) hX hw hR.1 hR.2.2.2.1.1 hR.2.2.1
                  obtain ⟨r1, h1, c1, x, x1, ρ', x2, x3, x4, x5, x6⟩ := hc mi S.1 as S.2.2.2 ys ρ vs h hy hq hR.1 hR.2.2.2.1 g2 hR.2.2.2.2
                  obtain ⟨zs, k1, k2⟩ := aseq_ok hs _ x1
                  have e0 : zs = [] := by
                    cases zs with
                    | nil => rfl
                    | cons a r => cases k2 a List.mem_cons_self
                  rw [e0] at k1
                  have hst' : aSt ρ' (x.2.1.toList ++ rest) (r1.toList ++ cr) := by
                    cases hx : x.2.1 with
                    | none =>
                      rw [hx] at x4
                      rw [show r1 = none from x4]
                      exact g3.ext x2
                    | some a =>
                      rw [hx] at x4
                      obtain ⟨v, e1, e2⟩ := x4
                      rw [e1]
                      exact ⟨v, cr, rfl, e2, g3.ext x2⟩
                  obtain ⟨k, p2, S2, ρ2, cl2, cst2, h2, e1, e2, e3, e4, e5⟩ := ih false (pc + 3) _ ρ' cl _ h1 k1 (hQ _ _ hq x2) ⟨x3, hR.2.1.ext x2, hst', x5, x6⟩
                  exact ⟨k + 1, p2, S2, ρ2, cl2, cst2, h2, ⟨i, len, ht, Or.inr (Or.inr ⟨mi, vs, cr, r1, h1, g1, c1, e1⟩)⟩, e2, e3, x2.trans e4, e5⟩
                · cases hs
              · cases hs
/-! The class's rider: it comes to one of its throws, or to a return with an int; nothing is written. -/
def ridP : aP := (qY, zIT, zmcl, qW, qPt, [])
def ridr (pc : Nat) : Bool := Nat.beq pc 88 || (Nat.beq pc 93 || (Nat.beq pc 98 || (Nat.beq pc 111 || (Nat.beq pc 116 || (Nat.beq pc 129 || (Nat.beq pc 134 || Nat.beq pc 139))))))
def rid1i (st : List aV) : Bool := match st with
  | [.inl _] => true
  | _ => false
def ridn (pc : Nat) (S : aS) : Bool := (((Nat.beq pc 8 || Nat.beq pc 140) && anil S.2.2.1) || (ridr pc && rid1i S.2.2.1)) && (akill qW S.1 (fun _ => false) S.2.2.2).isSome
def rid0 : aS := ([(0, 0, 0), (2, 0, 0), (0, -2147483648, 2147483647), (0, -2147483648, 2147483647)], [(0, .inr (.inr (.inl 1))), (1, .inl (2, 0)), (2, .inl (3, 0))], [], [])
def ridck : Bool := match zMt 106 with
  | some w => match arun ridP (acals ridP zMt qKB qK0 (0, []) 6) ridn w.1 w.2.2.1 w.2.2.2.1 w.2.2.2.2 300 true 0 rid0 with
    | some [] => true
    | _ => false
  | none => false
theorem ridck_ok : ridck = true := by decide +kernel
theorem yR106 : zMt 106 = some (10, false, 4, some .int, zt106) := rfl
theorem anil_ok {α : Type} {l : List α} (h : anil l = true) : l = [] := by
  cases l with
  | nil => rfl
  | cons a r => cases h
theorem ridgo {nf : Bool} {xs : List Int32} {h : zH} (hI : lInq h) (p0 p1 : Int32) : ∃ (n pc : Nat) (cl : zL) (cst : List Value) (h' : zH), zGo (zXt nf xs) zIT zmcl (zEv (zXt nf xs) zIT zmcl zMt 1000) 10 false 4 zt106 n (0, lv_args 0 [.ref 0, .int p0, .int p1], [], h) (pc, cl, cst, h') ∧ lInq h' ∧ h'.length = h.length ∧ ((pc = 8 ∧ cst = []) ∨ (pc = 140 ∧ cst = []) ∨ (ridr pc = true ∧ ∃ z : Int32, cst = [.int z])) := by
  obtain ⟨⟨hH, x, x1, x2⟩, hXL⟩ := hI
  have hX := qXX nf xs
  have hK : ∀ (mi : Nat) (q : aQ), q ∈ qKB mi → q.1 = mi ∧ aCon qW qG (zEv (zXt nf xs) zIT zmcl zMt 994) q (fun _ => True) := fun mi q hq => ⟨(qB_ok nf xs mi q hq).1, (qB_ok nf xs mi q hq).2.mono (fun _ _ _ _ _ z => zEv_le (by decide) z)⟩
  have hE : aE qW rid0.1 [0, 0, p0.toInt, p1.toInt] := ((aE0.push (t := (2, 0, 0)) (z := 0) (asR (so := 0) (c := 0) (by decide +kernel) (by decide +kernel))).push (t := (0, -2147483648, 2147483647)) (z := p0.toInt) (ab p0)).push (t := (0, -2147483648, 2147483647)) (z := p1.toInt) (ab p1)
  have hcal := acals_dp (h0 := h) (D := []) (ms0 := (0, [])) (ρ0 := [0, 0, p0.toInt, p1.toInt]) hX qGok qL (fun t ht => by cases ht) hK (Kn := qK0) (fun mi q hq => by cases hq) 6
  have hck := ridck_ok
  unfold ridck at hck
  rw [yR106] at hck
  dsimp only at hck
  split at hck
  · next ho =>
    have hst : aSt [0, 0, p0.toInt, p1.toInt] [.inr (.inr (.inl 1)), .inl (2, 0), .inl (3, 0)] [.ref 0, .int p0, .int p1] := ⟨_, _, rfl, ⟨0, rfl, rfl⟩, _, _, rfl, ⟨p0, ⟨p0.toInt, rfl, by rw [Int.add_zero, Int32.ofInt_toInt]⟩, rfl⟩, _, _, rfl, ⟨p1, ⟨p1.toInt, rfl, by rw [Int.add_zero, Int32.ofInt_toInt]⟩, rfl⟩, rfl⟩
    obtain ⟨k, pc', S', ρ', cl', cst', h', e1, e2, -, e3, e4⟩ := arun_go (ini := false) (Q := aext [0, 0, p0.toInt, p1.toInt]) hX qGok qL (fun _ _ a b => a.trans b) hcal 300 true 0 rid0 [0, 0, p0.toInt, p1.toInt] (lv_args 0 [.ref 0, .int p0, .int p1]) [] h ho aext.rf ⟨hE, fun p hp => (aloc_ok _ _ 0 hst p hp).2, rfl, aH_nil hH, aF.rf⟩
    unfold ridn at e2
    rw [Bool.and_eq_true] at e2
    obtain ⟨m', hm'⟩ := Option.isSome_iff_exists.mp e2.2
    obtain ⟨hK1, hK2⟩ := akill_ok e4.1 hm' e4.2.2.2.1
    have e0 : m' = [] := by
      cases m' with
      | nil => rfl
      | cons a r => cases (hK2 a List.mem_cons_self).2
    subst e0
    have hF := e4.2.2.2.2
    refine ⟨k, pc', cl', cst', h', e1, ⟨⟨aH_nil hK1, x, ?_, ?_⟩, lQ_keep hXL (zGo_KT _ _ _ e1 hXL.1.1) (KP_of hF) (by decide +kernel)⟩, hF.1, ?_⟩
    · have := hF.2 0 1 (by decide +kernel) (by decide +kernel) (fun d hd => by cases hd)
      rw [qrdx (qG_off (by decide) (by decide)), qrdx (qG_off (by decide) (by decide)), x1] at this
      exact this
    · have := hF.2 128 2 (by decide +kernel) (by decide +kernel) (fun d hd => by cases hd)
      rw [qrdx (qG_real (by decide +kernel) (by decide +kernel)), qrdx (qG_real (by decide +kernel) (by decide +kernel)), x2] at this
      exact this
    · have hstk := e4.2.2.1
      have e5 := e2.1
      simp only [Bool.or_eq_true, Bool.and_eq_true] at e5
      rcases e5 with ⟨q1 | q1, q2⟩ | ⟨q1, q2⟩
      · rw [anil_ok q2] at hstk
        exact Or.inl ⟨Nat.eq_of_beq_eq_true q1, hstk⟩
      · rw [anil_ok q2] at hstk
        exact Or.inr (Or.inl ⟨Nat.eq_of_beq_eq_true q1, hstk⟩)
      · refine Or.inr (Or.inr ⟨q1, ?_⟩)
        unfold rid1i at q2
        split at q2
        · next v hv =>
          rw [hv] at hstk
          obtain ⟨b, bs, rfl, ⟨z, -, rfl⟩, hbs⟩ := hstk
          exact ⟨z, by rw [show bs = [] from hbs]⟩
        · cases q2
  · cases hck
