/-! Symbols of a note, of a contract's entry or end, in terms of what is known here. -/
def asi (σ : List aV) (s : Nat) (c : Int) : Option (Nat × Int) := match σ[s]? with
  | some (.inl (s', c')) => some (s', c' + c)
  | _ => none
def asu (σ : List aV) (a : aV) : Option aV := match a with
  | .inl (s, c) => match asi σ s c with
    | some p => some (.inl p)
    | none => none
  | .inr (.inl s) => match σ[s]? with
    | some (.inr (.inl s')) => some (.inr (.inl s'))
    | _ => none
  | .inr (.inr (.inl s)) => match σ[s]? with
    | some (.inr (.inr (.inl s'))) => some (.inr (.inr (.inl s')))
    | _ => none
  | .inr (.inr (.inr k)) => some (.inr (.inr (.inr k)))
def asuk (σ : List aV) (q : aK) : Option aK := match σ[q.1]? with
  | some (.inr (.inr (.inl r))) => match asi σ q.2.1 q.2.2 with
    | some p => some (r, p)
    | none => none
  | _ => none
def adn (ρ : List Int) (a : aV) (z : Int) : Prop := match a with
  | .inl (s, c) => ∃ w : Int, ρ[s]? = some w ∧ Int32.ofInt z = Int32.ofInt (w + c) ∧ (z = w + c ∨ z = (Int32.ofInt (w + c)).toInt)
  | .inr (.inl s) => ρ[s]? = some z
  | .inr (.inr (.inl s)) => ρ[s]? = some z
  | _ => False
theorem adn.ext {ρ ρ' : List Int} (hx : aext ρ ρ') {a : aV} {z : Int} (h : adn ρ a z) : adn ρ' a z := by
  rcases a with ⟨s, c⟩ | s | s | k
  · obtain ⟨w, h1, h2⟩ := h
    exact ⟨w, hx.get h1, h2⟩
  · exact hx.get h
  · exact hx.get h
  · exact h
def asg (ρ : List Int) (σ : List aV) (ρc : List Int) : Prop := σ.length = ρc.length ∧ ∀ (i : Nat) (a : aV) (z : Int), σ[i]? = some a → ρc[i]? = some z → adn ρ a z
theorem asg.ext {ρ ρ' : List Int} (hx : aext ρ ρ') {σ : List aV} {ρc : List Int} (h : asg ρ σ ρc) : asg ρ' σ ρc := ⟨h.1, fun i a z h1 h2 => (h.2 i a z h1 h2).ext hx⟩
theorem asg.has {ρ : List Int} {σ : List aV} {ρc : List Int} (h : asg ρ σ ρc) {i : Nat} {a : aV} (hi : σ[i]? = some a) : ∃ z, ρc[i]? = some z ∧ adn ρ a z := by
  have hl := (List.getElem?_eq_some_iff.mp hi).1
  have h1 : ρc[i]? = some (ρc[i]'(by rw [← h.1]; exact hl)) := List.getElem?_eq_getElem _
  exact ⟨_, h1, h.2 i a _ hi h1⟩
theorem asg.push {ρ : List Int} {σ : List aV} {ρc : List Int} {a : aV} {z : Int} (h : asg ρ σ ρc) (ha : adn ρ a z) : asg ρ (σ ++ [a]) (ρc ++ [z]) := by
  refine ⟨by rw [List.length_append, List.length_append, h.1]; rfl, fun i b y h1 h2 => ?_⟩
  by_cases hi : i < σ.length
  · rw [List.getElem?_append_left hi] at h1
    rw [List.getElem?_append_left (by rw [← h.1]; exact hi)] at h2
    exact h.2 i b y h1 h2
  · have hi' : i = σ.length := by
      have := (List.getElem?_eq_some_iff.mp h1).1
      simp at this
      omega
    subst hi'
    rw [List.getElem?_append_right (Nat.le_refl _)] at h1
    rw [List.getElem?_append_right (by rw [h.1]; exact Nat.le_refl _)] at h2
    simp [h.1] at h1 h2
    subst h1 h2
    exact ha
theorem asi_f {ρ : List Int} {σ : List aV} {ρc : List Int} {s s' : Nat} {c c' : Int} {x : Int32} (h : asg ρ σ ρc) (hs : asi σ s c = some (s', c')) (hx : ai ρc s c x) : ai ρ s' c' x := by
  unfold asi at hs
  split at hs
  · next a b hσ =>
    cases hs
    obtain ⟨z, h1, h2⟩ := hx
    obtain ⟨w, g1, g2, -⟩ := h.2 _ _ _ hσ h1
    refine ⟨w, g1, ?_⟩
    rw [h2, Int32.ofInt_add, g2, ← Int32.ofInt_add, Int.add_assoc]
  · cases hs
theorem asi_b {ρ : List Int} {σ : List aV} {ρc : List Int} {s s' : Nat} {c c' : Int} {x : Int32} (h : asg ρ σ ρc) (hs : asi σ s c = some (s', c')) (hx : ai ρ s' c' x) : ai ρc s c x := by
  unfold asi at hs
  split at hs
  · next a b hσ =>
    cases hs
    obtain ⟨z, h1, w, g1, g2, -⟩ := h.has hσ
    obtain ⟨y, h3, h4⟩ := hx
    rw [g1] at h3
    cases h3
    refine ⟨z, h1, ?_⟩
    rw [h4, Int32.ofInt_add z c, g2, ← Int32.ofInt_add, Int.add_assoc]
  · cases hs
theorem asu_f {ρ : List Int} {σ : List aV} {ρc : List Int} {a b : aV} {v : Value} (h : asg ρ σ ρc) (hs : asu σ a = some b) (hv : av ρc a v) : av ρ b v := by
  rcases a with ⟨s, c⟩ | s | s | k
  · dsimp only [asu] at hs
    split at hs
    · next p hp =>
      cases hs
      obtain ⟨x, h1, h2⟩ := hv
      exact ⟨x, asi_f h hp h1, h2⟩
    · cases hs
  · dsimp only [asu] at hs
    split at hs
    · next s' hσ =>
      cases hs
      obtain ⟨z, h1, h2⟩ := hv
      exact ⟨z, h.2 _ _ _ hσ h1, h2⟩
    · cases hs
  · dsimp only [asu] at hs
    split at hs
    · next s' hσ =>
      cases hs
      obtain ⟨z, h1, h2⟩ := hv
      exact ⟨z, h.2 _ _ _ hσ h1, h2⟩
    · cases hs
  · cases hs
    exact hv
theorem asu_b {ρ : List Int} {σ : List aV} {ρc : List Int} {a b : aV} {v : Value} (h : asg ρ σ ρc) (hs : asu σ a = some b) (hv : av ρ b v) : av ρc a v := by
  rcases a with ⟨s, c⟩ | s | s | k
  · dsimp only [asu] at hs
    split at hs
    · next p hp =>
      cases hs
      obtain ⟨x, h1, h2⟩ := hv
      exact ⟨x, asi_b h hp h1, h2⟩
    · cases hs
  · dsimp only [asu] at hs
    split at hs
    · next s' hσ =>
      cases hs
      obtain ⟨z, h1, h2⟩ := hv
      obtain ⟨w, g1, g2⟩ := h.has hσ
      have g2 : ρ[s']? = some w := g2
      rw [g2] at h1
      cases h1
      exact ⟨z, g1, h2⟩
    · cases hs
  · dsimp only [asu] at hs
    split at hs
    · next s' hσ =>
      cases hs
      obtain ⟨z, h1, h2⟩ := hv
      obtain ⟨w, g1, g2⟩ := h.has hσ
      have g2 : ρ[s']? = some w := g2
      rw [g2] at h1
      cases h1
      exact ⟨z, g1, h2⟩
    · cases hs
  · cases hs
    exact hv
theorem asuk_f {ρ : List Int} {σ : List aV} {ρc : List Int} {q q' : aK} {a k : Nat} (h : asg ρ σ ρc) (hs : asuk σ q = some q') (hd : aden ρc q a k) : aden ρ q' a k := by
  unfold asuk at hs
  split at hs
  · next r hr =>
    split at hs
    · next p hp =>
      cases hs
      obtain ⟨h1, x, h2, h3⟩ := hd
      exact ⟨h.2 _ _ _ hr h1, x, asi_f h hp h2, h3⟩
    · cases hs
  · cases hs
theorem asuk_b {ρ : List Int} {σ : List aV} {ρc : List Int} {q q' : aK} {a k : Nat} (h : asg ρ σ ρc) (hs : asuk σ q = some q') (hd : aden ρ q' a k) : aden ρc q a k := by
  unfold asuk at hs
  split at hs
  · next r hr =>
    split at hs
    · next p hp =>
      cases hs
      obtain ⟨h1, x, h2, h3⟩ := hd
      obtain ⟨w, g1, g2⟩ := h.has hr
      have g2 : ρ[r]? = some w := g2
      have h1 : ρ[r]? = some (a : Int) := h1
      rw [g2] at h1
      cases h1
      exact ⟨g1, x, asi_b h hp h2, h3⟩
    · cases hs
  · cases hs
def aveq (a b : aV) : Bool := match a, b with
  | .inl (s, c), .inl (s', c') => Nat.beq s s' && ieq c c'
  | .inr (.inl s), .inr (.inl s') => Nat.beq s s'
  | .inr (.inr (.inl s)), .inr (.inr (.inl s')) => Nat.beq s s'
  | .inr (.inr (.inr s)), .inr (.inr (.inr s')) => Nat.beq s s'
  | _, _ => false
theorem aveq_ok {a b : aV} (h : aveq a b = true) : a = b := by
  unfold aveq at h
  split at h
  · rw [Bool.and_eq_true] at h
    rw [Nat.eq_of_beq_eq_true h.1, ieq_ok h.2]
  · rw [Nat.eq_of_beq_eq_true h]
  · rw [Nat.eq_of_beq_eq_true h]
  · rw [Nat.eq_of_beq_eq_true h]
  · cases h
/-- the symbols so far have values in these types -/
def aEn (W : aW) (ts : List aY) (ρ : List Int) : Prop := ρ[0]? = some 0 ∧ ∀ (k : Nat) (t : aY) (z : Int), ts[k]? = some t → ρ[k]? = some z → asy W t z
/-- is this a symbol that is bound here, of the kind of the value? -/
def anx (n : Nat) (p a : aV) : Bool := match p, a with
  | .inl (s, c), .inl _ => Nat.beq s n && ieq c 0
  | .inr (.inl s), .inr (.inl _) => Nat.beq s n
  | .inr (.inr (.inl s)), .inr (.inr (.inl _)) => Nat.beq s n
  | _, _ => false
def aty2 (t : aY) : Bool := match t with
  | (2, s, s') => ieq s s'
  | _ => true
def abd (E ts : List aY) (σ : List aV) (p a : aV) : Option (List aV) := bif anx σ.length p a then (match ts[σ.length]? with
  | some t => bif awi E t a && aty2 t then some (σ ++ [a]) else none
  | none => none) else (match asu σ p with
    | some b => bif aveq b a then some σ else none
    | none => none)
theorem abd_ok {W : aW} {E ts : List aY} {ρ : List Int} {σ σ' : List aV} {ρc : List Int} {p a : aV} {v : Value} (hE : aE W E ρ) (hg : asg ρ σ ρc) (hn : aEn W ts ρc) (hs : abd E ts σ p a = some σ') (hv : av ρ a v) : ∃ ρc', aext ρc ρc' ∧ asg ρ σ' ρc' ∧ aEn W ts ρc' ∧ av ρc' p v := by
  unfold abd at hs
  cases hx : anx σ.length p a with
  | true =>
    rw [hx] at hs
    dsimp only [cond_true] at hs
    split at hs
    · next t ht =>
      cases hb : (awi E t a && aty2 t) with
      | false => rw [hb] at hs; cases hs
      | true =>
        rw [hb] at hs
        cases hs
        rw [Bool.and_eq_true] at hb
        have hty := awi_ok hE hb.1 hv
        have key : ∀ z : Int, adn ρ a z → asy W t z → av (ρc ++ [z]) p v → ∃ ρc', aext ρc ρc' ∧ asg ρ (σ ++ [a]) ρc' ∧ aEn W ts ρc' ∧ av ρc' p v := fun z h1 h2 h3 => by
          refine ⟨_, aext.one z, hg.push h1, ⟨(aext.one z).get hn.1, fun k t' z' g1 g2 => ?_⟩, h3⟩
          by_cases hk : k < ρc.length
          · rw [List.getElem?_append_left hk] at g2
            exact hn.2 k t' z' g1 g2
          · have hk' : k = ρc.length := by
              have := (List.getElem?_eq_some_iff.mp g2).1
              simp at this
              omega
            rw [hk', ← hg.1, ht] at g1
            rw [hk'] at g2
            simp at g2
            cases g1
            rw [← g2]
            exact h2
        unfold anx at hx
        split at hx
        · next s c q =>
          obtain ⟨s', c'⟩ := q
          rw [Bool.and_eq_true] at hx
          obtain ⟨x, h1, rfl⟩ := hv
          obtain ⟨n, l, u⟩ := t
          obtain ⟨w, w1, w2⟩ := id h1
          have h5 : asy W (n, l, u) x.toInt := by
            match n, hty with
            | 0, hty =>
              obtain ⟨y, e, h2⟩ := hty
              cases e
              exact h2
            | 1, hty => obtain ⟨y, e, h2⟩ := hty; cases e
            | 2, hty => obtain ⟨y, e, h2⟩ := hty; cases e
          refine key x.toInt ⟨w, w1, by rw [Int32.ofInt_toInt]; exact w2, Or.inr (by rw [← w2])⟩ h5 ⟨x, ⟨x.toInt, ?_, ?_⟩, rfl⟩
          · rw [Nat.eq_of_beq_eq_true hx.1, hg.1]
            exact anew_get _
          · rw [ieq_ok hx.2, Int.add_zero, Int32.ofInt_toInt]
        · next s q =>
          obtain ⟨z, h1, rfl⟩ := hv
          obtain ⟨n, l, u⟩ := t
          have hz := hE.2.2 q
          have hql : q < E.length := by rw [← hE.1]; exact (List.getElem?_eq_some_iff.mp h1).1
          have h5 : asy W (n, l, u) z := by
            match n, hty, hb with
            | 0, hty, _ => obtain ⟨y, e, h2⟩ := hty; cases e
            | 1, hty, hb =>
              have hb1 : awi E (1, l, u) (.inr (.inl q)) = true := hb.1
              dsimp only [awi] at hb1
              split at hb1
              · next hq0 =>
                cases hq0
                split at hb1
                · next l' u' hq =>
                  obtain ⟨⟨g1, g2⟩, g3⟩ := hE.2.2 _ _ _ hq h1
                  rw [Bool.and_eq_true] at hb1
                  have k1 := ile_iff.mp hb1.1
                  have k2 := ile_iff.mp hb1.2
                  exact ⟨⟨by omega, by omega⟩, g3⟩
                · cases hb1
              · cases hb1
            | 2, hty, _ => obtain ⟨y, e, h2⟩ := hty; cases e
          refine key z h1 h5 ⟨z, ?_, rfl⟩
          rw [Nat.eq_of_beq_eq_true hx, hg.1]
          exact anew_get _
        · next s q =>
          obtain ⟨m, h1, rfl⟩ := hv
          obtain ⟨n, l, u⟩ := t
          have h5 : asy W (n, l, u) (m : Int) := by
            match n, hty, hb with
            | 0, hty, _ => obtain ⟨y, e, h2⟩ := hty; cases e
            | 1, hty, _ => obtain ⟨y, e, h2⟩ := hty; cases e
            | 2, hty, hb =>
              obtain ⟨y, e, h2, h3⟩ := hty
              cases e
              have := ieq_ok hb.2
              exact ⟨m, rfl, h2, by rcases h3 with h3 | h3 <;> omega⟩
          refine key (m : Int) h1 h5 ⟨m, ?_, rfl⟩
          rw [Nat.eq_of_beq_eq_true hx, hg.1]
          exact anew_get _
        · cases hx
    · cases hs
  | false =>
    rw [hx] at hs
    dsimp only [cond_false] at hs
    split at hs
    · next b hb =>
      cases h1 : aveq b a with
      | false => rw [h1] at hs; cases hs
      | true =>
        rw [h1] at hs
        cases hs
        rw [aveq_ok h1] at hb
        exact ⟨ρc, aext.rf, hg, hn, asu_b hg hb hv⟩
    · cases hs
