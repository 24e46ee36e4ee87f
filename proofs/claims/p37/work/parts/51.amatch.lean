/-! Joined: 51.amatch, 52.amt, 53.acon, 54.acall, 55.arun, 56.aexec, 57.agroup, 58.acheck. -/
section
/-! Symbols of a note, of a contract's entry or end, in terms of what is known here. -/
def asi (σ : List aV) (s : Nat) (c : Int) : Option (Nat × Int) := match σ[s]? with
  | some (.inl (s', c')) => some (s', c' + c)
  | _ => none
def asu (σ : List aV) (a : aV) : Option aV := match a with
  | .inl (s, c) => match asi σ s c with
    | some p => some (.inl p)
    | none => none
  | .inr (.inl s) => match σ[s]? with
    | some (.inr (.inl s')) => some (.inr (.inl s'))
    | _ => none
  | .inr (.inr (.inl s)) => match σ[s]? with
    | some (.inr (.inr (.inl s'))) => some (.inr (.inr (.inl s')))
    | _ => none
  | .inr (.inr (.inr k)) => some (.inr (.inr (.inr k)))
def asuk (σ : List aV) (q : aK) : Option aK := match σ[q.1]? with
  | some (.inr (.inr (.inl r))) => match asi σ q.2.1 q.2.2 with
    | some p => some (r, p)
    | none => none
  | _ => none
def adn (ρ : List Int) (a : aV) (z : Int) : Prop := match a with
  | .inl (s, c) => ∃ w : Int, ρ[s]? = some w ∧ Int32.ofInt z = Int32.ofInt (w + c) ∧ (z = w + c ∨ z = (Int32.ofInt (w + c)).toInt)
  | .inr (.inl s) => ρ[s]? = some z
  | .inr (.inr (.inl s)) => ρ[s]? = some z
  | _ => False
theorem adn.ext {ρ ρ' : List Int} (hx : aext ρ ρ') {a : aV} {z : Int} (h : adn ρ a z) : adn ρ' a z := by
  rcases a with ⟨s, c⟩ | s | s | k
  · obtain ⟨w, h1, h2⟩ := h
    exact ⟨w, hx.get h1, h2⟩
  · exact hx.get h
  · exact hx.get h
  · exact h
def asg (ρ : List Int) (σ : List aV) (ρc : List Int) : Prop := σ.length = ρc.length ∧ ∀ (i : Nat) (a : aV) (z : Int), σ[i]? = some a → ρc[i]? = some z → adn ρ a z
theorem asg.ext {ρ ρ' : List Int} (hx : aext ρ ρ') {σ : List aV} {ρc : List Int} (h : asg ρ σ ρc) : asg ρ' σ ρc := ⟨h.1, fun i a z h1 h2 => (h.2 i a z h1 h2).ext hx⟩
theorem asg.has {ρ : List Int} {σ : List aV} {ρc : List Int} (h : asg ρ σ ρc) {i : Nat} {a : aV} (hi : σ[i]? = some a) : ∃ z, ρc[i]? = some z ∧ adn ρ a z := by
  have hl := (List.getElem?_eq_some_iff.mp hi).1
  have h1 : ρc[i]? = some (ρc[i]'(by rw [← h.1]; exact hl)) := List.getElem?_eq_getElem _
  exact ⟨_, h1, h.2 i a _ hi h1⟩
theorem asg.push {ρ : List Int} {σ : List aV} {ρc : List Int} {a : aV} {z : Int} (h : asg ρ σ ρc) (ha : adn ρ a z) : asg ρ (σ ++ [a]) (ρc ++ [z]) := by
  refine ⟨by rw [List.length_append, List.length_append, h.1]; rfl, fun i b y h1 h2 => ?_⟩
  by_cases hi : i < σ.length
  · rw [List.getElem?_append_left hi] at h1
    rw [List.getElem?_append_left (by rw [← h.1]; exact hi)] at h2
    exact h.2 i b y h1 h2
  · have hi' : i = σ.length := by
      have := (List.getElem?_eq_some_iff.mp h1).1
      simp at this
      omega
    subst hi'
    rw [List.getElem?_append_right (Nat.le_refl _)] at h1
    rw [List.getElem?_append_right (by rw [h.1]; exact Nat.le_refl _)] at h2
    simp [h.1] at h1 h2
    subst h1 h2
    exact ha
theorem asi_f {ρ : List Int} {σ : List aV} {ρc : List Int} {s s' : Nat} {c c' : Int} {x : Int32} (h : asg ρ σ ρc) (hs : asi σ s c = some (s', c')) (hx : ai ρc s c x) : ai ρ s' c' x := by
  unfold asi at hs
  split at hs
  · next a b hσ =>
    cases hs
    obtain ⟨z, h1, h2⟩ := hx
    obtain ⟨w, g1, g2, -⟩ := h.2 _ _ _ hσ h1
    refine ⟨w, g1, ?_⟩
    rw [h2, Int32.ofInt_add, g2, ← Int32.ofInt_add, Int.add_assoc]
  · cases hs
theorem asi_b {ρ : List Int} {σ : List aV} {ρc : List Int} {s s' : Nat} {c c' : Int} {x : Int32} (h : asg ρ σ ρc) (hs : asi σ s c = some (s', c')) (hx : ai ρ s' c' x) : ai ρc s c x := by
  unfold asi at hs
  split at hs
  · next a b hσ =>
    cases hs
    obtain ⟨z, h1, w, g1, g2, -⟩ := h.has hσ
    obtain ⟨y, h3, h4⟩ := hx
    rw [g1] at h3
    cases h3
    refine ⟨z, h1, ?_⟩
    rw [h4, Int32.ofInt_add z c, g2, ← Int32.ofInt_add, Int.add_assoc]
  · cases hs
theorem asu_f {ρ : List Int} {σ : List aV} {ρc : List Int} {a b : aV} {v : Value} (h : asg ρ σ ρc) (hs : asu σ a = some b) (hv : av ρc a v) : av ρ b v := by
  rcases a with ⟨s, c⟩ | s | s | k
  · dsimp only [asu] at hs
    split at hs
    · next p hp =>
      cases hs
      obtain ⟨x, h1, h2⟩ := hv
      exact ⟨x, asi_f h hp h1, h2⟩
    · cases hs
  · dsimp only [asu] at hs
    split at hs
    · next s' hσ =>
      cases hs
      obtain ⟨z, h1, h2⟩ := hv
      exact ⟨z, h.2 _ _ _ hσ h1, h2⟩
    · cases hs
  · dsimp only [asu] at hs
    split at hs
    · next s' hσ =>
      cases hs
      obtain ⟨z, h1, h2⟩ := hv
      exact ⟨z, h.2 _ _ _ hσ h1, h2⟩
    · cases hs
  · cases hs
    exact hv
theorem asu_b {ρ : List Int} {σ : List aV} {ρc : List Int} {a b : aV} {v : Value} (h : asg ρ σ ρc) (hs : asu σ a = some b) (hv : av ρ b v) : av ρc a v := by
  rcases a with ⟨s, c⟩ | s | s | k
  · dsimp only [asu] at hs
    split at hs
    · next p hp =>
      cases hs
      obtain ⟨x, h1, h2⟩ := hv
      exact ⟨x, asi_b h hp h1, h2⟩
    · cases hs
  · dsimp only [asu] at hs
    split at hs
    · next s' hσ =>
      cases hs
      obtain ⟨z, h1, h2⟩ := hv
      obtain ⟨w, g1, g2⟩ := h.has hσ
      have g2 : ρ[s']? = some w := g2
      rw [g2] at h1
      cases h1
      exact ⟨z, g1, h2⟩
    · cases hs
  · dsimp only [asu] at hs
    split at hs
    · next s' hσ =>
      cases hs
      obtain ⟨z, h1, h2⟩ := hv
      obtain ⟨w, g1, g2⟩ := h.has hσ
      have g2 : ρ[s']? = some w := g2
      rw [g2] at h1
      cases h1
      exact ⟨z, g1, h2⟩
    · cases hs
  · cases hs
    exact hv
theorem asuk_f {ρ : List Int} {σ : List aV} {ρc : List Int} {q q' : aK} {a k : Nat} (h : asg ρ σ ρc) (hs : asuk σ q = some q') (hd : aden ρc q a k) : aden ρ q' a k := by
  unfold asuk at hs
  split at hs
  · next r hr =>
    split at hs
    · next p hp =>
      cases hs
      obtain ⟨h1, x, h2, h3⟩ := hd
      exact ⟨h.2 _ _ _ hr h1, x, asi_f h hp h2, h3⟩
    · cases hs
  · cases hs
theorem asuk_b {ρ : List Int} {σ : List aV} {ρc : List Int} {q q' : aK} {a k : Nat} (h : asg ρ σ ρc) (hs : asuk σ q = some q') (hd : aden ρ q' a k) : aden ρc q a k := by
  unfold asuk at hs
  split at hs
  · next r hr =>
    split at hs
    · next p hp =>
      cases hs
      obtain ⟨h1, x, h2, h3⟩ := hd
      obtain ⟨w, g1, g2⟩ := h.has hr
      have g2 : ρ[r]? = some w := g2
      have h1 : ρ[r]? = some (a : Int) := h1
      rw [g2] at h1
      cases h1
      exact ⟨g1, x, asi_b h hp h2, h3⟩
    · cases hs
  · cases hs
def aveq (a b : aV) : Bool := match a, b with
  | .inl (s, c), .inl (s', c') => Nat.beq s s' && ieq c c'
  | .inr (.inl s), .inr (.inl s') => Nat.beq s s'
  | .inr (.inr (.inl s)), .inr (.inr (.inl s')) => Nat.beq s s'
  | .inr (.inr (.inr s)), .inr (.inr (.inr s')) => Nat.beq s s'
  | _, _ => false
theorem aveq_ok {a b : aV} (h : aveq a b = true) : a = b := by
  unfold aveq at h
  split at h
  · rw [Bool.and_eq_true] at h
    rw [Nat.eq_of_beq_eq_true h.1, ieq_ok h.2]
  · rw [Nat.eq_of_beq_eq_true h]
  · rw [Nat.eq_of_beq_eq_true h]
  · rw [Nat.eq_of_beq_eq_true h]
  · cases h
/-- the symbols so far have values in these types -/
def aEn (W : aW) (ts : List aY) (ρ : List Int) : Prop := ρ[0]? = some 0 ∧ ∀ (k : Nat) (t : aY) (z : Int), ts[k]? = some t → ρ[k]? = some z → asy W t z
/-- is this a symbol that is bound here, of the kind of the value? -/
def anx (n : Nat) (p a : aV) : Bool := match p, a with
  | .inl (s, c), .inl _ => Nat.beq s n && ieq c 0
  | .inr (.inl s), .inr (.inl _) => Nat.beq s n
  | .inr (.inr (.inl s)), .inr (.inr (.inl _)) => Nat.beq s n
  | _, _ => false
def aty2 (t : aY) : Bool := match t with
  | (2, s, s') => ieq s s'
  | _ => true
def abd (E ts : List aY) (σ : List aV) (p a : aV) : Option (List aV) := bif anx σ.length p a then (match ts[σ.length]? with
  | some t => bif awi E t a && aty2 t then some (σ ++ [a]) else none
  | none => none) else (match asu σ p with
    | some b => bif aveq b a then some σ else none
    | none => none)
theorem abd_ok {W : aW} {E ts : List aY} {ρ : List Int} {σ σ' : List aV} {ρc : List Int} {p a : aV} {v : Value} (hE : aE W E ρ) (hg : asg ρ σ ρc) (hn : aEn W ts ρc) (hs : abd E ts σ p a = some σ') (hv : av ρ a v) : ∃ ρc', aext ρc ρc' ∧ asg ρ σ' ρc' ∧ aEn W ts ρc' ∧ av ρc' p v := by
  unfold abd at hs
  cases hx : anx σ.length p a with
  | true =>
    rw [hx] at hs
    dsimp only [cond_true] at hs
    split at hs
    · next t ht =>
      cases hb : (awi E t a && aty2 t) with
      | false => rw [hb] at hs; cases hs
      | true =>
        rw [hb] at hs
        cases hs
        rw [Bool.and_eq_true] at hb
        have hty := awi_ok hE hb.1 hv
        have key : ∀ z : Int, adn ρ a z → asy W t z → av (ρc ++ [z]) p v → ∃ ρc', aext ρc ρc' ∧ asg ρ (σ ++ [a]) ρc' ∧ aEn W ts ρc' ∧ av ρc' p v := fun z h1 h2 h3 => by
          refine ⟨_, aext.one z, hg.push h1, ⟨(aext.one z).get hn.1, fun k t' z' g1 g2 => ?_⟩, h3⟩
          by_cases hk : k < ρc.length
          · rw [List.getElem?_append_left hk] at g2
            exact hn.2 k t' z' g1 g2
          · have hk' : k = ρc.length := by
              have := (List.getElem?_eq_some_iff.mp g2).1
              simp at this
              omega
            rw [hk', ← hg.1, ht] at g1
            rw [hk'] at g2
            simp at g2
            cases g1
            rw [← g2]
            exact h2
        unfold anx at hx
        split at hx
        · next s c q =>
          obtain ⟨s', c'⟩ := q
          rw [Bool.and_eq_true] at hx
          obtain ⟨x, h1, rfl⟩ := hv
          obtain ⟨n, l, u⟩ := t
          obtain ⟨w, w1, w2⟩ := id h1
          have h5 : asy W (n, l, u) x.toInt := by
            match n, hty with
            | 0, hty =>
              obtain ⟨y, e, h2⟩ := hty
              cases e
              exact h2
            | 1, hty => obtain ⟨y, e, h2⟩ := hty; cases e
            | 2, hty => obtain ⟨y, e, h2⟩ := hty; cases e
          refine key x.toInt ⟨w, w1, by rw [Int32.ofInt_toInt]; exact w2, Or.inr (by rw [← w2])⟩ h5 ⟨x, ⟨x.toInt, ?_, ?_⟩, rfl⟩
          · rw [Nat.eq_of_beq_eq_true hx.1, hg.1]
            exact anew_get _
          · rw [ieq_ok hx.2, Int.add_zero, Int32.ofInt_toInt]
        · next s q =>
          obtain ⟨z, h1, rfl⟩ := hv
          obtain ⟨n, l, u⟩ := t
          have hz := hE.2.2 q
          have hql : q < E.length := by rw [← hE.1]; exact (List.getElem?_eq_some_iff.mp h1).1
          have h5 : asy W (n, l, u) z := by
            match n, hty, hb with
            | 0, hty, _ => obtain ⟨y, e, h2⟩ := hty; cases e
            | 1, hty, hb =>
              have hb1 : awi E (1, l, u) (.inr (.inl q)) = true := hb.1
              dsimp only [awi] at hb1
              split at hb1
              · next hq0 =>
                cases hq0
                split at hb1
                · next l' u' hq =>
                  obtain ⟨⟨g1, g2⟩, g3⟩ := hE.2.2 _ _ _ hq h1
                  rw [Bool.and_eq_true] at hb1
                  have k1 := ile_iff.mp hb1.1
                  have k2 := ile_iff.mp hb1.2
                  exact ⟨⟨by omega, by omega⟩, g3⟩
                · cases hb1
              · cases hb1
            | 2, hty, _ => obtain ⟨y, e, h2⟩ := hty; cases e
          refine key z h1 h5 ⟨z, ?_, rfl⟩
          rw [Nat.eq_of_beq_eq_true hx, hg.1]
          exact anew_get _
        · next s q =>
          obtain ⟨m, h1, rfl⟩ := hv
          obtain ⟨n, l, u⟩ := t
          have h5 : asy W (n, l, u) (m : Int) := by
            match n, hty, hb with
            | 0, hty, _ => obtain ⟨y, e, h2⟩ := hty; cases e
            | 1, hty, _ => obtain ⟨y, e, h2⟩ := hty; cases e
            | 2, hty, hb =>
              obtain ⟨y, e, h2, h3⟩ := hty
              cases e
              have := ieq_ok hb.2
              exact ⟨m, rfl, h2, by rcases h3 with h3 | h3 <;> omega⟩
          refine key (m : Int) h1 h5 ⟨m, ?_, rfl⟩
          rw [Nat.eq_of_beq_eq_true hx, hg.1]
          exact anew_get _
        · cases hx
    · cases hs
  | false =>
    rw [hx] at hs
    dsimp only [cond_false] at hs
    split at hs
    · next b hb =>
      cases h1 : aveq b a with
      | false => rw [h1] at hs; cases hs
      | true =>
        rw [h1] at hs
        cases hs
        rw [aveq_ok h1] at hb
        exact ⟨ρc, aext.rf, hg, hn, asu_b hg hb hv⟩
    · cases hs
end
section
/-! A state held against a note, an entry, an end. -/
def abds (E ts : List aY) : List (aV × aV) → List aV → Option (List aV)
  | [], σ => some σ
  | q :: r, σ => match abd E ts σ q.1 q.2 with
    | some σ' => abds E ts r σ'
    | none => none
theorem abds_ok {W : aW} {E ts : List aY} {ρ : List Int} (hE : aE W E ρ) : ∀ (ps : List (aV × aV)) (σ σ' : List aV) (ρc : List Int) (vs : List Value), asg ρ σ ρc → aEn W ts ρc → abds E ts ps σ = some σ' → aSt ρ (ps.map (fun q => q.2)) vs → ∃ ρc', aext ρc ρc' ∧ asg ρ σ' ρc' ∧ aEn W ts ρc' ∧ aSt ρc' (ps.map (fun q => q.1)) vs
  | [], σ, σ', ρc, vs, hg, hn, hs, hv => by
    cases hs
    exact ⟨ρc, aext.rf, hg, hn, hv⟩
  | q :: r, σ, σ', ρc, vs, hg, hn, hs, hv => by
    unfold abds at hs
    split at hs
    · next σ1 h1 =>
      obtain ⟨v, vs', rfl, hv1, hv2⟩ := hv
      obtain ⟨ρ1, x1, g1, n1, w1⟩ := abd_ok hE hg hn h1 hv1
      obtain ⟨ρ2, x2, g2, n2, w2⟩ := abds_ok hE r σ1 σ' ρ1 vs' g1 n1 hs hv2
      exact ⟨ρ2, x1.trans x2, g2, n2, v, vs', rfl, w1.ext x2, w2⟩
    · cases hs
abbrev aAc : Type := List aY × aM × List aV × List aK
def amr1 (W : aW) (ts : List aY) (e : aK × aV) (A : aAc) : Option aAc := match asuk A.2.2.1 e.1 with
  | some q => match A.1[q.1]? with
    | some (2, so, _) => match aiv A.1 q.2.1 q.2.2 with
      | some p => bif ile 0 p.1 && !ile (apn (afm W so.toNat) : Int) p.2 then (match ard W A.1 A.2.1 (afm W so.toNat) (q.1, aix q.2.1 q.2.2 p) p.1 p.2 with
        | some [o] => match abd o.1 ts A.2.2.1 e.2 o.2.1 with
          | some σ' => some (o.1, o.2.2, σ', (q.1, aix q.2.1 q.2.2 p) :: A.2.2.2)
          | none => none
        | _ => none) else none
      | none => none
    | _ => none
  | none => none
def amr (W : aW) (ts : List aY) : aM → aAc → Option aAc
  | [], A => some A
  | e :: r, A => match amr1 W ts e A with
    | some A' => amr W ts r A'
    | none => none
/-- an entry of a note's memory holds -/
def ame (W : aW) (G : aG) (ρc : List Int) (h : zH) (e : aK × aV) : Prop := ∃ (a k : Nat) (v : Value), aden ρc e.1 a k ∧ a < W.1.length ∧ k < apn (afm W (asrt W a)) ∧ rdx G h a k = some v ∧ av ρc e.2 v
theorem ame.ext {W : aW} {G : aG} {ρ ρ' : List Int} {h : zH} {e : aK × aV} (hx : aext ρ ρ') : ame W G ρ h e → ame W G ρ' h e
  | ⟨a, k, v, h1, h2, h3, h4, h5⟩ => ⟨a, k, v, h1.ext hx, h2, h3, h4, h5.ext hx⟩
theorem amr1_ok {W : aW} {G : aG} {ts : List aY} {h : zH} {e : aK × aV} {A A' : aAc} {ρ ρc : List Int} (hs : amr1 W ts e A = some A') (hE : aE W A.1 ρ) (hH : aH W G ρ A.2.1 h) (hg : asg ρ A.2.2.1 ρc) (hn : aEn W ts ρc) : ∃ ρ' ρc' key, aext ρ ρ' ∧ aext ρc ρc' ∧ aE W A'.1 ρ' ∧ aH W G ρ' A'.2.1 h ∧ asg ρ' A'.2.2.1 ρc' ∧ aEn W ts ρc' ∧ ame W G ρc' h e ∧ A'.2.2.2 = key :: A.2.2.2 ∧ ∃ a k : Nat, aden ρ' key a k ∧ aden ρc' e.1 a k := by
  unfold amr1 at hs
  split at hs
  · next q hq =>
    split at hs
    · next so so' hr =>
      split at hs
      · next p hp =>
        cases hb : (ile 0 p.1 && !ile (apn (afm W so.toNat) : Int) p.2) with
        | false => rw [hb] at hs; cases hs
        | true =>
          rw [hb] at hs
          dsimp only [cond_true] at hs
          split at hs
          · next o ho =>
            split at hs
            · next σ' hσ =>
              cases hs
              simp only [Bool.and_eq_true, Bool.not_eq_true'] at hb
              have b1 := ile_iff.mp hb.1
              have b2 := ile_f hb.2
              -- the place
              have hq2 := hq
              unfold asuk at hq2
              split at hq2
              · next r hrσ =>
                split at hq2
                · next pp hpp =>
                  cases hq2
                  obtain ⟨z, z1, z2⟩ := hg.has hrσ
                  have z2 : ρ[r]? = some z := z2
                  obtain ⟨a, ea, ha, hso⟩ := hE.2.2 _ _ _ hr z2
                  subst ea
                  obtain ⟨x, hx, hxp⟩ := aiv_ok hE hp
                  have hxn : x.toInt = (x.toInt.toNat : Int) := by omega
                  have hd : aden ρ (r, aix pp.1 pp.2 p) a x.toInt.toNat := aix_den hE hp hx z2 hxn
                  have hd0 : aden ρ (r, pp) a x.toInt.toNat := ⟨z2, x, hx, hxn⟩
                  have e1 : so.toNat = asrt W a := by omega
                  rw [e1] at ho b2
                  obtain ⟨v, g1, o', g2, ρ', g3, g4, g5, g6⟩ := ard_ok ho hE hH hd ha rfl (by omega) b1 (by omega) (by omega)
                  have eo : o' = o := by simpa using g2
                  subst eo
                  obtain ⟨ρc', c1, c2, c3, c4⟩ := abd_ok g4 (hg.ext g3) hn hσ g5
                  have hdc := asuk_b hg hq hd0
                  exact ⟨ρ', ρc', _, g3, c1, g4, g6, c2, c3, ⟨a, x.toInt.toNat, v, hdc.ext c1, ha, by omega, g1, c4⟩, rfl, a, x.toInt.toNat, hd.ext g3, hdc.ext c1⟩
                · cases hq2
              · cases hq2
            · cases hs
          · cases hs
      · cases hs
    · cases hs
  · cases hs
theorem amr_ok {W : aW} {G : aG} {ts : List aY} {h : zH} : ∀ (mm : aM) (A A' : aAc) (ρ ρc : List Int), amr W ts mm A = some A' → aE W A.1 ρ → aH W G ρ A.2.1 h → asg ρ A.2.2.1 ρc → aEn W ts ρc → ∃ ρ' ρc', aext ρ ρ' ∧ aext ρc ρc' ∧ aE W A'.1 ρ' ∧ aH W G ρ' A'.2.1 h ∧ asg ρ' A'.2.2.1 ρc' ∧ aEn W ts ρc' ∧ (∀ e ∈ mm, ame W G ρc' h e) ∧ ∀ key ∈ A'.2.2.2, key ∈ A.2.2.2 ∨ ∃ e ∈ mm, ∃ a k : Nat, aden ρ' key a k ∧ aden ρc' e.1 a k
  | [], A, A', ρ, ρc, hs, hE, hH, hg, hn => by
    cases hs
    exact ⟨ρ, ρc, aext.rf, aext.rf, hE, hH, hg, hn, fun e he => (by cases he), fun key hk => Or.inl hk⟩
  | e :: r, A, A', ρ, ρc, hs, hE, hH, hg, hn => by
    unfold amr at hs
    split at hs
    · next A1 h1 =>
      obtain ⟨ρ1, ρc1, key1, x1, y1, E1, H1, g1, n1, m1, k1, a1, b1, d1, d2⟩ := amr1_ok h1 hE hH hg hn
      obtain ⟨ρ2, ρc2, x2, y2, E2, H2, g2, n2, m2, k2⟩ := amr_ok r A1 A' ρ1 ρc1 hs E1 H1 g1 n1
      refine ⟨ρ2, ρc2, x1.trans x2, y1.trans y2, E2, H2, g2, n2, fun e' he => ?_, fun key hk => ?_⟩
      · rcases List.mem_cons.mp he with rfl | he
        · exact m1.ext y2
        · exact m2 e' he
      · rcases k2 key hk with q | ⟨e', he, q⟩
        · rw [k1] at q
          rcases List.mem_cons.mp q with rfl | q
          · exact Or.inr ⟨e, List.mem_cons_self, a1, b1, d1.ext x2, d2.ext y2⟩
          · exact Or.inl q
        · exact Or.inr ⟨e', List.mem_cons_of_mem _ he, q⟩
    · cases hs
def ayle (t t' : aY) : Bool := match t with
  | (0, l, u) => match t' with
    | (0, l', u') => ile l' l && ile u u'
    | _ => false
  | (1, l, u) => match t' with
    | (1, l', u') => ile l' l && ile u u'
    | _ => false
  | (2, s, _) => match t' with
    | (2, s', _) => ieq s s'
    | _ => false
  | _ => false
theorem ayle_ok {W : aW} {ρ : List Int} {t t' : aY} {z : Int} (h : ayle t t' = true) (hz : aok W ρ t z) : asy W t' z := by
  unfold ayle at h
  split at h
  · split at h
    · rw [Bool.and_eq_true] at h
      have h1 := ile_iff.mp h.1
      have h2 := ile_iff.mp h.2
      obtain ⟨g1, g2⟩ := hz
      exact ⟨by omega, by omega⟩
    · cases h
  · split at h
    · rw [Bool.and_eq_true] at h
      have h1 := ile_iff.mp h.1
      have h2 := ile_iff.mp h.2
      obtain ⟨⟨g1, g2⟩, g3⟩ := hz
      exact ⟨⟨by omega, by omega⟩, g3⟩
    · cases h
  · split at h
    · have := ieq_ok h
      obtain ⟨n, g1, g2, g3⟩ := hz
      exact ⟨n, g1, g2, by rw [g3, this]⟩
    · cases h
  · cases h
/-- the first n symbols stay as they are -/
def apre (E ts : List aY) (n : Nat) : Bool := Nat.ble 1 n && (Nat.ble n E.length && (Nat.ble n ts.length && (List.range n).all (fun i => ayle (E.getD i (9, 0, 0)) (ts.getD i (9, 0, 0)))))
def aid (E : List aY) (n : Nat) : List aV := (List.range n).map (fun i => afr (E.getD i (9, 0, 0)) i)
theorem afr_adn {ρ : List Int} {t : aY} {i : Nat} {z : Int} (hz : ρ[i]? = some z) : adn ρ (afr t i) z := by
  unfold afr
  split
  · exact ⟨z, hz, by rw [Int.add_zero], Or.inl (by rw [Int.add_zero])⟩
  · exact hz
  · exact hz
theorem aid_ok {W : aW} {E ts : List aY} {ρ : List Int} {n : Nat} (hE : aE W E ρ) (hp : apre E ts n = true) : asg ρ (aid E n) (ρ.take n) ∧ aEn W ts (ρ.take n) := by
  unfold apre at hp
  simp only [Bool.and_eq_true] at hp
  obtain ⟨h1, h2, h3, h4⟩ := hp
  have h1 := able h1
  have h2 := able h2
  have hl := hE.1
  have tk : ∀ (i : Nat) (z : Int), (ρ.take n)[i]? = some z → i < n ∧ ρ[i]? = some z := fun i z hz => by
    rw [List.getElem?_take] at hz
    split at hz
    · next hi => exact ⟨hi, hz⟩
    · cases hz
  refine ⟨⟨by simp [aid]; omega, fun i a z ha hz => ?_⟩, ?_, fun k t z ht hz => ?_⟩
  · obtain ⟨hi, hz⟩ := tk i z hz
    unfold aid at ha
    rw [List.getElem?_map, List.getElem?_range hi] at ha
    cases ha
    exact afr_adn hz
  · rw [List.getElem?_take, if_pos (by omega)]
    exact hE.2.1
  · obtain ⟨hi, hz⟩ := tk k z hz
    have h5 := List.all_eq_true.mp h4 k (List.mem_range.mpr hi)
    have hk : E[k]? = some (E.getD k (9, 0, 0)) := agetD (by omega)
    have ht' : ts.getD k (9, 0, 0) = t := by rw [List.getD_eq_getElem?_getD, ht]; rfl
    rw [ht'] at h5
    exact ayle_ok h5 (hE.2.2 _ _ _ hk hz)
def acs1 (E : List aY) (σ : List aV) (t : aY) : Bool := Nat.ble 4 t.1 && (match σ[t.1 - 4]? with
  | some (.inl (a, ca)) => match σ[t.2.1.toNat]? with
    | some (.inl (b, cb)) => (anw E a ca && anw E b cb) && ale E 12 a b (t.2.2 + ca - cb)
    | _ => false
  | _ => false)
/-- the value of a symbol here, exactly -/
theorem adn_ex {W : aW} {E : List aY} {ρ : List Int} {s : Nat} {c z : Int} (hE : aE W E ρ) (hn : anw E s c = true) (h : adn ρ (.inl (s, c)) z) : ∃ w, ρ[s]? = some w ∧ z = w + c := by
  obtain ⟨w, w1, w2, w3⟩ := h
  obtain ⟨y, y1, y2⟩ := anw_ok hE hn (x := Int32.ofInt (w + c)) ⟨w, w1, rfl⟩
  rw [w1] at y1
  cases y1
  refine ⟨w, w1, ?_⟩
  rcases w3 with q | q
  · exact q
  · rw [q, y2]
theorem acs1_ok {W : aW} {E : List aY} {ρ : List Int} {σ : List aV} {ρc : List Int} {t : aY} (hE : aE W E ρ) (hg : asg ρ σ ρc) (h : acs1 E σ t = true) : 4 ≤ t.1 ∧ arl ρc (t.1 - 4) t.2.1.toNat t.2.2 := by
  unfold acs1 at h
  rw [Bool.and_eq_true] at h
  refine ⟨Nat.le_of_ble_eq_true h.1, ?_⟩
  have h := h.2
  split at h
  · next a ca hs =>
    split at h
    · next b cb hs' =>
      simp only [Bool.and_eq_true] at h
      obtain ⟨⟨n1, n2⟩, h3⟩ := h
      obtain ⟨z, z1, z2⟩ := hg.has hs
      obtain ⟨z', z1', z2'⟩ := hg.has hs'
      obtain ⟨w, w1, w2⟩ := adn_ex hE n1 z2
      obtain ⟨w', w1', w2'⟩ := adn_ex hE n2 z2'
      have := ale_ok hE _ _ _ _ _ _ h3 w1 w1'
      exact ⟨z, z', z1, z1', by omega⟩
    · cases h
  · cases h
def azs : List aY → List Int
  | [] => []
  | _ :: r => 0 :: azs r
def azv : List aY → List aV
  | [] => []
  | _ :: r => .inl (0, 0) :: azv r
theorem azs_ok {W : aW} {E ts : List aY} {ρ : List Int} (hE : aE W E ρ) : ∀ (L : List aY) (σ : List aV) (ρc : List Int), asg ρ σ ρc → aE W ts ρc → (∀ t ∈ L, 4 ≤ t.1 ∧ arl ρc (t.1 - 4) t.2.1.toNat t.2.2) → asg ρ (σ ++ azv L) (ρc ++ azs L) ∧ aE W (ts ++ L) (ρc ++ azs L)
  | [], σ, ρc, hg, hn, _ => by simpa [azv, azs] using ⟨hg, hn⟩
  | t :: L, σ, ρc, hg, hn, h => by
    have h1 : asg ρ (σ ++ [.inl (0, 0)]) (ρc ++ [0]) := hg.push ⟨0, hE.2.1, rfl, Or.inl rfl⟩
    have ht := h t List.mem_cons_self
    have h2 : aE W (ts ++ [t]) (ρc ++ [0]) := hn.pushK (by
      obtain ⟨n, l, u⟩ := t
      obtain ⟨h4, z, z', z1, z2, z3⟩ := ht
      match n, h4, z1 with
      | n + 4, _, z1 => exact ⟨z, z', (aext.one 0).get z1, (aext.one 0).get z2, z3⟩)
    obtain ⟨g1, g2⟩ := azs_ok (ts := ts ++ [t]) hE L _ _ h1 h2 (fun t' ht' => by
      obtain ⟨k1, z, z', z1, z2, z3⟩ := h t' (List.mem_cons_of_mem _ ht')
      exact ⟨k1, z, z', (aext.one 0).get z1, (aext.one 0).get z2, z3⟩)
    simp only [List.append_assoc, List.singleton_append] at g1 g2
    exact ⟨g1, g2⟩
def amt0 (W : aW) (n : Nat) (E : List aY) (m : aM) (ts : List aY) (ps : List (aV × aV)) (mm : aM) : Option (List aY × aM × List aV) := bif apre E ts n then (match abds E ts ps (aid E n) with
  | some σ => match amr W ts mm (E, m, σ, []) with
    | some A => bif Nat.ble A.2.2.1.length ts.length && ((ts.drop A.2.2.1.length).all (acs1 A.1 A.2.2.1) && A.2.1.all (fun e => adr W A.1 e || A.2.2.2.any (fun q => akq e.1 q))) then some (A.1, A.2.1, A.2.2.1 ++ azv (ts.drop A.2.2.1.length)) else none
    | none => none
  | none => none) else none
theorem amt0_ok {W : aW} {G : aG} {n : Nat} {E E' : List aY} {m m' : aM} {ts : List aY} {ps : List (aV × aV)} {mm : aM} {σ : List aV} {ρ : List Int} {h : zH} {vs : List Value} (hs : amt0 W n E m ts ps mm = some (E', m', σ)) (hE : aE W E ρ) (hH : aH W G ρ m h) (hv : aSt ρ (ps.map (fun q => q.2)) vs) : ∃ ρ' ρc, aext ρ ρ' ∧ aE W E' ρ' ∧ aH W G ρ' m' h ∧ asg ρ' σ ρc ∧ aE W ts ρc ∧ aext (ρ.take n) ρc ∧ aSt ρc (ps.map (fun q => q.1)) vs ∧ aH W G ρc mm h := by
  unfold amt0 at hs
  cases hp : apre E ts n with
  | false => rw [hp] at hs; cases hs
  | true =>
    rw [hp] at hs
    dsimp only [cond_true] at hs
    split at hs
    · next σ1 h1 =>
      split at hs
      · next A hA =>
        cases hb : (Nat.ble A.2.2.1.length ts.length && ((ts.drop A.2.2.1.length).all (acs1 A.1 A.2.2.1) && A.2.1.all (fun e => adr W A.1 e || A.2.2.2.any (fun q => akq e.1 q)))) with
        | false => rw [hb] at hs; cases hs
        | true =>
          rw [hb] at hs
          cases hs
          rw [Bool.and_eq_true, Bool.and_eq_true] at hb
          obtain ⟨hb1, hb2, hb3⟩ := hb
          have hb1 := Nat.le_of_ble_eq_true hb1
          obtain ⟨g0, n0⟩ := aid_ok hE hp
          obtain ⟨ρ1, x1, g1, n1, s1⟩ := abds_ok hE ps _ _ _ vs g0 n0 h1 hv
          obtain ⟨ρ', ρc, x2, y2, E2, H2, g2, n2, m2, k2⟩ := amr_ok (G := G) (h := h) mm _ A ρ ρ1 hA hE hH g1 n1
          have hts : aE W (ts.take A.2.2.1.length) ρc := by
            refine ⟨by rw [List.length_take, ← g2.1]; omega, n2.1, fun k t z k1 k2 => ?_⟩
            rw [List.getElem?_take] at k1
            split at k1
            · exact (n2.2 k t z k1 k2).ok
            · cases k1
          obtain ⟨z1, z2⟩ := azs_ok E2 (ts.drop A.2.2.1.length) A.2.2.1 ρc g2 hts (fun t ht => acs1_ok E2 g2 (List.all_eq_true.mp hb2 t ht))
          rw [List.take_append_drop] at z2
          have xz : aext ρc (ρc ++ azs (ts.drop A.2.2.1.length)) := ⟨_, rfl⟩
          refine ⟨ρ', ρc ++ azs (ts.drop A.2.2.1.length), x2, E2, H2, z1, z2, (x1.trans y2).trans xz, (s1.ext y2).ext xz, aH.ext xz ⟨H2.1, fun a k ha hk => ?_, fun e he => ?_⟩⟩
          · obtain ⟨v, q1, q2⟩ := H2.2.1 a k ha hk
            refine ⟨v, q1, ?_⟩
            rcases q2 with q2 | ⟨e, he, q2⟩
            · exact Or.inl q2
            · have := List.all_eq_true.mp hb3 e he
              rw [Bool.or_eq_true] at this
              rcases this with q | q
              · obtain ⟨a', k', v', w1, w2, w3, w4, w5⟩ := H2.2.2 e he
                obtain ⟨rfl, rfl⟩ := w1.inj q2
                rw [q1] at w4
                cases w4
                exact Or.inl (adr_ok E2 q q2 w5)
              · obtain ⟨key, hk1, hk2⟩ := List.any_eq_true.mp q
                rw [akq_ok hk2] at q2
                rcases k2 key hk1 with w | ⟨e', he', a', k', w1, w2⟩
                · cases w
                · obtain ⟨rfl, rfl⟩ := w1.inj q2
                  exact Or.inr ⟨e', he', w2⟩
          · obtain ⟨a, k, v, w1, w2, w3, w4, w5⟩ := m2 e he
            exact ⟨a, k, v, w1, w2, w3, w4, w5⟩
      · cases hs
    · cases hs
def amt (W : aW) (n : Nat) (E : List aY) (m : aM) (ts : List aY) (ps : List (aV × aV)) (mm : aM) : Option (List aY × aM × List aV) := amt0 W n (aprp E E) m ts ps mm
theorem amt_ok {W : aW} {G : aG} {n : Nat} {E E' : List aY} {m m' : aM} {ts : List aY} {ps : List (aV × aV)} {mm : aM} {σ : List aV} {ρ : List Int} {h : zH} {vs : List Value} (hs : amt W n E m ts ps mm = some (E', m', σ)) (hE : aE W E ρ) (hH : aH W G ρ m h) (hv : aSt ρ (ps.map (fun q => q.2)) vs) : ∃ ρ' ρc, aext ρ ρ' ∧ aE W E' ρ' ∧ aH W G ρ' m' h ∧ asg ρ' σ ρc ∧ aE W ts ρc ∧ aext (ρ.take n) ρc ∧ aSt ρc (ps.map (fun q => q.1)) vs ∧ aH W G ρc mm h := amt0_ok hs (aprp_E hE) hH hv
end
section
/-! Contracts, and what a call by one does to what is known. -/
/-- an end: types of all symbols (the entry's first), answer, memory -/
abbrev aXt : Type := List aY × Option aV × aM
/-- a measure: number, and symbols with factors -/
abbrev aMs : Type := Int × List (Nat × Int)
/-- a contract: method, types of arguments, types and memory that it starts from, ends, what it may write, measure -/
abbrev aQ : Type := Nat × List aY × (List aY × aM) × List aXt × List aD × aMs
def afrs : Nat → List aY → List aV
  | _, [] => []
  | n, t :: ts => afr t n :: afrs (n + 1) ts
def aent (q : aQ) : List aY := (0, 0, 0) :: (q.2.1 ++ q.2.2.1.1)
def aarg (q : aQ) : List aV := afrs 1 q.2.1
def aem (q : aQ) : aM := q.2.2.1.2
def arv (ρ : List Int) (a : Option aV) (r : Option Value) : Prop := match a with
  | none => r = none
  | some a => ∃ v : Value, r = some v ∧ av ρ a v
theorem arv.ext {ρ ρ' : List Int} (hx : aext ρ ρ') {a : Option aV} {r : Option Value} (h : arv ρ a r) : arv ρ' a r := by
  cases a with
  | none => exact h
  | some a =>
    obtain ⟨v, h1, h2⟩ := h
    exact ⟨v, h1, h2.ext hx⟩
def aEnd (W : aW) (G : aG) (D : List aD) (ρ0 : List Int) (h0 : zH) (E0 : List aY) (xs : List aXt) (r : Option Value) (h' : zH) : Prop := ∃ x ∈ xs, ∃ ρ', aext ρ0 ρ' ∧ E0.length ≤ x.1.length ∧ aE W x.1 ρ' ∧ arv ρ' x.2.1 r ∧ aH W G ρ' x.2.2 h' ∧ aF W G ρ0 D h0 h'
def avs (ρ : List Int) : List (Nat × Int) → Int
  | [] => 0
  | t :: r => t.2 * ρ.getD t.1 0 + avs ρ r
def amv (ρ : List Int) (ms : aMs) : Int := ms.1 + avs ρ ms.2
/-- a contract holds, of starts that P allows -/
def aCon (W : aW) (G : aG) (C : zC) (q : aQ) (P : List Int → Prop) : Prop := ∀ (ρ : List Int) (h : zH) (vs : List Value), P ρ → aE W (aent q) ρ → aSt ρ (aarg q) vs → aH W G ρ (aem q) h → ∃ (r : Option Value) (h' : zH), C q.1 vs h r h' ∧ aEnd W G q.2.2.2.2.1 ρ h (aent q) q.2.2.2.1 r h'
/-! Measures. -/
def asum1 (s : Nat) : List (Nat × Int) → Int
  | [] => 0
  | t :: r => (bif Nat.beq t.1 s then t.2 else 0) + asum1 s r
theorem avs_c (ρ : List Int) (t : Nat × Int) (r : List (Nat × Int)) : avs ρ (t :: r) = t.2 * ρ.getD t.1 0 + avs ρ r := rfl
theorem asum1_c (s : Nat) (t : Nat × Int) (r : List (Nat × Int)) : asum1 s (t :: r) = (bif Nat.beq t.1 s then t.2 else 0) + asum1 s r := rfl
theorem avs_split (ρ : List Int) (s : Nat) : ∀ ts : List (Nat × Int), avs ρ ts = asum1 s ts * ρ.getD s 0 + avs ρ (ts.filter (fun t => !Nat.beq t.1 s))
  | [] => by simp [avs, asum1]
  | t :: r => by
    have ih := avs_split ρ s r
    rw [avs_c, asum1_c, List.filter_cons]
    cases hb : Nat.beq t.1 s with
    | true =>
      rw [Nat.eq_of_beq_eq_true hb, ih]
      simp only [cond_true, Bool.not_true, Bool.false_eq_true, if_false]
      rw [Int.add_mul]
      omega
    | false =>
      simp only [cond_false, Bool.not_false, if_true]
      rw [avs_c, Int.add_mul, Int.zero_mul, ih]
      omega
def aub (E : List aY) : Nat → List (Nat × Int) → Option Int
  | 0, _ => none
  | _ + 1, [] => some 0
  | n + 1, t :: r => match E[t.1]? with
    | some (0, l, u) => match aub E n (r.filter (fun q => !Nat.beq q.1 t.1)) with
      | some b => some (b + (bif ile 0 (t.2 + asum1 t.1 r) then (t.2 + asum1 t.1 r) * u else (t.2 + asum1 t.1 r) * l))
      | none => none
    | _ => none
theorem aub_ok {W : aW} {E : List aY} {ρ : List Int} (hE : aE W E ρ) : ∀ (n : Nat) (ts : List (Nat × Int)) (b : Int), aub E n ts = some b → avs ρ ts ≤ b
  | 0, _, _, h => by cases h
  | n + 1, [], b, h => by
    cases h
    exact Int.le_refl _
  | n + 1, t :: r, b, h => by
    unfold aub at h
    split at h
    · next l u hs =>
      split at h
      · next b' hb =>
        cases h
        have ih := aub_ok hE n _ b' hb
        obtain ⟨z, z1, z2⟩ := hE.has hs
        have z2 : l ≤ z ∧ z ≤ u := z2
        have hz : ρ.getD t.1 0 = z := by rw [List.getD_eq_getElem?_getD, z1]; rfl
        have e1 := avs_split ρ t.1 r
        have e2 : avs ρ (t :: r) = (t.2 + asum1 t.1 r) * z + avs ρ (r.filter (fun q => !Nat.beq q.1 t.1)) := by
          rw [avs_c, e1, hz, Int.add_mul]
          omega
        rw [e2]
        cases hc : ile 0 (t.2 + asum1 t.1 r) with
        | true =>
          have h1 := ile_iff.mp hc
          have h2 := Int.mul_le_mul_of_nonneg_left z2.2 h1
          show _ ≤ b' + (t.2 + asum1 t.1 r) * u
          omega
        | false =>
          have h1 := ile_f hc
          have h2 := Int.mul_le_mul_of_nonpos_left (show t.2 + asum1 t.1 r ≤ 0 by omega) z2.1
          show _ ≤ b' + (t.2 + asum1 t.1 r) * l
          omega
      · cases h
    · cases h
def aneg2 (ts : List (Nat × Int)) : List (Nat × Int) := ts.map (fun t => (t.1, -t.2))
theorem avs_neg (ρ : List Int) : ∀ ts : List (Nat × Int), avs ρ (aneg2 ts) = -avs ρ ts
  | [] => rfl
  | t :: r => by
    have ih := avs_neg ρ r
    show (-t.2) * ρ.getD t.1 0 + avs ρ (aneg2 r) = -(t.2 * ρ.getD t.1 0 + avs ρ r)
    rw [ih, Int.neg_mul]
    omega
theorem avs_app (ρ : List Int) : ∀ ts us : List (Nat × Int), avs ρ (ts ++ us) = avs ρ ts + avs ρ us
  | [], us => by simp [avs]
  | t :: r, us => by
    have ih := avs_app ρ r us
    show t.2 * ρ.getD t.1 0 + avs ρ (r ++ us) = t.2 * ρ.getD t.1 0 + avs ρ r + avs ρ us
    rw [ih]
    omega
def alk (E : List aY) (σ : List aV) : List (Nat × Int) → Option aMs
  | [] => some (0, [])
  | t :: r => match σ[t.1]? with
    | some (.inl (s, c)) => match alk E σ r with
      | some k => bif anw E s c then some (k.1 + t.2 * c, (s, t.2) :: k.2) else none
      | none => none
    | _ => none
theorem alk_ok {W : aW} {E : List aY} {ρ : List Int} {σ : List aV} {ρc : List Int} (hE : aE W E ρ) (hg : asg ρ σ ρc) : ∀ (ts : List (Nat × Int)) (k : aMs), alk E σ ts = some k → avs ρc ts = amv ρ k
  | [], k, h => by
    cases h
    rfl
  | t :: r, k, h => by
    unfold alk at h
    split at h
    · next s c hs =>
      split at h
      · next k' hk =>
        cases hn : anw E s c with
        | false => rw [hn] at h; cases h
        | true =>
          rw [hn] at h
          cases h
          have ih := alk_ok hE hg r k' hk
          obtain ⟨z, z1, w, w1, w2, w3⟩ := hg.has hs
          obtain ⟨y, y1, y2⟩ := anw_ok hE hn (x := Int32.ofInt (w + c)) ⟨w, w1, rfl⟩
          rw [w1] at y1
          cases y1
          have hz : z = w + c := by
            rcases w3 with q | q
            · exact q
            · rw [q, y2]
          have e1 : ρc.getD t.1 0 = z := by rw [List.getD_eq_getElem?_getD, z1]; rfl
          have e2 : ρ.getD s 0 = w := by rw [List.getD_eq_getElem?_getD, w1]; rfl
          unfold amv at ih ⊢
          show t.2 * ρc.getD t.1 0 + avs ρc r = (k'.1 + t.2 * c) + (t.2 * ρ.getD s 0 + avs ρ k'.2)
          rw [ih, e1, e2, hz, Int.mul_add]
          omega
      · cases h
    · cases h
/-- rows of the kind 's and c more is s' at most' put to use -/
def arc : List aY → aMs → aMs
  | [], k => k
  | t :: r, k => bif Nat.ble 4 t.1 && (!ile (asum1 (t.1 - 4) k.2) 0 && !ile 0 (asum1 t.2.1.toNat k.2)) then arc r (k.1 - imn (asum1 (t.1 - 4) k.2) (-asum1 t.2.1.toNat k.2) * t.2.2, k.2 ++ [(t.1 - 4, -imn (asum1 (t.1 - 4) k.2) (-asum1 t.2.1.toNat k.2)), (t.2.1.toNat, imn (asum1 (t.1 - 4) k.2) (-asum1 t.2.1.toNat k.2))]) else arc r k
theorem arc_ok {W : aW} {E : List aY} {ρ : List Int} (hE : aE W E ρ) : ∀ (L : List aY) (k : aMs), (∀ t ∈ L, t ∈ E) → amv ρ k ≤ amv ρ (arc L k)
  | [], k, _ => Int.le_refl _
  | t :: r, k, h => by
    have ih := fun k' => arc_ok hE r k' (fun t' ht' => h t' (List.mem_cons_of_mem _ ht'))
    unfold arc
    cases hc : (Nat.ble 4 t.1 && (!ile (asum1 (t.1 - 4) k.2) 0 && !ile 0 (asum1 t.2.1.toNat k.2))) with
    | false => exact ih k
    | true =>
      simp only [Bool.and_eq_true, Bool.not_eq_true'] at hc
      obtain ⟨z, z', z1, z2, z3⟩ := acst_of hE (h t List.mem_cons_self) (Nat.le_of_ble_eq_true hc.1)
      have c1 := ile_f hc.2.1
      have c2 := ile_f hc.2.2
      dsimp only [cond_true]
      refine Int.le_trans ?_ (ih _)
      unfold amv
      rw [avs_app, avs_c, avs_c]
      have e1 : ρ.getD (t.1 - 4) 0 = z := by rw [List.getD_eq_getElem?_getD, z1]; rfl
      have e2 : ρ.getD t.2.1.toNat 0 = z' := by rw [List.getD_eq_getElem?_getD, z2]; rfl
      show k.1 + avs ρ k.2 ≤ k.1 - imn (asum1 (t.1 - 4) k.2) (-asum1 t.2.1.toNat k.2) * t.2.2 + (avs ρ k.2 + (-imn (asum1 (t.1 - 4) k.2) (-asum1 t.2.1.toNat k.2) * ρ.getD (t.1 - 4) 0 + (imn (asum1 (t.1 - 4) k.2) (-asum1 t.2.1.toNat k.2) * ρ.getD t.2.1.toNat 0 + 0)))
      rw [e1, e2]
      have hk : 0 ≤ imn (asum1 (t.1 - 4) k.2) (-asum1 t.2.1.toNat k.2) := by rw [imn_eq]; omega
      generalize imn (asum1 (t.1 - 4) k.2) (-asum1 t.2.1.toNat k.2) = K at hk
      have h5 : K * (z + t.2.2) ≤ K * z' := Int.mul_le_mul_of_nonneg_left z3 hk
      rw [Int.mul_add] at h5
      rw [Int.neg_mul]
      omega
/-- the measure there is less than the one that was -/
def alt (E : List aY) (σ : List aV) (ms ms0 : aMs) : Bool := match alk E σ ms.2 with
  | some k => match arc E (k.1 + ms.1 - ms0.1, k.2 ++ aneg2 ms0.2) with
    | A => match aub E (A.2.length + 1) A.2 with
      | some b => !ile 0 (b + A.1)
      | none => false
  | none => false
theorem alt_ok {W : aW} {E : List aY} {ρ : List Int} {σ : List aV} {ρc : List Int} {ms ms0 : aMs} (hE : aE W E ρ) (hg : asg ρ σ ρc) (h : alt E σ ms ms0 = true) : amv ρc ms < amv ρ ms0 := by
  unfold alt at h
  split at h
  · next k hk =>
    have h9 := arc_ok hE E (k.1 + ms.1 - ms0.1, k.2 ++ aneg2 ms0.2) (fun t ht => ht)
    dsimp only at h
    split at h
    · next b hb =>
      have h1 := ile_f (by simpa using h)
      have h2 := alk_ok hE hg _ _ hk
      have h3 := aub_ok hE _ _ _ hb
      unfold amv at h2 h9 ⊢
      rw [avs_app, avs_neg] at h9
      omega
    · cases h
  · cases h
/-- a measure isn't below 0 -/
def ann (E : List aY) (ms : aMs) : Bool := match aub E (ms.2.length + 1) (aneg2 ms.2) with
  | some b => ile b ms.1
  | none => false
theorem ann_ok {W : aW} {E : List aY} {ρ : List Int} {ms : aMs} (hE : aE W E ρ) (h : ann E ms = true) : 0 ≤ amv ρ ms := by
  unfold ann at h
  split at h
  · next b hb =>
    have h1 := ile_iff.mp h
    have h3 := aub_ok hE _ _ _ hb
    rw [avs_neg] at h3
    unfold amv
    omega
  · cases h
theorem avs_ext {ρ ρ' : List Int} (hx : aext ρ ρ') : ∀ {ts : List (Nat × Int)}, (∀ t ∈ ts, t.1 < ρ.length) → avs ρ' ts = avs ρ ts
  | [], _ => rfl
  | t :: r, h => by
    have ih := avs_ext hx (ts := r) (fun q hq => h q (List.mem_cons_of_mem _ hq))
    have h1 : ρ[t.1]? = some (ρ[t.1]'(h t List.mem_cons_self)) := List.getElem?_eq_getElem _
    show t.2 * ρ'.getD t.1 0 + avs ρ' r = t.2 * ρ.getD t.1 0 + avs ρ r
    rw [ih, List.getD_eq_getElem?_getD, List.getD_eq_getElem?_getD, hx.get h1, h1]
end
section
/-! A call by a contract. -/
def akeep (E : List aY) (σ : List aV) (D : List aD) (e : aK × aV) : Bool := match E[e.1.1]? with
  | some (2, s, _) => D.all (fun d => !ieq s d.1 || (bif Nat.beq d.2.1 0 then (match aiv E e.1.2.1 e.1.2.2 with
    | some p => !ile d.2.2.2.1 p.2 || !ile p.1 d.2.2.2.2
    | none => false) else (match asi σ d.2.2.1 d.2.2.2.1 with
      | some p => aij E e.1.2.1 e.1.2.2 p.1 p.2
      | none => false)))
  | _ => false
theorem akeep_ok {W : aW} {E : List aY} {ρ : List Int} {σ : List aV} {ρc : List Int} {D : List aD} {e : aK × aV} {a k : Nat} (hE : aE W E ρ) (hg : asg ρ σ ρc) (h : akeep E σ D e = true) (hd : aden ρ e.1 a k) : ∀ d ∈ D, ¬ amd W ρc d a k := by
  intro d hd1 hm
  obtain ⟨h1, x, h2, h3⟩ := hd
  unfold akeep at h
  split at h
  · next s s' hs =>
    have g := List.all_eq_true.mp h d hd1
    obtain ⟨-, hso⟩ := asort_of hE hs h1
    obtain ⟨m1, m2⟩ := hm
    rw [Bool.or_eq_true] at g
    rcases g with g | g
    · have : s = (d.1 : Int) := by omega
      rw [this, ieq_rf] at g
      cases g
    · cases hb : Nat.beq d.2.1 0 with
      | true =>
        rw [hb] at g
        rw [Nat.eq_of_beq_eq_true hb] at m2
        have m2 : d.2.2.2.1 ≤ (k : Int) ∧ (k : Int) ≤ d.2.2.2.2 := m2
        dsimp only [cond_true] at g
        split at g
        · next p hp =>
          have hxp := aiv_in hE hp h2
          rw [Bool.or_eq_true] at g
          rcases g with g | g
          · have := ile_f (by simpa using g); omega
          · have := ile_f (by simpa using g); omega
        · cases g
      | false =>
        rw [hb] at g
        dsimp only [cond_false] at g
        split at g
        · next p hp =>
          split at m2
          · next q0 => rw [q0] at hb; cases hb
          · obtain ⟨y, y1, y2⟩ := m2
            exact aij_ok hE g h2 (asi_f hg hp y1) (by omega)
        · cases g
  · cases h
def amods (E : List aY) (D : List aD) (σ : List aV) (M : List aD) : Bool := M.all (fun d => bif Nat.beq d.2.1 0 then D.any (fun d' => Nat.beq d'.1 d.1 && (Nat.beq d'.2.1 0 && (ile d'.2.2.2.1 d.2.2.2.1 && ile d.2.2.2.2 d'.2.2.2.2))) else (match asi σ d.2.2.1 d.2.2.2.1 with
  | some p => acov E D d.1 (0, p)
  | none => false))
theorem acovx {W : aW} {E : List aY} {ρ : List Int} {D : List aD} {q : aK} {a k : Nat} {x : Int32} (hE : aE W E ρ) (h : acov E D (asrt W a) q = true) (d2 : ai ρ q.2.1 q.2.2 x) (d3 : x.toInt = (k : Int)) : ∃ d ∈ D, amd W ρ d a k := by
  obtain ⟨d, hd1, hd2⟩ := List.any_eq_true.mp h
  refine ⟨d, hd1, ?_⟩
  rw [Bool.and_eq_true] at hd2
  obtain ⟨g1, g2⟩ := hd2
  have g1 := ieq_ok g1
  refine ⟨by omega, ?_⟩
  cases hb : Nat.beq d.2.1 0 with
  | true =>
    rw [Nat.eq_of_beq_eq_true hb]
    rw [hb] at g2
    have g2' : (match aiv E q.2.1 q.2.2 with
      | some p => ile d.2.2.2.1 p.1 && ile p.2 d.2.2.2.2
      | none => false) = true := g2
    split at g2'
    · next p hp =>
      rw [Bool.and_eq_true] at g2'
      have h1 := aiv_in hE hp d2
      have h2 := ile_iff.mp g2'.1
      have h3 := ile_iff.mp g2'.2
      exact ⟨by omega, by omega⟩
    · cases g2'
  | false =>
    rw [hb] at g2
    have g2' : (Nat.beq d.2.2.1 q.2.1 && ieq d.2.2.2.1 q.2.2) = true := g2
    rw [Bool.and_eq_true] at g2'
    split
    · next q0 => rw [q0] at hb; cases hb
    · refine ⟨x, ?_, d3⟩
      rw [Nat.eq_of_beq_eq_true g2'.1, ieq_ok g2'.2]
      exact d2
theorem amods_ok {W : aW} {E : List aY} {ρ : List Int} {σ : List aV} {ρc : List Int} {D M : List aD} {a k : Nat} {d : aD} (hE : aE W E ρ) (hg : asg ρ σ ρc) (h : amods E D σ M = true) (hd : d ∈ M) (hm : amd W ρc d a k) : ∃ d' ∈ D, amd W ρ d' a k := by
  have g := List.all_eq_true.mp h d hd
  obtain ⟨m1, m2⟩ := hm
  cases hb : Nat.beq d.2.1 0 with
  | true =>
    rw [hb] at g
    rw [Nat.eq_of_beq_eq_true hb] at m2
    have m2 : d.2.2.2.1 ≤ (k : Int) ∧ (k : Int) ≤ d.2.2.2.2 := m2
    dsimp only [cond_true] at g
    obtain ⟨d', d1, d2⟩ := List.any_eq_true.mp g
    simp only [Bool.and_eq_true] at d2
    obtain ⟨e1, e2, e3, e4⟩ := d2
    refine ⟨d', d1, by rw [m1, Nat.eq_of_beq_eq_true e1], ?_⟩
    rw [Nat.eq_of_beq_eq_true e2]
    have e3 := ile_iff.mp e3
    have e4 := ile_iff.mp e4
    exact ⟨by omega, by omega⟩
  | false =>
    rw [hb] at g
    dsimp only [cond_false] at g
    split at g
    · next p hp =>
      split at m2
      · next q0 => rw [q0] at hb; cases hb
      · obtain ⟨y, y1, y2⟩ := m2
        rw [← m1] at g
        exact acovx hE g (asi_f hg hp y1) y2
    · cases g
def asum (E : List aY) (σ : List aV) : aM → Option aM
  | [] => some []
  | e :: r => match asuk σ e.1 with
    | some q => match asu σ e.2 with
      | some v => match asum E σ r with
        | some r' => match aiv E q.2.1 q.2.2 with
          | some p => some (((q.1, aix q.2.1 q.2.2 p), v) :: r')
          | none => none
        | none => none
      | none => none
    | none => none
theorem asum_ok {W : aW} {G : aG} {E : List aY} {ρ : List Int} {σ : List aV} {ρc : List Int} {h : zH} (hE : aE W E ρ) (hg : asg ρ σ ρc) : ∀ (mm m' : aM), asum E σ mm = some m' → (∀ e ∈ mm, ame W G ρc h e) → (∀ e ∈ m', ame W G ρ h e) ∧ ∀ e ∈ mm, ∃ e' ∈ m', ∀ a k : Nat, aden ρc e.1 a k → aden ρ e'.1 a k
  | [], m', hs, _ => by
    cases hs
    exact ⟨fun e he => (by cases he), fun e he => (by cases he)⟩
  | e :: r, m', hs, hm => by
    unfold asum at hs
    split at hs
    · next q hq =>
      split at hs
      · next v hv =>
        split at hs
        · next r' hr =>
          split at hs
          · next p hp =>
            cases hs
            obtain ⟨i1, i2⟩ := asum_ok hE hg r r' hr (fun e he => hm e (List.mem_cons_of_mem _ he))
            have key : ∀ a k : Nat, aden ρc e.1 a k → aden ρ (q.1, aix q.2.1 q.2.2 p) a k := fun a k hd => by
              obtain ⟨d1, x, d2, d3⟩ := asuk_f hg hq hd
              exact ⟨d1, x, aix_ok hE hp d2, d3⟩
            refine ⟨fun e' he => ?_, fun e' he => ?_⟩
            · rcases List.mem_cons.mp he with rfl | he
              · obtain ⟨a, k, w, h1, h2, h3, h4, h5⟩ := hm e List.mem_cons_self
                exact ⟨a, k, w, key a k h1, h2, h3, h4, asu_f hg hv h5⟩
              · exact i1 e' he
            · rcases List.mem_cons.mp he with rfl | he
              · exact ⟨_, List.mem_cons_self, key⟩
              · obtain ⟨e2, g1, g2⟩ := i2 e' he
                exact ⟨e2, List.mem_cons_of_mem _ g1, g2⟩
          · cases hs
        · cases hs
      · cases hs
    · cases hs
def asuo (σ : List aV) (a : Option aV) : Option (Option aV) := match a with
  | none => some none
  | some a => match asu σ a with
    | some b => some (some b)
    | none => none
theorem asuo_ok {ρ : List Int} {σ : List aV} {ρc : List Int} {a b : Option aV} {r : Option Value} (hg : asg ρ σ ρc) (h : asuo σ a = some b) (hr : arv ρc a r) : arv ρ b r := by
  cases a with
  | none => cases h; exact hr
  | some a =>
    dsimp only [asuo] at h
    split at h
    · next b' hb =>
      cases h
      obtain ⟨v, h1, h2⟩ := hr
      exact ⟨v, h1, asu_f hg hb h2⟩
    · cases h
/-- what an end tells of the entry's symbols -/
def arf1 (E : List aY) (a : aV) (t : aY) : Option (List aY) := match a, t with
  | .inl (s, c), (0, l, u) => acut E s c (l, u)
  | _, _ => some E
def aref : List aY → List aV → List aY → Option (List aY)
  | E, a :: σ, t :: ts => match arf1 E a t with
    | some E1 => aref E1 σ ts
    | none => none
  | E, _, _ => some E
theorem arf1_ok {W : aW} {E : List aY} {ρ : List Int} {a : aV} {t : aY} {z : Int} (hE : aE W E ρ) {ρx : List Int} (ha : adn ρ a z) (ht : aok W ρx t z) : ∃ E', arf1 E a t = some E' ∧ aE W E' ρ := by
  unfold arf1
  split
  · next s c l u =>
    obtain ⟨w, w1, w2, w3⟩ := ha
    have ht : l ≤ z ∧ z ≤ u := ht
    cases hn : anw E s c with
    | false =>
      refine ⟨E, ?_, hE⟩
      unfold acut
      rw [hn]
      rfl
    | true =>
      obtain ⟨y, y1, y2⟩ := anw_ok hE hn (x := Int32.ofInt (w + c)) ⟨w, w1, rfl⟩
      rw [w1] at y1
      cases y1
      have hz : (Int32.ofInt (w + c)).toInt = z := by
        rcases w3 with q | q
        · rw [y2, q]
        · exact q.symm
      exact acut_ok (q := (l, u)) hE (x := Int32.ofInt (w + c)) ⟨w, w1, rfl⟩ ⟨by rw [hz]; exact ht.1, by rw [hz]; exact ht.2⟩
  · exact ⟨E, rfl, hE⟩
theorem aref_ok {W : aW} {ρ ρx : List Int} : ∀ (σ : List aV) (ts : List aY) (ρc : List Int) (E : List aY), aE W E ρ → asg ρ σ ρc → (∀ (k : Nat) (t : aY) (z : Int), ts[k]? = some t → ρc[k]? = some z → aok W ρx t z) → ∃ E', aref E σ ts = some E' ∧ aE W E' ρ
  | [], _, _, E, hE, _, _ => ⟨E, by unfold aref; rfl, hE⟩
  | a :: σ, [], _, E, hE, _, _ => ⟨E, by unfold aref; rfl, hE⟩
  | a :: σ, t :: ts, [], E, hE, hg, _ => by have := hg.1; simp at this
  | a :: σ, t :: ts, z :: ρc, E, hE, hg, ht => by
    obtain ⟨E1, e1, e2⟩ := arf1_ok hE (hg.2 0 a z rfl rfl) (ht 0 t z rfl rfl)
    obtain ⟨E2, e3, e4⟩ := aref_ok σ ts ρc E1 e2 ⟨by simpa using hg.1, fun i b y h1 h2 => hg.2 (i + 1) b y (by simpa using h1) (by simpa using h2)⟩ (fun k t' z' h1 h2 => ht (k + 1) t' z' (by simpa using h1) (by simpa using h2))
    refine ⟨E2, ?_, e4⟩
    unfold aref
    rw [e1]
    exact e3
/-- without the rows -/
def akc (t : aY) : aY := bif Nat.ble 4 t.1 then (4, 0, 0) else t
/-- a row of the callee's in terms of what is known here -/
def atr (E : List aY) (σ : List aV) (t : aY) : aY := bif Nat.ble 4 t.1 then (match σ[t.1 - 4]? with
  | some (.inl (a, ca)) => match σ[t.2.1.toNat]? with
    | some (.inl (b, cb)) => bif anw E a ca && anw E b cb then (a + 4, (b : Int), t.2.2 + ca - cb) else (4, 0, 0)
    | _ => (4, 0, 0)
  | _ => (4, 0, 0)) else t
/-- the ends of a call here -/
def axts (E : List aY) (σ : List aV) (kept : aM) : List aXt → Option (List aXt)
  | [] => some []
  | x :: r => match aref E σ x.1 with
    | none => axts E σ kept r
    | some E1 => match asuo (σ ++ afrs E.length (x.1.drop σ.length)) x.2.1 with
      | some rv => match asum (E1 ++ (x.1.drop σ.length).map akc) (σ ++ afrs E.length (x.1.drop σ.length)) x.2.2 with
        | some m' => match axts E σ kept r with
          | some r' => some ((E1 ++ (x.1.drop σ.length).map (atr (E1 ++ (x.1.drop σ.length).map akc) (σ ++ afrs E.length (x.1.drop σ.length))), rv, m' ++ kept) :: r')
          | none => none
        | none => none
      | none => none
def acon (W : aW) (D : List aD) (E : List aY) (m : aM) (as : List aV) (q : aQ) : Option (List aY × List aV × List aXt) := bif Nat.beq as.length q.2.1.length then (match amt W 1 E m (aent q) ((aarg q).zip as) (aem q) with
  | some A => bif amods A.1 D A.2.2 q.2.2.2.2.1 then (match axts A.1 A.2.2 (A.2.1.filter (akeep A.1 A.2.2 q.2.2.2.2.1)) q.2.2.2.1 with
    | some xs => some (A.1, A.2.2, xs)
    | none => none) else none
  | none => none) else none
theorem afrs_len : ∀ (n : Nat) (ts : List aY), (afrs n ts).length = ts.length
  | _, [] => rfl
  | n, t :: ts => by rw [afrs, List.length_cons, List.length_cons, afrs_len (n + 1) ts]
theorem asg_ext {ρ : List Int} {σ : List aV} {ρc : List Int} : ∀ (ts : List aY) (e : List Int) (σ : List aV) (ρ ρc : List Int), asg ρ σ ρc → e.length = ts.length → asg (ρ ++ e) (σ ++ afrs ρ.length ts) (ρc ++ e)
  | [], [], σ, ρ, ρc, h, _ => by simpa [afrs] using h
  | [], z :: e, _, _, _, _, hl => by cases hl
  | t :: ts, [], _, _, _, _, hl => by cases hl
  | t :: ts, z :: e, σ, ρ, ρc, h, hl => by
    have h1 : asg (ρ ++ [z]) (σ ++ [afr t ρ.length]) (ρc ++ [z]) := (h.ext (aext.one z)).push (afr_adn (anew_get z))
    have h2 := asg_ext (ρ := ρ) (σ := σ) (ρc := ρc) ts e _ _ _ h1 (by simpa using hl)
    simp only [List.append_assoc, List.singleton_append, List.length_append, List.length_singleton] at h2
    exact h2
theorem axts_ok {E : List aY} {σ : List aV} {kept : aM} : ∀ (xs os : List aXt), axts E σ kept xs = some os → ∀ x ∈ xs, ∀ E1, aref E σ x.1 = some E1 → ∃ rv m', asuo (σ ++ afrs E.length (x.1.drop σ.length)) x.2.1 = some rv ∧ asum (E1 ++ (x.1.drop σ.length).map akc) (σ ++ afrs E.length (x.1.drop σ.length)) x.2.2 = some m' ∧ (E1 ++ (x.1.drop σ.length).map (atr (E1 ++ (x.1.drop σ.length).map akc) (σ ++ afrs E.length (x.1.drop σ.length))), rv, m' ++ kept) ∈ os
  | [], os, _, x, hx, _, _ => by cases hx
  | y :: r, os, hs, x, hx, E1, hE1 => by
    unfold axts at hs
    split at hs
    · next hn =>
      rcases List.mem_cons.mp hx with rfl | hx
      · rw [hE1] at hn; cases hn
      · exact axts_ok r os hs x hx E1 hE1
    · next E1' hn =>
      split at hs
      · next rv h1 =>
        split at hs
        · next m' h2 =>
          split at hs
          · next r' h3 =>
            cases hs
            rcases List.mem_cons.mp hx with rfl | hx
            · rw [hE1] at hn
              cases hn
              exact ⟨rv, m', h1, h2, List.mem_cons_self⟩
            · obtain ⟨rv', m'', g1, g2, g3⟩ := axts_ok r r' h3 x hx E1 hE1
              exact ⟨rv', m'', g1, g2, List.mem_cons_of_mem _ g3⟩
          · cases hs
        · cases hs
      · cases hs
theorem azip1 {α β : Type} : ∀ (as : List α) (bs : List β), as.length = bs.length → (as.zip bs).map (fun q => q.1) = as ∧ (as.zip bs).map (fun q => q.2) = bs
  | [], [], _ => ⟨rfl, rfl⟩
  | [], b :: bs, h => by cases h
  | a :: as, [], h => by cases h
  | a :: as, b :: bs, h => by
    obtain ⟨h1, h2⟩ := azip1 as bs (by simpa using h)
    exact ⟨by simp [h1], by simp [h2]⟩
set_option maxHeartbeats 1000000 in
theorem acon_ok {W : aW} {G : aG} {D : List aD} {h0 : zH} {E E' : List aY} {m : aM} {as : List aV} {q : aQ} {σ : List aV} {os : List aXt} {ρ : List Int} {h : zH} {vs : List Value} (hs : acon W D E m as q = some (E', σ, os)) (hE : aE W E ρ) (hH : aH W G ρ m h) (hv : aSt ρ as vs) (hF : aF W G ρ D h0 h) : ∃ ρ' ρc, aext ρ ρ' ∧ aE W E' ρ' ∧ asg ρ' σ ρc ∧ aE W (aent q) ρc ∧ aSt ρc (aarg q) vs ∧ aH W G ρc (aem q) h ∧ ∀ (r : Option Value) (h' : zH), aEnd W G q.2.2.2.2.1 ρc h (aent q) q.2.2.2.1 r h' → ∃ o ∈ os, ∃ ρ'', aext ρ ρ'' ∧ aE W o.1 ρ'' ∧ arv ρ'' o.2.1 r ∧ aH W G ρ'' o.2.2 h' ∧ aF W G ρ'' D h0 h' := by
  unfold acon at hs
  cases hl : Nat.beq as.length q.2.1.length with
  | false => rw [hl] at hs; cases hs
  | true =>
    rw [hl] at hs
    dsimp only [cond_true] at hs
    split at hs
    · next A hA =>
      cases hm : amods A.1 D A.2.2 q.2.2.2.2.1 with
      | false => rw [hm] at hs; cases hs
      | true =>
        rw [hm] at hs
        dsimp only [cond_true] at hs
        split at hs
        · next xs hxs =>
          cases hs
          have hlen : (aarg q).length = as.length := by
            unfold aarg
            rw [afrs_len, Nat.eq_of_beq_eq_true hl]
          obtain ⟨z1, z2⟩ := azip1 _ _ hlen
          obtain ⟨E', m', σ⟩ := A
          obtain ⟨ρ', ρc, x1, E1, H1, g1, Ec, xc, sc, Hc⟩ := amt_ok (G := G) (h := h) (vs := vs) hA hE hH (by rw [z2]; exact hv)
          rw [z1] at sc
          refine ⟨ρ', ρc, x1, E1, g1, Ec, sc, Hc, fun r h' he => ?_⟩
          obtain ⟨x, hx, ρc', y1, y0, y2, y3, y4, y5⟩ := he
          obtain ⟨e, rfl⟩ := y1
          have ls : σ.length = (aent q).length := by rw [g1.1, Ec.1]
          obtain ⟨Er, hEr, hEr2⟩ := aref_ok σ x.1 ρc E' E1 g1 (fun k t z h1 h2 => y2.2.2 k t z h1 (by
            rw [List.getElem?_append_left (List.getElem?_eq_some_iff.mp h2).1]
            exact h2))
          obtain ⟨rv, m'', w1, w2, w3⟩ := axts_ok _ _ hxs x hx Er hEr
          have le : e.length = (x.1.drop σ.length).length := by
            have := y2.1
            rw [List.length_append, Ec.1] at this
            rw [List.length_drop, ls]
            omega
          have lE : Er.length = E'.length := by rw [← hEr2.1, E1.1]
          have g2 : asg (ρ' ++ e) (σ ++ afrs E'.length (x.1.drop σ.length)) (ρc ++ e) := by
            have := asg_ext (ρ := ρ') (σ := σ) (ρc := ρc) (x.1.drop σ.length) e σ ρ' ρc g1 le
            rw [E1.1] at this
            exact this
          have xx : aext ρ' (ρ' ++ e) := ⟨e, rfl⟩
          have old : ∀ (k : Nat) (t0 : aY) (z : Int), (x.1.drop σ.length)[k]? = some t0 → (ρ' ++ e)[Er.length + k]? = some z → aok W (ρc ++ e) t0 z := fun k t0 z k1 k2 => by
            rw [List.getElem?_drop] at k1
            rw [List.getElem?_append_right (by rw [hEr2.1]; omega), hEr2.1, Nat.add_sub_cancel_left] at k2
            refine y2.2.2 (σ.length + k) t0 z k1 ?_
            rw [List.getElem?_append_right (by rw [Ec.1, ← ls]; omega), Ec.1, ← ls, Nat.add_sub_cancel_left]
            exact k2
          have mkE : ∀ f : aY → aY, (∀ (k : Nat) (t0 : aY) (z : Int), (x.1.drop σ.length)[k]? = some t0 → (ρ' ++ e)[Er.length + k]? = some z → aok W (ρ' ++ e) (f t0) z) → aE W (Er ++ (x.1.drop σ.length).map f) (ρ' ++ e) := fun f hf => by
            refine ⟨by rw [List.length_append, List.length_append, hEr2.1, le, List.length_map], xx.get hEr2.2.1, fun k t z k1 k2 => ?_⟩
            by_cases hk : k < Er.length
            · rw [List.getElem?_append_left hk] at k1
              have k3 : ρ'[k]? = some z := by
                rw [List.getElem?_append_left (by rw [hEr2.1]; exact hk)] at k2
                exact k2
              exact (hEr2.2.2 k t z k1 k3).ext xx
            · rw [List.getElem?_append_right (by omega), List.getElem?_map] at k1
              obtain ⟨t0, q1, q2⟩ := Option.map_eq_some_iff.mp k1
              rw [← q2]
              exact hf (k - Er.length) t0 z q1 (by rw [show Er.length + (k - Er.length) = k by omega]; exact k2)
          have low : ∀ t0 : aY, Nat.ble 4 t0.1 = false → t0.1 < 4 := fun t0 h4 => by
            cases hh : Nat.decLt t0.1 4 with
            | isTrue h => exact h
            | isFalse h => rw [Nat.ble_eq_true_of_le (by omega)] at h4; cases h4
          have triv : ∀ z : Int, aok W (ρ' ++ e) (4, 0, 0) z := fun z => ⟨0, 0, xx.get hEr2.2.1, xx.get hEr2.2.1, by omega⟩
          have E2 : aE W (Er ++ (x.1.drop σ.length).map akc) (ρ' ++ e) := mkE akc (fun k t0 z k1 k2 => by
            unfold akc
            cases h4 : Nat.ble 4 t0.1 with
            | true => exact triv z
            | false => exact (old k t0 z k1 k2).re (low t0 h4))
          have E3 : aE W (Er ++ (x.1.drop σ.length).map (atr (Er ++ (x.1.drop σ.length).map akc) (σ ++ afrs E'.length (x.1.drop σ.length)))) (ρ' ++ e) := mkE _ (fun k t0 z k1 k2 => by
            have ho := old k t0 z k1 k2
            unfold atr
            cases h4 : Nat.ble 4 t0.1 with
            | false => exact ho.re (low t0 h4)
            | true =>
              dsimp only [cond_true]
              split
              · next a ca hsa =>
                split
                · next b cb hsb =>
                  cases hn : (anw (Er ++ (x.1.drop σ.length).map akc) a ca && anw (Er ++ (x.1.drop σ.length).map akc) b cb) with
                  | false => exact triv z
                  | true =>
                    rw [Bool.and_eq_true] at hn
                    have ho2 : arl (ρc ++ e) (t0.1 - 4) t0.2.1.toNat t0.2.2 := by
                      obtain ⟨n0, l0, u0⟩ := t0
                      match n0, h4, ho with
                      | n0 + 4, _, ho => exact ho
                    obtain ⟨y, y', v1, v2, v3⟩ := ho2
                    obtain ⟨w, w4, w5⟩ := adn_ex E2 hn.1 (g2.2 _ _ _ hsa v1)
                    obtain ⟨w', w4', w5'⟩ := adn_ex E2 hn.2 (g2.2 _ _ _ hsb v2)
                    exact ⟨w, w', w4, by rw [Int.toNat_natCast]; exact w4', by omega⟩
                · exact triv z
              · exact triv z)
          obtain ⟨i1, i2⟩ := asum_ok (G := G) (h := h') E2 g2 x.2.2 m'' w2 (fun e he => y4.2.2 e he)
          refine ⟨_, w3, ρ' ++ e, x1.trans xx, E3, asuo_ok g2 w1 y3, ⟨y4.1, fun a k ha hk => ?_, fun e' he => ?_⟩, ?_⟩
          · obtain ⟨v, q1, q2⟩ := y4.2.1 a k ha hk
            refine ⟨v, q1, ?_⟩
            rcases q2 with q2 | ⟨e', he', q2⟩
            · exact Or.inl q2
            · obtain ⟨e2, k1, k2⟩ := i2 e' he'
              exact Or.inr ⟨e2, List.mem_append_left _ k1, k2 a k q2⟩
          · rcases List.mem_append.mp he with he | he
            · exact i1 e' he
            · obtain ⟨he, hk⟩ := List.mem_filter.mp he
              obtain ⟨a, k, v, q1, q2, q3, q4, q5⟩ := H1.2.2 e' he
              refine ⟨a, k, v, q1.ext xx, q2, q3, ?_, q5.ext xx⟩
              rw [y5.2 a k q2 q3 (akeep_ok E1 g1 hk q1)]
              exact q4
          · have hF' := (hF.ext x1).ext xx
            refine ⟨y5.1.trans hF'.1, fun a k ha hk hn => ?_⟩
            rw [y5.2 a k ha hk (fun d hd hm' => by
              obtain ⟨d', d1, d2⟩ := amods_ok E1 g1 hm hd hm'
              exact hn d' d1 (d2.ext xx))]
            exact hF'.2 a k ha hk hn
        · cases hs
    · cases hs
end
section
/-! Runs: steps, calls, ends. -/
def astp (Y : zX) (c nL : Nat) (W : aW) (Pt : aPt) (D : List aD) (i : Instr) (pc : Nat) (S : aS) : Option (List aO) := match astL nL i pc S.1 S.2.1 S.2.2.1 S.2.2.2 with
  | some os => some os
  | none => match astI i pc S.1 S.2.1 S.2.2.1 S.2.2.2 with
    | some os => some os
    | none => astH Y c W Pt D i pc S.1 S.2.1 S.2.2.1 S.2.2.2
theorem zIL {X : zX} {i : Instr} {pc nL : Nat} {ls : zL} {st : List Value} {h : zH} {q : Nat × zL × List Value × zH} (hq : zstL nL i pc ls st h = some q) : zstI X i pc ls st h = none := by
  cases i with
  | iconst n => rfl
  | bipush n => rfl
  | sipush n => rfl
  | lconst n => rfl
  | iload_n k => rfl
  | iload k => rfl
  | lload_n k => rfl
  | lload k => rfl
  | aload_n k => rfl
  | aload k => rfl
  | istore_n k => rfl
  | istore k => rfl
  | lstore_n k => rfl
  | lstore k => rfl
  | astore_n k => rfl
  | astore k => rfl
  | iinc k n => rfl
  | _ => cases hq
theorem zIH {X : zX} {ini : Bool} {c : Nat} {i : Instr} {pc nL : Nat} {ls : zL} {st : List Value} {h : zH} {q : Nat × zL × List Value × zH} (hq : zstH X ini c i pc ls st h = some q) : zstI X i pc ls st h = none ∧ zstL nL i pc ls st h = none := by
  cases i with
  | getfield j => exact ⟨rfl, rfl⟩
  | putfield j => exact ⟨rfl, rfl⟩
  | getstatic j => exact ⟨rfl, rfl⟩
  | ldc j => exact ⟨rfl, rfl⟩
  | ldc_w j => exact ⟨rfl, rfl⟩
  | ldc2_w j => exact ⟨rfl, rfl⟩
  | iaload => exact ⟨rfl, rfl⟩
  | baload => exact ⟨rfl, rfl⟩
  | laload => exact ⟨rfl, rfl⟩
  | aaload => exact ⟨rfl, rfl⟩
  | iastore => exact ⟨rfl, rfl⟩
  | bastore => exact ⟨rfl, rfl⟩
  | lastore => exact ⟨rfl, rfl⟩
  | aastore => exact ⟨rfl, rfl⟩
  | arraylength => exact ⟨rfl, rfl⟩
  | new j => exact ⟨rfl, rfl⟩
  | newarray t => exact ⟨rfl, rfl⟩
  | anewarray j => exact ⟨rfl, rfl⟩
  | _ => cases hq
theorem astp_ok {W : aW} {G : aG} {Pt : aPt} {D : List aD} {h0 : zH} {ρ : List Int} {Y X : zX} {ini : Bool} {c nL : Nat} {i : Instr} {pc : Nat} {S : aS} {os : List aO} {cl : zL} {cst : List Value} {h : zH} (hX : aXX Y X) (hG : aGok W G Pt) (hL : ∀ s : Nat, (afm W s).2.2.1 < 1000000) (hs : astp Y c nL W Pt D i pc S = some os) (hR : aRel W G D h0 ρ S cl cst h) : ∃ (pc' : Nat) (cl' : zL) (cst' : List Value) (h' : zH), zstep X nL ini c i pc cl cst h = some (pc', cl', cst', h') ∧ ∃ S' : aS, (pc', S') ∈ os ∧ ∃ ρ', aext ρ ρ' ∧ aRel W G D h0 ρ' S' cl' cst' h' := by
  unfold astp at hs
  split at hs
  · next os' h1 =>
    cases hs
    obtain ⟨pc', cl', cst', g1, S', g2, ρ', g3, g4⟩ := astL_ok h1 hR
    refine ⟨pc', cl', cst', h, ?_, S', g2, ρ', g3, g4⟩
    unfold zstep
    rw [zIL g1, g1]
  · split at hs
    · next os' h1 =>
      cases hs
      obtain ⟨pc', cst', g1, S', g2, ρ', g3, g4⟩ := astI_ok (X := X) h1 hR
      refine ⟨pc', cl, cst', h, ?_, S', g2, ρ', g3, g4⟩
      unfold zstep
      rw [g1]
    · obtain ⟨pc', cst', h', g1, S', g2, ρ', g3, g4⟩ := astH_ok (ini := ini) hX hG hL hs hR
      refine ⟨pc', cl, cst', h', ?_, S', g2, ρ', g3, g4⟩
      obtain ⟨k1, k2⟩ := zIH (nL := nL) g1
      unfold zstep
      rw [k1, k2]
      exact g1
def azw (r : List aV) : Bool := Nat.ble (r.map acat).sum 8
theorem azw_ok {ρ : List Int} {r : List aV} {cr : List Value} (h : azw r = true) (hr : aSt ρ r cr) : zw8 cr = true := by
  unfold zw8
  rw [hr.cat]
  exact decide_eq_true (able h)
/-- Math's methods -/
def amath (I : zI) (c : Nat) (i : Instr) (E : List aY) (st : List aV) : Option (List (List aY × List aV)) := match i with
  | .invokestatic j => match I c j with
    | some (5, _, _) => match st with
      | .inl (s', c') :: .inl (s, c) :: r => match aiv E s c, aiv E s' c' with
        | some p, some q => bif azw r then some [(E ++ [(0, imx p.1 q.1, imx p.2 q.2)], .inl (E.length, 0) :: r)] else none
        | _, _ => none
      | _ => none
    | some (6, _, _) => match st with
      | .inl (s', c') :: .inl (s, c) :: r => match aiv E s c, aiv E s' c' with
        | some p, some q => bif azw r then some [(E ++ [(0, imn p.1 q.1, imn p.2 q.2)], .inl (E.length, 0) :: r)] else none
        | _, _ => none
      | _ => none
    | some (7, _, _) => match st with
      | .inl (s, c) :: r => match aiv E s c with
        | some p => bif azw r then some [(E ++ [bif ile p.1 (-2147483648) then aFI else (0, 0, imx (-p.1) p.2)], .inl (E.length, 0) :: r)] else none
        | none => none
      | _ => none
    | some (8, _, _) => match st with
      | .inr (.inl _) :: .inr (.inl _) :: r => bif azw r then some [(E ++ [aFL], .inr (.inl E.length) :: r)] else none
      | _ => none
    | some (9, _, _) => match st with
      | .inr (.inl _) :: .inr (.inl _) :: r => bif azw r then some [(E ++ [aFL], .inr (.inl E.length) :: r)] else none
      | _ => none
    | some (10, _, _) => match st with
      | .inr (.inl s) :: r => match alv E s with
        | some p => bif azw r then (bif an0 p then some [(E ++ [(1, 1, 9223372036854775807)], .inr (.inl E.length) :: r), (E ++ [(1, -9223372036854775808, -9223372036854775808)], .inr (.inl E.length) :: r)] else some [(E ++ [aFL], .inr (.inl E.length) :: r)]) else none
        | none => none
      | _ => none
    | _ => none
  | _ => none
theorem amath_ok {W : aW} {I : zI} {c : Nat} {i : Instr} {E : List aY} {st : List aV} {os : List (List aY × List aV)} {ρ : List Int} {cst : List Value} (hs : amath I c i E st = some os) (hE : aE W E ρ) (hst : aSt ρ st cst) : ∃ cst', zobjI I c i cst = some cst' ∧ ∃ o ∈ os, ∃ ρ', aext ρ ρ' ∧ aE W o.1 ρ' ∧ aSt ρ' o.2 cst' := by
  cases i with
  | invokestatic j =>
    dsimp only [amath] at hs
    split at hs
    · next hI =>
      split at hs
      · next s' c' s c0 r =>
        split at hs
        · next p q hp hq =>
          cases hz : azw r with
          | false => rw [hz] at hs; cases hs
          | true =>
            rw [hz] at hs
            cases hs
            obtain ⟨y, cr, rfl, hy, hst⟩ := as1 hst
            obtain ⟨x, cr, rfl, hx, hst⟩ := as1 hst
            have ix := aiv_in hE hp hx
            have iy := aiv_in hE hq hy
            obtain ⟨g1, g2⟩ := anewi hE (if x < y then y else x) (t := (0, imx p.1 q.1, imx p.2 q.2)) (by
              rw [imx_eq, imx_eq]
              split
              · next hh => have := Int32.lt_iff_toInt_lt.mp hh; exact ⟨by omega, by omega⟩
              · next hh => have := mt Int32.lt_iff_toInt_lt.mpr hh; exact ⟨by omega, by omega⟩)
            refine ⟨_, ?_, _, List.mem_cons_self, _, aext.one _, g1, aps g2 (hst.ext (aext.one _))⟩
            simp only [zobjI, hI]
            rw [if_pos (azw_ok hz hst)]
        · cases hs
      · cases hs
    · next hI =>
      split at hs
      · next s' c' s c0 r =>
        split at hs
        · next p q hp hq =>
          cases hz : azw r with
          | false => rw [hz] at hs; cases hs
          | true =>
            rw [hz] at hs
            cases hs
            obtain ⟨y, cr, rfl, hy, hst⟩ := as1 hst
            obtain ⟨x, cr, rfl, hx, hst⟩ := as1 hst
            have ix := aiv_in hE hp hx
            have iy := aiv_in hE hq hy
            obtain ⟨g1, g2⟩ := anewi hE (if y < x then y else x) (t := (0, imn p.1 q.1, imn p.2 q.2)) (by
              rw [imn_eq, imn_eq]
              split
              · next hh => have := Int32.lt_iff_toInt_lt.mp hh; exact ⟨by omega, by omega⟩
              · next hh => have := mt Int32.lt_iff_toInt_lt.mpr hh; exact ⟨by omega, by omega⟩)
            refine ⟨_, ?_, _, List.mem_cons_self, _, aext.one _, g1, aps g2 (hst.ext (aext.one _))⟩
            simp only [zobjI, hI]
            rw [if_pos (azw_ok hz hst)]
        · cases hs
      · cases hs
    · next hI =>
      split at hs
      · next s c0 r =>
        split at hs
        · next p hp =>
          cases hz : azw r with
          | false => rw [hz] at hs; cases hs
          | true =>
            rw [hz] at hs
            cases hs
            obtain ⟨x, cr, rfl, hx, hst⟩ := as1 hst
            have ix := aiv_in hE hp hx
            obtain ⟨g1, g2⟩ := anewi hE (if 0 ≤ x then x else 0 - x) (t := bif ile p.1 (-2147483648) then aFI else (0, 0, imx (-p.1) p.2)) (by
              cases hb : ile p.1 (-2147483648) with
              | true => exact aFI_ok _
              | false =>
                have hb := ile_f hb
                have e0 : (0 : Int32).toInt = 0 := rfl
                show 0 ≤ _ ∧ _ ≤ imx (-p.1) p.2
                rw [imx_eq]
                split
                · next hh => have := Int32.le_iff_toInt_le.mp hh; rw [e0] at this; exact ⟨by omega, by omega⟩
                · next hh =>
                  have := mt Int32.le_iff_toInt_le.mpr hh
                  rw [e0] at this
                  have h9 := ab x
                  rw [aofsub, e0, ai32 (by omega) (by omega)]
                  exact ⟨by omega, by omega⟩)
            refine ⟨_, ?_, _, List.mem_cons_self, _, aext.one _, g1, aps g2 (hst.ext (aext.one _))⟩
            simp only [zobjI, hI]
            rw [if_pos (azw_ok hz hst)]
        · cases hs
      · cases hs
    · next hI =>
      split at hs
      · next s' s r =>
        cases hz : azw r with
        | false => rw [hz] at hs; cases hs
        | true =>
          rw [hz] at hs
          cases hs
          obtain ⟨y, cr, rfl, hy, hst⟩ := asl hst
          obtain ⟨x, cr, rfl, hx, hst⟩ := asl hst
          obtain ⟨g1, g2⟩ := anewl hE (if y < x then x else y) (aFL_ok _)
          refine ⟨_, ?_, _, List.mem_cons_self, _, aext.one _, g1, ⟨_, _, rfl, g2, hst.ext (aext.one _)⟩⟩
          simp only [zobjI, hI]
          rw [if_pos (azw_ok hz hst)]
      · cases hs
    · next hI =>
      split at hs
      · next s' s r =>
        cases hz : azw r with
        | false => rw [hz] at hs; cases hs
        | true =>
          rw [hz] at hs
          cases hs
          obtain ⟨y, cr, rfl, hy, hst⟩ := asl hst
          obtain ⟨x, cr, rfl, hx, hst⟩ := asl hst
          obtain ⟨g1, g2⟩ := anewl hE (if y < x then y else x) (aFL_ok _)
          refine ⟨_, ?_, _, List.mem_cons_self, _, aext.one _, g1, ⟨_, _, rfl, g2, hst.ext (aext.one _)⟩⟩
          simp only [zobjI, hI]
          rw [if_pos (azw_ok hz hst)]
      · cases hs
    · next hI =>
      split at hs
      · next s r =>
        split at hs
        · next p hp =>
          cases hz : azw r with
          | false => rw [hz] at hs; cases hs
          | true =>
            rw [hz] at hs
            dsimp only [cond_true] at hs
            obtain ⟨x, cr, rfl, hx, hst⟩ := asl hst
            obtain ⟨x', e, -, hb⟩ := alv_ok hE hp hx
            cases e
            have hz2 : zobjI I c (.invokestatic j) (.long x :: cr) = some (.long (if 0 < x then x else -x) :: cr) := by
              simp only [zobjI, hI]
              rw [if_pos (azw_ok hz hst)]
            cases h0 : an0 p with
            | false =>
              rw [h0] at hs
              cases hs
              obtain ⟨g1, g2⟩ := anewl hE (if 0 < x then x else -x) (aFL_ok _)
              exact ⟨_, hz2, _, List.mem_cons_self, _, aext.one _, g1, ⟨_, _, rfl, g2, hst.ext (aext.one _)⟩⟩
            | true =>
              rw [h0] at hs
              cases hs
              have hne := an0l h0 hb
              have e0 : (0 : Int64).toInt = 0 := rfl
              have hxb := abl x
              by_cases hp0 : 0 < x
              · have hp1 := Int64.lt_iff_toInt_lt.mp hp0
                rw [e0] at hp1
                obtain ⟨g1, g2⟩ := anewl hE (if 0 < x then x else -x) (t := (1, 1, 9223372036854775807)) (by
                  rw [if_pos hp0]
                  exact ⟨⟨by omega, by omega⟩, by omega, by omega⟩)
                exact ⟨_, hz2, _, List.mem_cons_self, _, aext.one _, g1, ⟨_, _, rfl, g2, hst.ext (aext.one _)⟩⟩
              · have hp1 := mt Int64.lt_iff_toInt_lt.mpr hp0
                rw [e0] at hp1
                have hx0 : x.toInt ≠ 0 := fun q => hne (Int64.toInt_inj.mp (by rw [q]; rfl))
                have en : -x = Int64.ofInt (-x.toInt) := by rw [Int64.ofInt_neg, Int64.ofInt_toInt]
                by_cases hm : x.toInt = -9223372036854775808
                · obtain ⟨g1, g2⟩ := anewl hE (if 0 < x then x else -x) (t := (1, -9223372036854775808, -9223372036854775808)) (by
                    rw [if_neg hp0, en, hm]
                    exact ⟨⟨by decide, by decide⟩, by decide, by decide⟩)
                  exact ⟨_, hz2, _, List.mem_cons_of_mem _ List.mem_cons_self, _, aext.one _, g1, ⟨_, _, rfl, g2, hst.ext (aext.one _)⟩⟩
                · obtain ⟨g1, g2⟩ := anewl hE (if 0 < x then x else -x) (t := (1, 1, 9223372036854775807)) (by
                    rw [if_neg hp0, en, ai64 (by omega) (by omega)]
                    exact ⟨⟨by omega, by omega⟩, by omega, by omega⟩)
                  exact ⟨_, hz2, _, List.mem_cons_self, _, aext.one _, g1, ⟨_, _, rfl, g2, hst.ext (aext.one _)⟩⟩
        · cases hs
      · cases hs
    · cases hs
  | _ => cases hs
/-- a call: method, arguments, what is left of the stack -/
def acal (Y : zX) (I : zI) (mcl : Nat → Nat) (W : aW) (c : Nat) (i : Instr) (E : List aY) (st : List aV) : Option (Nat × List aV × List aV) := match i with
  | .invokevirtual j => match I c j with
    | some (1, mi, n) => match st.drop n with
      | .inr (.inr (.inl r)) :: rest => match E[r]? with
        | some (2, s, _) => bif (Nat.beq (afm W s.toNat).1 (mcl mi) && Nat.beq (afm W s.toNat).2.1 0) && (Nat.ble n st.length && azw rest) then some (mi, .inr (.inr (.inl r)) :: (st.take n).reverse, rest) else none
        | _ => none
      | .inr (.inr (.inr e)) :: rest => bif Nat.beq e 999 then none else (match zxcl Y e with
        | some k => bif Nat.beq k (mcl mi) && (Nat.ble n st.length && azw rest) then some (mi, .inr (.inr (.inr e)) :: (st.take n).reverse, rest) else none
        | none => none)
      | _ => none
    | _ => none
  | .invokestatic j => match I c j with
    | some (2, mi, n) => bif Nat.ble n st.length && azw (st.drop n) then some (mi, (st.take n).reverse, st.drop n) else none
    | _ => none
  | .invokespecial j => match I c j with
    | some (4, mi, n) => match st.drop n with
      | .inr (.inr (.inl r)) :: rest => bif Nat.ble n st.length && azw rest then some (mi, .inr (.inr (.inl r)) :: (st.take n).reverse, rest) else none
      | _ => none
    | _ => none
  | _ => none
theorem acal_ok {W : aW} {Y X : zX} {I : zI} {mcl : Nat → Nat} {c : Nat} {i : Instr} {E : List aY} {st as rest : List aV} {mi : Nat} {ρ : List Int} {cst : List Value} {h : zH} (hX : aXX Y X) (hs : acal Y I mcl W c i E st = some (mi, as, rest)) (hE : aE W E ρ) (hSh : aSh W h) (hst : aSt ρ st cst) : ∃ vs cr, zcall X I mcl c i cst h = some (mi, vs, cr) ∧ aSt ρ as vs ∧ aSt ρ rest cr := by
  have hlen := hst.len
  cases i with
  | invokevirtual j =>
    dsimp only [acal] at hs
    split at hs
    · next mi' n hI =>
      have hd := hst.drop n
      have ht := (hst.take n).rev
      split at hs
      · next r rest' hdr =>
        split at hs
        · next s s' hr =>
          cases hb : ((Nat.beq (afm W s.toNat).1 (mcl mi') && Nat.beq (afm W s.toNat).2.1 0) && (Nat.ble n st.length && azw rest')) with
          | false => rw [hb] at hs; cases hs
          | true =>
            rw [hb] at hs
            cases hs
            simp only [Bool.and_eq_true] at hb
            obtain ⟨⟨b1, b2⟩, b3, b4⟩ := hb
            rw [hdr] at hd
            obtain ⟨a, cr, e1, har, hcr⟩ := asr hd
            obtain ⟨ha, hso⟩ := asort_of hE hr har
            obtain ⟨e, g1, g2⟩ := hSh _ ha
            have e2 : s.toNat = asrt W a := by omega
            rw [e2] at b1 b2
            obtain ⟨fs, rfl, g3⟩ := ash0 g2 (Nat.eq_of_beq_eq_true b2)
            refine ⟨.ref a :: (cst.take n).reverse, cr, ?_, ⟨_, _, rfl, ⟨a, har, rfl⟩, ht⟩, hcr⟩
            simp only [zcall, hI, e1, g1]
            rw [if_pos ⟨Nat.eq_of_beq_eq_true b1, by rw [hlen]; exact able b3, azw_ok b4 hcr⟩]
        · cases hs
      · next e rest' hdr =>
        cases hq : Nat.beq e 999 with
        | true => rw [hq] at hs; cases hs
        | false =>
          rw [hq] at hs
          dsimp only [cond_false] at hs
          split at hs
          · next k hk =>
            cases hb : (Nat.beq k (mcl mi') && (Nat.ble n st.length && azw rest')) with
            | false => rw [hb] at hs; cases hs
            | true =>
              rw [hb] at hs
              cases hs
              simp only [Bool.and_eq_true] at hb
              obtain ⟨b1, b3, b4⟩ := hb
              rw [hdr] at hd
              obtain ⟨w, cr, e1, hw, hcr⟩ := hd
              have hw' := avx hw hq
              subst hw'
              refine ⟨.retAddr e :: (cst.take n).reverse, cr, ?_, ⟨_, _, rfl, hw, ht⟩, hcr⟩
              simp only [zcall, hI, e1]
              rw [if_pos ⟨by rw [← hX.2.2.2.2.2.2.2, hk, Nat.eq_of_beq_eq_true b1], by rw [hlen]; exact able b3, azw_ok b4 hcr⟩]
          · cases hs
      · cases hs
    · cases hs
  | invokestatic j =>
    dsimp only [acal] at hs
    split at hs
    · next mi' n hI =>
      have hd := hst.drop n
      have ht := (hst.take n).rev
      cases hb : (Nat.ble n st.length && azw (st.drop n)) with
      | false => rw [hb] at hs; cases hs
      | true =>
        rw [hb] at hs
        cases hs
        simp only [Bool.and_eq_true] at hb
        refine ⟨(cst.take n).reverse, cst.drop n, ?_, ht, hd⟩
        simp only [zcall, hI]
        rw [if_pos ⟨by rw [hlen]; exact able hb.1, azw_ok hb.2 hd⟩]
    · cases hs
  | invokespecial j =>
    dsimp only [acal] at hs
    split at hs
    · next mi' n hI =>
      have hd := hst.drop n
      have ht := (hst.take n).rev
      split at hs
      · next r rest' hdr =>
        cases hb : (Nat.ble n st.length && azw rest') with
        | false => rw [hb] at hs; cases hs
        | true =>
          rw [hb] at hs
          cases hs
          simp only [Bool.and_eq_true] at hb
          rw [hdr] at hd
          obtain ⟨a, cr, e1, har, hcr⟩ := asr hd
          refine ⟨.ref a :: (cst.take n).reverse, cr, ?_, ⟨_, _, rfl, ⟨a, har, rfl⟩, ht⟩, hcr⟩
          simp only [zcall, hI, e1]
          rw [if_pos ⟨by rw [hlen]; exact able hb.1, azw_ok hb.2 hcr⟩]
      · cases hs
    · cases hs
  | _ => cases hs
end
section
/-! A method's run, all ways. -/
def anar (E : List aY) (t : FieldType) (s : Nat) (c : Int) : Bool := match t with
  | .int => true
  | .boolean => match aiv E s c with
    | some p => ile 0 p.1 && ile p.2 1
    | none => false
  | .char => match aiv E s c with
    | some p => ile 0 p.1 && ile p.2 65535
    | none => false
  | .byte => match aiv E s c with
    | some p => ile 0 p.1 && ile p.2 1
    | none => false
  | _ => false
theorem achar {x : Int32} (h1 : 0 ≤ x.toInt) (h2 : x.toInt ≤ 65535) : x.toUInt32.toUInt16.toUInt32.toInt32 = x := by
  have hn := atonat h1
  apply Int32.toBitVec_inj.mp
  apply BitVec.eq_of_toNat_eq
  have e1 : x.toUInt32.toUInt16.toUInt32.toInt32.toBitVec.toNat = x.toUInt32.toNat % 65536 := by
    show x.toUInt32.toUInt16.toUInt32.toNat = _
    rw [UInt16.toNat_toUInt32, UInt32.toNat_toUInt16]
  have e2 : x.toUInt32.toNat = x.toBitVec.toNat := rfl
  rw [e1, e2]
  omega
theorem anar_ok {W : aW} {E : List aY} {ρ : List Int} {t : FieldType} {s : Nat} {c : Int} {x : Int32} (hE : aE W E ρ) (h : anar E t s c = true) (hx : ai ρ s c x) : narrow t (.int x) = .int x := by
  have b01 : ∀ p : Int × Int, aiv E s c = some p → (ile 0 p.1 && ile p.2 1) = true → x = 0 ∨ x = 1 := fun p hp hb => by
    have := aiv_in hE hp hx
    rw [Bool.and_eq_true] at hb
    have h1 := ile_iff.mp hb.1
    have h2 := ile_iff.mp hb.2
    rcases (show x.toInt = 0 ∨ x.toInt = 1 by omega) with q | q
    · exact Or.inl (Int32.toInt_inj.mp q)
    · exact Or.inr (Int32.toInt_inj.mp q)
  unfold anar at h
  split at h
  · rfl
  · split at h
    · next p hp => rcases b01 p hp h with rfl | rfl <;> rfl
    · cases h
  · split at h
    · next p hp =>
      have := aiv_in hE hp hx
      rw [Bool.and_eq_true] at h
      have h1 := ile_iff.mp h.1
      have h2 := ile_iff.mp h.2
      show Value.int _ = Value.int x
      rw [achar (by omega) (by omega)]
    · cases h
  · split at h
    · next p hp => rcases b01 p hp h with rfl | rfl <;> rfl
    · cases h
  · cases h
def arets (rt : Option FieldType) (i : Instr) (E : List aY) (st : List aV) : Option (Option aV) := match i with
  | .ireturn => match st with
    | [.inl (s, c)] => match rt with
      | some t => bif anar E t s c then some (some (.inl (s, c))) else none
      | none => none
    | _ => none
  | .lreturn => match st with
    | [.inr (.inl s)] => match rt with
      | some .long => some (some (.inr (.inl s)))
      | _ => none
    | _ => none
  | .areturn => match st with
    | [.inr (.inr (.inl s))] => match rt with
      | some (.object _) => some (some (.inr (.inr (.inl s))))
      | _ => none
    | _ => none
  | .return_ => match st with
    | [] => match rt with
      | none => some none
      | _ => none
    | _ => none
  | _ => none
theorem arets_ok {W : aW} {rt : Option FieldType} {i : Instr} {E : List aY} {st : List aV} {r : Option aV} {ρ : List Int} {cst : List Value} (hs : arets rt i E st = some r) (hE : aE W E ρ) (hst : aSt ρ st cst) : ∃ rv, zret rt i cst = some rv ∧ arv ρ r rv := by
  cases i with
  | ireturn =>
    dsimp only [arets] at hs
    split at hs
    · next s c =>
      split at hs
      · next t =>
        cases hb : anar E t s c with
        | false => rw [hb] at hs; cases hs
        | true =>
          rw [hb] at hs
          cases hs
          obtain ⟨x, cr, rfl, hx, hst⟩ := as1 hst
          rw [show cr = [] from hst]
          refine ⟨some (.int x), ?_, _, rfl, x, hx, rfl⟩
          dsimp only [zret]
          rw [if_pos (anar_ok hE hb hx)]
      · cases hs
    · cases hs
  | lreturn =>
    dsimp only [arets] at hs
    split at hs
    · split at hs
      · cases hs
        obtain ⟨x, cr, rfl, hx, hst⟩ := asl hst
        rw [show cr = [] from hst]
        exact ⟨some (.long x), rfl, _, rfl, hx⟩
      · cases hs
    · cases hs
  | areturn =>
    dsimp only [arets] at hs
    split at hs
    · split at hs
      · cases hs
        obtain ⟨x, cr, rfl, hx, hst⟩ := asr hst
        rw [show cr = [] from hst]
        exact ⟨some (.ref x), rfl, _, rfl, x, hx, rfl⟩
      · cases hs
    · cases hs
  | return_ =>
    dsimp only [arets] at hs
    split at hs
    · split at hs
      · cases hs
        rw [show cst = [] from hst]
        exact ⟨none, rfl, rfl⟩
      · cases hs
    · cases hs
  | _ => cases hs
def aseq {α β : Type} (f : α → Option (List β)) : List α → Option (List β)
  | [] => some []
  | a :: r => match f a with
    | some x => match aseq f r with
      | some y => some (x ++ y)
      | none => none
    | none => none
theorem aseq_ok {α β : Type} {f : α → Option (List β)} : ∀ {l : List α} {out : List β}, aseq f l = some out → ∀ a ∈ l, ∃ x, f a = some x ∧ ∀ b ∈ x, b ∈ out
  | [], _, _, a, h => by cases h
  | c :: r, out, hs, a, ha => by
    unfold aseq at hs
    split at hs
    · next x hx =>
      split at hs
      · next y hy =>
        cases hs
        rcases List.mem_cons.mp ha with rfl | ha
        · exact ⟨x, hx, fun b hb => List.mem_append_left _ hb⟩
        · obtain ⟨x', g1, g2⟩ := aseq_ok hy a ha
          exact ⟨x', g1, fun b hb => List.mem_append_right _ (g2 b hb)⟩
      · cases hs
    · cases hs
/-- the tables of one side: the engine's, calls, classes of methods, forms of cells, protected places, what may be written -/
abbrev aP : Type := zX × zI × (Nat → Nat) × aW × aPt × List aD
def arun (P : aP) (cal : Nat → List aY → List aV → aM → Option (List aXt)) (nt : Nat → aS → Bool) (c nL : Nat) (rt : Option FieldType) (tab : Nat → Option (Instr × Nat)) : Nat → Bool → Nat → aS → Option (List aXt)
  | 0 => fun _ _ _ => none
  | n + 1 => fun sk pc S => bif !sk && nt pc S then some [] else (match tab pc with
    | none => none
    | some q => match arets rt q.1 S.1 S.2.2.1 with
      | some r => some [(S.1, r, S.2.2.2)]
      | none => match astp P.1 c nL P.2.2.2.1 P.2.2.2.2.1 P.2.2.2.2.2 q.1 pc S with
        | some os => aseq (fun o => arun P cal nt c nL rt tab n false o.1 o.2) os
        | none => match amath P.2.1 c q.1 S.1 S.2.2.1 with
          | some os => aseq (fun o => arun P cal nt c nL rt tab n false (pc + 3) (o.1, S.2.1, o.2, S.2.2.2)) os
          | none => match acal P.1 P.2.1 P.2.2.1 P.2.2.2.1 c q.1 S.1 S.2.2.1 with
            | some w => match cal w.1 S.1 w.2.1 S.2.2.2 with
              | some xs => aseq (fun x => arun P cal nt c nL rt tab n false (pc + 3) (x.1, S.2.1, x.2.1.toList ++ w.2.2, x.2.2)) xs
              | none => none
            | none => none)
/-- an end of a run stands to what the run gave -/
def aXr (W : aW) (G : aG) (D : List aD) (h0 : zH) (ρ : List Int) (xs : List aXt) (r : Option Value) (h' : zH) : Prop := ∃ x ∈ xs, ∃ ρ', aext ρ ρ' ∧ aE W x.1 ρ' ∧ arv ρ' x.2.1 r ∧ aH W G ρ' x.2.2 h' ∧ aF W G ρ' D h0 h'
def aCal (W : aW) (G : aG) (D : List aD) (h0 : zH) (C : zC) (Q : List Int → Prop) (cal : Nat → List aY → List aV → aM → Option (List aXt)) : Prop := ∀ (mi : Nat) (E : List aY) (as : List aV) (m : aM) (xs : List aXt) (ρ : List Int) (vs : List Value) (h : zH), cal mi E as m = some xs → Q ρ → aE W E ρ → aH W G ρ m h → aSt ρ as vs → aF W G ρ D h0 h → ∃ (r : Option Value) (h' : zH), C mi vs h r h' ∧ aXr W G D h0 ρ xs r h'
theorem aXr.mono {W : aW} {G : aG} {D : List aD} {h0 : zH} {ρ ρ1 : List Int} {xs ys : List aXt} {r : Option Value} {h' : zH} (hx : aext ρ ρ1) (hm : ∀ x ∈ xs, x ∈ ys) : aXr W G D h0 ρ1 xs r h' → aXr W G D h0 ρ ys r h'
  | ⟨x, h1, ρ', h2, h3⟩ => ⟨x, hm x h1, ρ', hx.trans h2, h3⟩
set_option maxHeartbeats 1000000 in
theorem arun_ok {W : aW} {G : aG} {Pt : aPt} {D : List aD} {h0 : zH} {Y X : zX} {I : zI} {mcl : Nat → Nat} {C : zC} {Q : List Int → Prop} {Post : Option Value → zH → Prop} {cal : Nat → List aY → List aV → aM → Option (List aXt)} {nt : Nat → aS → Bool} {c nL : Nat} {ini : Bool} {rt : Option FieldType} {tab : Nat → Option (Instr × Nat)} (hX : aXX Y X) (hG : aGok W G Pt) (hL : ∀ s : Nat, (afm W s).2.2.1 < 1000000) (hQ : ∀ ρ ρ' : List Int, Q ρ → aext ρ ρ' → Q ρ') (hc : aCal W G D h0 C Q cal) (hn : ∀ (pc : Nat) (S : aS) (ρ : List Int) (cl : zL) (cst : List Value) (h : zH), nt pc S = true → Q ρ → aRel W G D h0 ρ S cl cst h → ∃ (n : Nat) (r : Option Value) (h' : zH), zRun X I mcl C c ini nL rt tab n pc cl cst h r h' ∧ Post r h') : ∀ (n : Nat) (sk : Bool) (pc : Nat) (S : aS) (xs : List aXt) (ρ : List Int) (cl : zL) (cst : List Value) (h : zH), arun (Y, I, mcl, W, Pt, D) cal nt c nL rt tab n sk pc S = some xs → Q ρ → aRel W G D h0 ρ S cl cst h → ∃ (k : Nat) (r : Option Value) (h' : zH), zRun X I mcl C c ini nL rt tab k pc cl cst h r h' ∧ (aXr W G D h0 ρ xs r h' ∨ Post r h') := by
  intro n
  induction n with
  | zero => intro sk pc S xs ρ cl cst h hs; cases hs
  | succ n ih =>
    intro sk pc S xs ρ cl cst h hs hq hR
    unfold arun at hs
    cases hb : (!sk && nt pc S) with
    | true =>
      rw [Bool.and_eq_true] at hb
      obtain ⟨k, r, h', g1, g2⟩ := hn pc S ρ cl cst h hb.2 hq hR
      exact ⟨k, r, h', g1, Or.inr g2⟩
    | false =>
      rw [hb] at hs
      dsimp only [cond_false] at hs
      split at hs
      · cases hs
      · next q ht =>
        obtain ⟨i, len⟩ := q
        split at hs
        · next r hr =>
          cases hs
          obtain ⟨rv, g1, g2⟩ := arets_ok hr hR.1 hR.2.2.1
          exact ⟨1, rv, h, ⟨i, len, ht, Or.inl ⟨g1, rfl⟩⟩, Or.inl ⟨_, List.mem_cons_self, ρ, aext.rf, hR.1, g2, hR.2.2.2.1, hR.2.2.2.2⟩⟩
        · split at hs
          · next os ho =>
            obtain ⟨pc', cl', cst', h1, g1, S', g2, ρ', g3, g4⟩ := astp_ok (ini := ini) hX hG hL ho hR
            obtain ⟨ys, k1, k2⟩ := aseq_ok hs _ g2
            obtain ⟨k, r, h', e1, e2⟩ := ih false pc' S' ys ρ' cl' cst' h1 k1 (hQ _ _ hq g3) g4
            refine ⟨k + 1, r, h', ⟨i, len, ht, Or.inr (Or.inl ⟨pc', cl', cst', h1, g1, e1⟩)⟩, ?_⟩
            rcases e2 with e2 | e2
            · exact Or.inl (e2.mono g3 k2)
            · exact Or.inr e2
          · split at hs
            · next os ho =>
              obtain ⟨cst', g1, o, g2, ρ', g3, g4, g5⟩ := amath_ok ho hR.1 hR.2.2.1
              obtain ⟨ys, k1, k2⟩ := aseq_ok hs _ g2
              obtain ⟨k, r, h', e1, e2⟩ := ih false (pc + 3) _ ys ρ' cl cst' h k1 (hQ _ _ hq g3) ⟨g4, hR.2.1.ext g3, g5, hR.2.2.2.1.ext g3, hR.2.2.2.2.ext g3⟩
              refine ⟨k + 1, r, h', ⟨i, len, ht, Or.inr (Or.inr (Or.inl ⟨cst', g1, e1⟩))⟩, ?_⟩
              rcases e2 with e2 | e2
              · exact Or.inl (e2.mono g3 k2)
              · exact Or.inr e2
            · split at hs
              · next w hw =>
                obtain ⟨mi, as, rest⟩ := w
                split at hs
                · next ys hy =>
                  obtain ⟨vs, cr, g1, g2, g3⟩ := acal_ok (h := h) hX hw hR.1 hR.2.2.2.1.1 hR.2.2.1
                  obtain ⟨r1, h1, c1, x, x1, ρ', x2, x3, x4, x5, x6⟩ := hc mi S.1 as S.2.2.2 ys ρ vs h hy hq hR.1 hR.2.2.2.1 g2 hR.2.2.2.2
                  obtain ⟨zs, k1, k2⟩ := aseq_ok hs _ x1
                  have hst' : aSt ρ' (x.2.1.toList ++ rest) (r1.toList ++ cr) := by
                    cases hx : x.2.1 with
                    | none =>
                      rw [hx] at x4
                      rw [show r1 = none from x4]
                      exact g3.ext x2
                    | some a =>
                      rw [hx] at x4
                      obtain ⟨v, e1, e2⟩ := x4
                      rw [e1]
                      exact ⟨v, cr, rfl, e2, g3.ext x2⟩
                  obtain ⟨k, r, h', e1, e2⟩ := ih false (pc + 3) _ zs ρ' cl _ h1 k1 (hQ _ _ hq x2) ⟨x3, hR.2.1.ext x2, hst', x5, x6⟩
                  refine ⟨k + 1, r, h', ⟨i, len, ht, Or.inr (Or.inr (Or.inr ⟨mi, vs, cr, r1, h1, g1, c1, e1⟩))⟩, ?_⟩
                  rcases e2 with e2 | e2
                  · exact Or.inl (e2.mono x2 k2)
                  · exact Or.inr e2
                · cases hs
              · cases hs
end
section
/-! Calls at any depth; contracts that hold. -/
def zAny (X : zX) (I : zI) (mcl : Nat → Nat) (mt : zM) : zC := fun mi as h r h' => ∃ d : Nat, zEv X I mcl mt d mi as h r h'
theorem zRun_C {X : zX} {I : zI} {mcl : Nat → Nat} {C C' : zC} {c : Nat} {ini : Bool} {nL : Nat} {rt : Option FieldType} {tab : Nat → Option (Instr × Nat)} (hC : ∀ mi as h r h', C mi as h r h' → C' mi as h r h') : ∀ (n pc : Nat) (ls : zL) (st : List Value) (h : zH) (r : Option Value) (h' : zH), zRun X I mcl C c ini nL rt tab n pc ls st h r h' → zRun X I mcl C' c ini nL rt tab n pc ls st h r h' := by
  intro n
  induction n with
  | zero => intro pc ls st h r h' q; exact q.elim
  | succ n ih =>
    intro pc ls st h r h' q
    obtain ⟨i, len, ht, q⟩ := q
    refine ⟨i, len, ht, ?_⟩
    rcases q with q | ⟨pc1, ls1, st1, h1, q1, q2⟩ | ⟨rest, q1, q2⟩ | ⟨mi, as, rest, r1, h1, q0, q1, q2⟩
    · exact Or.inl q
    · exact Or.inr (Or.inl ⟨pc1, ls1, st1, h1, q1, ih _ _ _ _ _ _ q2⟩)
    · exact Or.inr (Or.inr (Or.inl ⟨rest, q1, ih _ _ _ _ _ _ q2⟩))
    · exact Or.inr (Or.inr (Or.inr ⟨mi, as, rest, r1, h1, q0, hC _ _ _ _ _ q1, ih _ _ _ _ _ _ q2⟩))
theorem zEv_up {X : zX} {I : zI} {mcl : Nat → Nat} {mt : zM} : ∀ (d mi : Nat) (as : List Value) (h : zH) (r : Option Value) (h' : zH), zEv X I mcl mt d mi as h r h' → zEv X I mcl mt (d + 1) mi as h r h' := by
  intro d
  induction d with
  | zero => intro mi as h r h' q; exact q.elim
  | succ d ih =>
    intro mi as h r h' q
    obtain ⟨c, ini, nL, rt, tab, n, q1, q2, q3⟩ := q
    exact ⟨c, ini, nL, rt, tab, n, q1, q2, zRun_C ih _ _ _ _ _ _ _ q3⟩
theorem zEv_le {X : zX} {I : zI} {mcl : Nat → Nat} {mt : zM} {d e : Nat} (hd : d ≤ e) {mi : Nat} {as : List Value} {h : zH} {r : Option Value} {h' : zH} (q : zEv X I mcl mt d mi as h r h') : zEv X I mcl mt e mi as h r h' := by
  obtain ⟨k, rfl⟩ := Nat.le.dest hd
  induction k with
  | zero => exact q
  | succ k ih => exact zEv_up _ _ _ _ _ _ (ih (Nat.le_add_right d k))
theorem zRun_A {X : zX} {I : zI} {mcl : Nat → Nat} {mt : zM} {c : Nat} {ini : Bool} {nL : Nat} {rt : Option FieldType} {tab : Nat → Option (Instr × Nat)} : ∀ (n pc : Nat) (ls : zL) (st : List Value) (h : zH) (r : Option Value) (h' : zH), zRun X I mcl (zAny X I mcl mt) c ini nL rt tab n pc ls st h r h' → ∃ d : Nat, zRun X I mcl (zEv X I mcl mt d) c ini nL rt tab n pc ls st h r h' := by
  intro n
  induction n with
  | zero => intro pc ls st h r h' q; exact q.elim
  | succ n ih =>
    intro pc ls st h r h' q
    obtain ⟨i, len, ht, q⟩ := q
    rcases q with q | ⟨pc1, ls1, st1, h1, q1, q2⟩ | ⟨rest, q1, q2⟩ | ⟨mi, as, rest, r1, h1, q0, ⟨d0, q1⟩, q2⟩
    · exact ⟨0, i, len, ht, Or.inl q⟩
    · obtain ⟨d, g⟩ := ih _ _ _ _ _ _ q2
      exact ⟨d, i, len, ht, Or.inr (Or.inl ⟨pc1, ls1, st1, h1, q1, g⟩)⟩
    · obtain ⟨d, g⟩ := ih _ _ _ _ _ _ q2
      exact ⟨d, i, len, ht, Or.inr (Or.inr (Or.inl ⟨rest, q1, g⟩))⟩
    · obtain ⟨d, g⟩ := ih _ _ _ _ _ _ q2
      exact ⟨max d0 d, i, len, ht, Or.inr (Or.inr (Or.inr ⟨mi, as, rest, r1, h1, q0, zEv_le (Nat.le_max_left _ _) q1, zRun_C (fun _ _ _ _ _ w => zEv_le (Nat.le_max_right _ _) w) _ _ _ _ _ _ _ g⟩))⟩
theorem zA_of {X : zX} {I : zI} {mcl : Nat → Nat} {mt : zM} {mi c : Nat} {ini : Bool} {nL : Nat} {rt : Option FieldType} {tab : Nat → Option (Instr × Nat)} {n : Nat} {as : List Value} {h : zH} {r : Option Value} {h' : zH} (hm : mt mi = some (c, ini, nL, rt, tab)) (hl : (lg_sl as).length ≤ nL) (q : zRun X I mcl (zAny X I mcl mt) c ini nL rt tab n 0 (lv_args 0 as) [] h r h') : zAny X I mcl mt mi as h r h' := by
  obtain ⟨d, g⟩ := zRun_A _ _ _ _ _ _ _ q
  exact ⟨d + 1, c, ini, nL, rt, tab, n, hm, hl, g⟩
def aloc : Nat → List aV → aLs
  | _, [] => []
  | i, a :: r => (i, a) :: aloc (i + acat a) r
theorem aloc_ok {ρ : List Int} : ∀ (as : List aV) (vs : List Value) (i : Nat), aSt ρ as vs → ∀ p ∈ aloc i as, i ≤ p.1 ∧ ∃ v : Value, zget (lv_args i vs) p.1 = some v ∧ av ρ p.2 v
  | [], _, _, _, p, hp => by cases hp
  | a :: as, _, i, ⟨v, vs, e, h1, h2⟩, p, hp => by
    rw [e]
    have hc : (if v.category = 2 then i + 2 else i + 1) = i + acat a := by
      rw [av_cat h1]
      rcases a with ⟨s, c⟩ | s | s | k <;> rfl
    unfold lv_args
    rw [hc]
    rcases List.mem_cons.mp hp with rfl | hp
    · exact ⟨Nat.le_refl _, v, zget_hd, h1⟩
    · obtain ⟨g1, w, g2, g3⟩ := aloc_ok as vs (i + acat a) h2 p hp
      have hpos : 1 ≤ acat a := by rcases a with ⟨s, c⟩ | s | s | k <;> simp [acat]
      exact ⟨by omega, w, by rw [zget_tl (by omega)]; exact g2, g3⟩
theorem alg_len {ρ : List Int} : ∀ {as : List aV} {vs : List Value}, aSt ρ as vs → (lg_sl vs).length = (as.map acat).sum
  | [], _, h => by rw [show _ = [] from h]; rfl
  | a :: as, _, ⟨v, vs, e, h1, h2⟩ => by
    have ih := alg_len h2
    rw [e, List.map_cons, List.sum_cons, ← ih, ← av_cat h1]
    unfold lg_sl
    rw [List.flatMap_cons, List.length_append]
    cases v <;> rfl
def anil {α : Type} : List α → Bool
  | [] => true
  | _ => false
def atry (P : aP) (E : List aY) (m : aM) (as : List aV) : List aQ → Option (List aXt)
  | [] => none
  | q :: r => match acon P.2.2.2.1 P.2.2.2.2.2 E m as q with
    | some A => some A.2.2
    | none => atry P E m as r
def atryn (P : aP) (ms0 : aMs) (E : List aY) (m : aM) (as : List aV) : List aQ → Option (List aXt)
  | [] => none
  | q :: r => match acon P.2.2.2.1 P.2.2.2.2.2 E m as q with
    | some A => bif alt A.1 A.2.1 q.2.2.2.2.2 ms0 then some A.2.2 else atryn P ms0 E m as r
    | none => atryn P ms0 E m as r
def acals (P : aP) (mt : zM) (K Kn : Nat → List aQ) (ms0 : aMs) : Nat → Nat → List aY → List aV → aM → Option (List aXt)
  | 0 => fun _ _ _ _ => none
  | d + 1 => fun mi E as m => match atry P E m as (K mi) with
    | some xs => some xs
    | none => match atryn P ms0 E m as (Kn mi) with
      | some xs => some xs
      | none => bif anil (K mi) && anil (Kn mi) then (match mt mi with
        | some q => bif Nat.ble (as.map acat).sum q.2.2.1 then arun P (acals P mt K Kn ms0 d) (fun _ _ => false) q.1 q.2.2.1 q.2.2.2.1 q.2.2.2.2 1000 true 0 (E, aloc 0 as, [], m) else none
        | none => none) else none
theorem atry_ok {P : aP} {E : List aY} {m : aM} {as : List aV} : ∀ {qs : List aQ} {xs : List aXt}, atry P E m as qs = some xs → ∃ q ∈ qs, ∃ A, acon P.2.2.2.1 P.2.2.2.2.2 E m as q = some A ∧ A.2.2 = xs
  | [], _, h => by cases h
  | q :: r, xs, h => by
    unfold atry at h
    split at h
    · next A hA =>
      cases h
      exact ⟨q, List.mem_cons_self, A, hA, rfl⟩
    · obtain ⟨q', g1, g2⟩ := atry_ok h
      exact ⟨q', List.mem_cons_of_mem _ g1, g2⟩
theorem atryn_ok {P : aP} {ms0 : aMs} {E : List aY} {m : aM} {as : List aV} : ∀ {qs : List aQ} {xs : List aXt}, atryn P ms0 E m as qs = some xs → ∃ q ∈ qs, ∃ A, acon P.2.2.2.1 P.2.2.2.2.2 E m as q = some A ∧ A.2.2 = xs ∧ alt A.1 A.2.1 q.2.2.2.2.2 ms0 = true
  | [], _, h => by cases h
  | q :: r, xs, h => by
    unfold atryn at h
    split at h
    · next A hA =>
      cases hb : alt A.1 A.2.1 q.2.2.2.2.2 ms0 with
      | true =>
        rw [hb] at h
        cases h
        exact ⟨q, List.mem_cons_self, A, hA, rfl, hb⟩
      | false =>
        rw [hb] at h
        obtain ⟨q', g1, g2⟩ := atryn_ok h
        exact ⟨q', List.mem_cons_of_mem _ g1, g2⟩
    · obtain ⟨q', g1, g2⟩ := atryn_ok h
      exact ⟨q', List.mem_cons_of_mem _ g1, g2⟩
theorem acon_use {W : aW} {G : aG} {D : List aD} {h0 : zH} {C : zC} {E : List aY} {m : aM} {as : List aV} {q : aQ} {A : List aY × List aV × List aXt} {ρ : List Int} {h : zH} {vs : List Value} {Pr : List Int → Prop} (hs : acon W D E m as q = some A) (hE : aE W E ρ) (hH : aH W G ρ m h) (hv : aSt ρ as vs) (hF : aF W G ρ D h0 h) (hc : aCon W G C q Pr) (hp : ∀ ρ' ρc, aext ρ ρ' → aE W A.1 ρ' → asg ρ' A.2.1 ρc → Pr ρc) : ∃ (r : Option Value) (h' : zH), C q.1 vs h r h' ∧ aXr W G D h0 ρ A.2.2 r h' := by
  obtain ⟨E', σ, os⟩ := A
  obtain ⟨ρ', ρc, x1, x2, x3, x4, x5, x6, x7⟩ := acon_ok (h0 := h0) hs hE hH hv hF
  obtain ⟨r, h', g1, g2⟩ := hc ρc h vs (hp ρ' ρc x1 x2 x3) x4 x5 x6
  exact ⟨r, h', g1, x7 r h' g2⟩
set_option maxHeartbeats 1000000 in
theorem acals_ok {W : aW} {G : aG} {Pt : aPt} {D : List aD} {h0 : zH} {Y X : zX} {I : zI} {mcl : Nat → Nat} {mt : zM} {K Kn : Nat → List aQ} {ms0 : aMs} {ρ0 : List Int} (hX : aXX Y X) (hG : aGok W G Pt) (hL : ∀ s : Nat, (afm W s).2.2.1 < 1000000) (hms : ∀ t ∈ ms0.2, t.1 < ρ0.length)
    (hK : ∀ (mi : Nat) (q : aQ), q ∈ K mi → q.1 = mi ∧ aCon W G (zAny X I mcl mt) q (fun _ => True)) (hKn : ∀ (mi : Nat) (q : aQ), q ∈ Kn mi → q.1 = mi ∧ aCon W G (zAny X I mcl mt) q (fun ρ => amv ρ q.2.2.2.2.2 < amv ρ0 ms0)) : ∀ d : Nat, aCal W G D h0 (zAny X I mcl mt) (aext ρ0) (acals (Y, I, mcl, W, Pt, D) mt K Kn ms0 d) := by
  intro d
  induction d with
  | zero => intro mi E as m xs ρ vs h hs; cases hs
  | succ d ih =>
    intro mi E as m xs ρ vs h hs hq hE hH hv hF
    unfold acals at hs
    split at hs
    · next ys hy =>
      cases hs
      obtain ⟨q, g1, A, g2, g3⟩ := atry_ok hy
      obtain ⟨k1, k2⟩ := hK mi q g1
      obtain ⟨r, h', c1, c2⟩ := acon_use g2 hE hH hv hF k2 (fun _ _ _ _ _ => trivial)
      rw [k1] at c1
      rw [g3] at c2
      exact ⟨r, h', c1, c2⟩
    · split at hs
      · next ys hy =>
        cases hs
        obtain ⟨q, g1, A, g2, g3, g4⟩ := atryn_ok hy
        obtain ⟨k1, k2⟩ := hKn mi q g1
        obtain ⟨r, h', c1, c2⟩ := acon_use g2 hE hH hv hF k2 (fun ρ' ρc x1 x2 x3 => by
          have h1 := alt_ok x2 x3 g4
          have h2 : amv ρ' ms0 = amv ρ0 ms0 := by
            unfold amv
            rw [avs_ext (hq.trans x1) hms]
          rw [h2] at h1
          exact h1)
        rw [k1] at c1
        rw [g3] at c2
        exact ⟨r, h', c1, c2⟩
      · cases hn : (anil (K mi) && anil (Kn mi)) with
        | false => rw [hn] at hs; cases hs
        | true =>
          rw [hn] at hs
          dsimp only [cond_true] at hs
          split at hs
          · next q hm =>
            obtain ⟨c, ini, nL, rt, tab⟩ := q
            cases hb : Nat.ble (as.map acat).sum nL with
            | false => rw [hb] at hs; cases hs
            | true =>
              rw [hb] at hs
              have hl : (lg_sl vs).length ≤ nL := by rw [alg_len hv]; exact able hb
              obtain ⟨k, r, h', e1, e2⟩ := arun_ok (ini := ini) (Post := fun _ _ => False) hX hG hL (fun _ _ a b => a.trans b) ih (fun _ _ _ _ _ _ hf _ _ => by cases hf) 1000 true 0 _ xs ρ (lv_args 0 vs) [] h hs hq ⟨hE, fun p hp => (aloc_ok as vs 0 hv p hp).2, rfl, hH, hF⟩
              rcases e2 with e2 | e2
              · exact ⟨r, h', zA_of hm hl e1, e2⟩
              · exact e2.elim
          · cases hs
/-! Notes of a method, and its check. -/
abbrev aN : Type := Nat × List aY × aLs × List aV × aM × aMs
def alp (ls : aLs) : aLs → Option (List (aV × aV))
  | [] => some []
  | p :: r => match aget ls p.1 with
    | some a => match alp ls r with
      | some l => some ((p.2, a) :: l)
      | none => none
    | none => none
def amN (W : aW) (n : Nat) (S : aS) (N : aN) (ms : Option aMs) : Bool := match alp S.2.1 N.2.2.1 with
  | some l => bif Nat.beq N.2.2.2.1.length S.2.2.1.length then (match amt W n S.1 S.2.2.2 N.2.1 (l ++ N.2.2.2.1.zip S.2.2.1) N.2.2.2.2.1 with
    | some A => match ms with
      | some ms => alt A.1 A.2.2 N.2.2.2.2.2 ms
      | none => true
    | none => false) else false
  | none => false
theorem alp_ok {ρ : List Int} {ls : aLs} {cl : zL} (hl : aLo ρ ls cl) : ∀ (ns : aLs) (l : List (aV × aV)), alp ls ns = some l → ∃ vs : List Value, aSt ρ (l.map (fun q => q.2)) vs ∧ ∀ ρc : List Int, aSt ρc (l.map (fun q => q.1)) vs → aLo ρc ns cl
  | [], l, h => by
    cases h
    exact ⟨[], rfl, fun ρc _ p hp => by cases hp⟩
  | p :: r, l, h => by
    unfold alp at h
    split at h
    · next a ha =>
      split at h
      · next l' hl' =>
        cases h
        obtain ⟨vs, g1, g2⟩ := alp_ok hl r l' hl'
        obtain ⟨v, g3, g4⟩ := hl.get ha
        refine ⟨v :: vs, ⟨v, vs, rfl, g4, g1⟩, fun ρc hc => ?_⟩
        obtain ⟨v', vs', e, h1, h2⟩ := hc
        cases e
        intro p' hp'
        rcases List.mem_cons.mp hp' with rfl | hp'
        · exact ⟨v, g3, h1⟩
        · exact g2 ρc h2 p' hp'
      · cases h
    · cases h
theorem aSt_split {ρ : List Int} : ∀ {as bs : List aV} {l : List Value}, aSt ρ (as ++ bs) l → ∃ x y, l = x ++ y ∧ aSt ρ as x ∧ aSt ρ bs y
  | [], bs, l, h => ⟨[], l, rfl, rfl, h⟩
  | a :: as, bs, _, ⟨v, vs, e, h1, h2⟩ => by
    obtain ⟨x, y, e2, g1, g2⟩ := aSt_split h2
    exact ⟨v :: x, y, by rw [e, e2]; rfl, ⟨v, x, rfl, h1, g1⟩, g2⟩
theorem aSt_inj {ρ ρ' : List Int} : ∀ {as bs : List aV} {x y x' y' : List Value}, aSt ρ as x → aSt ρ' bs x' → as.length = bs.length → x ++ y = x' ++ y' → x = x' ∧ y = y' := fun h1 h2 hl e => List.append_inj e (by rw [h1.len, h2.len, hl])
theorem amN_ok {W : aW} {G : aG} {n : Nat} {S : aS} {N : aN} {ms : Option aMs} {ρ : List Int} {cl : zL} {cst : List Value} {h : zH} (hs : amN W n S N ms = true) (hE : aE W S.1 ρ) (hl : aLo ρ S.2.1 cl) (hst : aSt ρ S.2.2.1 cst) (hH : aH W G ρ S.2.2.2 h) : ∃ ρc, aext (ρ.take n) ρc ∧ aE W N.2.1 ρc ∧ aLo ρc N.2.2.1 cl ∧ aSt ρc N.2.2.2.1 cst ∧ aH W G ρc N.2.2.2.2.1 h ∧ ∀ m0, ms = some m0 → ∃ ρ', aext ρ ρ' ∧ amv ρc N.2.2.2.2.2 < amv ρ' m0 := by
  unfold amN at hs
  split at hs
  · next l hlp =>
    cases hb : Nat.beq N.2.2.2.1.length S.2.2.1.length with
    | false => rw [hb] at hs; cases hs
    | true =>
      rw [hb] at hs
      dsimp only [cond_true] at hs
      split at hs
      · next A hA =>
        obtain ⟨E', m', σ⟩ := A
        obtain ⟨vs, v1, v2⟩ := alp_ok hl _ _ hlp
        obtain ⟨z1, z2⟩ := azip1 _ _ (Nat.eq_of_beq_eq_true hb)
        obtain ⟨ρ', ρc, x1, x2, x3, x4, x5, x6, x7, x8⟩ := amt_ok (G := G) (h := h) (vs := vs ++ cst) hA hE hH (by
          rw [List.map_append, z2]
          exact aSt.app hst v1)
        rw [List.map_append, z1] at x7
        obtain ⟨a, b, e, g1, g2⟩ := aSt_split x7
        obtain ⟨e1, e2⟩ := aSt_inj v1 g1 (by simp) e
        subst e1 e2
        refine ⟨ρc, x6, x5, v2 ρc g1, g2, x8, fun m0 hm => ?_⟩
        subst hm
        exact ⟨ρ', x1, alt_ok x2 x4 hs⟩
      · cases hs
  · cases hs
end
section
/-! The check of a contract, and that it is enough. -/
def apo (a b : Option aV) : Option (List (aV × aV)) := match a, b with
  | none, none => some []
  | some x, some y => some [(x, y)]
  | _, _ => none
/-- an end of the run is one of the contract's -/
def axck (W : aW) (q : aQ) (x : aXt) : Bool := q.2.2.2.1.any (fun e => match apo e.2.1 x.2.1 with
  | some ps => Nat.ble (aent q).length e.1.length && (amt W (aent q).length x.1 x.2.2 e.1 ps e.2.2).isSome
  | none => false)
def ants (W : aW) (n : Nat) (NS : List aN) (ms : Option aMs) (pc : Nat) (S : aS) : Bool := NS.any (fun N => Nat.beq N.1 pc && amN W n S N ms)
def aone (P : aP) (mt : zM) (K Kn : Nat → List aQ) (q : aQ) (NS : List aN) (ms : Option aMs) (d n pc : Nat) (S : aS) : Bool := match mt q.1 with
  | some w => match arun P (acals P mt K Kn q.2.2.2.2.2 d) (ants P.2.2.2.1 (aent q).length NS ms) w.1 w.2.2.1 w.2.2.2.1 w.2.2.2.2 n true pc S with
    | some xs => xs.all (axck P.2.2.2.1 q)
    | none => false
  | none => false
def awf (mt : zM) (q : aQ) : Bool := (match mt q.1 with
  | some w => Nat.ble ((aarg q).map acat).sum w.2.2.1
  | none => false) && (q.2.2.2.2.1.all (fun d => Nat.beq d.2.1 0 || !Nat.ble (aent q).length d.2.2.1) && (q.2.2.2.2.2.2.all (fun t => !Nat.ble (aent q).length t.1) && ann (aent q) q.2.2.2.2.2))
def anwf (q : aQ) (N : aN) : Bool := N.2.2.2.2.2.2.all (fun t => !Nat.ble N.2.1.length t.1) && ann N.2.1 N.2.2.2.2.2
/-- from the entry -/
def ack0 (Y : zX) (I : zI) (mcl : Nat → Nat) (W : aW) (Pt : aPt) (mt : zM) (K Kn : Nat → List aQ) (q : aQ) (NS : List aN) (d n : Nat) : Bool := awf mt q && aone (Y, I, mcl, W, Pt, q.2.2.2.2.1) mt K Kn q NS none d n 0 (aent q, aloc 0 (aarg q), [], aem q)
/-- from a note -/
def ackN (Y : zX) (I : zI) (mcl : Nat → Nat) (W : aW) (Pt : aPt) (mt : zM) (K Kn : Nat → List aQ) (q : aQ) (NS : List aN) (d n : Nat) (N : aN) : Bool := anwf q N && aone (Y, I, mcl, W, Pt, q.2.2.2.2.1) mt K Kn q NS (some N.2.2.2.2.2) d n N.1 (N.2.1, N.2.2.1, N.2.2.2.1, N.2.2.2.2.1)
def ackq (Y : zX) (I : zI) (mcl : Nat → Nat) (W : aW) (Pt : aPt) (mt : zM) (K Kn : Nat → List aQ) (q : aQ) (NS : List aN) (d n : Nat) : Bool := ack0 Y I mcl W Pt mt K Kn q NS d n && NS.all (ackN Y I mcl W Pt mt K Kn q NS d n)
theorem atake {ρ0 ρ : List Int} (h : aext ρ0 ρ) : ρ.take ρ0.length = ρ0 := by
  obtain ⟨e, rfl⟩ := h
  rw [List.take_append_of_le_length (Nat.le_refl _), List.take_length]
theorem aF_dn {W : aW} {G : aG} {D : List aD} {ρ0 ρ : List Int} {h0 h : zH} (hx : aext ρ0 ρ) (hD : ∀ d ∈ D, d.2.1 = 0 ∨ d.2.2.1 < ρ0.length) (hF : aF W G ρ D h0 h) : aF W G ρ0 D h0 h := by
  refine ⟨hF.1, fun a k ha hk hn => hF.2 a k ha hk (fun d hd hm => hn d hd ?_)⟩
  obtain ⟨m1, m2⟩ := hm
  refine ⟨m1, ?_⟩
  split
  · next q => rw [q] at m2; exact m2
  · next q =>
    split at m2
    · next q2 => exact absurd q2 q
    · obtain ⟨x, ⟨z, z1, z2⟩, x2⟩ := m2
      rcases hD d hd with q3 | q3
      · exact absurd q3 q
      · refine ⟨x, ⟨z, ?_, z2⟩, x2⟩
        have h1 : ρ0[d.2.2.1]? = some (ρ0[d.2.2.1]'q3) := List.getElem?_eq_getElem _
        have h2 := hx.get h1
        rw [z1] at h2
        cases h2
        exact h1
theorem apo_ok {ρ : List Int} {a b : Option aV} {ps : List (aV × aV)} {r : Option Value} (h : apo a b = some ps) (hr : arv ρ b r) : ∃ vs : List Value, aSt ρ (ps.map (fun q => q.2)) vs ∧ ∀ ρc : List Int, aSt ρc (ps.map (fun q => q.1)) vs → arv ρc a r := by
  cases a with
  | none =>
    cases b with
    | none =>
      cases h
      exact ⟨[], rfl, fun _ _ => hr⟩
    | some b => cases h
  | some a =>
    cases b with
    | none => cases h
    | some b =>
      cases h
      obtain ⟨v, h1, h2⟩ := hr
      refine ⟨[v], ⟨v, [], rfl, h2, rfl⟩, fun ρc hc => ?_⟩
      obtain ⟨v', vs', e, g1, g2⟩ := hc
      cases e
      exact ⟨v, h1, g1⟩
theorem axck_ok {W : aW} {G : aG} {q : aQ} {ρ0 ρ : List Int} {h0 h' : zH} {xs : List aXt} {r : Option Value} (hl : ρ0.length = (aent q).length) (hD : ∀ d ∈ q.2.2.2.2.1, d.2.1 = 0 ∨ d.2.2.1 < ρ0.length) (hx : aext ρ0 ρ) (hs : xs.all (axck W q) = true) (h : aXr W G q.2.2.2.2.1 h0 ρ xs r h') : aEnd W G q.2.2.2.2.1 ρ0 h0 (aent q) q.2.2.2.1 r h' := by
  obtain ⟨x, x1, ρ', x2, x3, x4, x5, x6⟩ := h
  have hc := List.all_eq_true.mp hs x x1
  obtain ⟨e, e1, e2⟩ := List.any_eq_true.mp hc
  split at e2
  · next ps hps =>
    rw [Bool.and_eq_true] at e2
    obtain ⟨e3, e2⟩ := e2
    obtain ⟨A, hA⟩ := Option.isSome_iff_exists.mp e2
    obtain ⟨E', m', σ⟩ := A
    obtain ⟨vs, v1, v2⟩ := apo_ok hps x4
    obtain ⟨ρ1, ρc, y1, y2, y3, y4, y5, y6, y7, y8⟩ := amt_ok (G := G) (h := h') (vs := vs) hA x3 x5 v1
    have hxx := hx.trans x2
    rw [← hl, atake hxx] at y6
    exact ⟨e, e1, ρc, y6, able e3, y5, v2 ρc y7, y8, aF_dn hxx hD x6⟩
  · cases e2
set_option maxHeartbeats 2000000 in
theorem agroup {W : aW} {G : aG} {Pt : aPt} {Y X : zX} {I : zI} {mcl : Nat → Nat} {mt : zM} {K Kn : Nat → List aQ} {d n : Nat} (hX : aXX Y X) (hG : aGok W G Pt) (hL : ∀ s : Nat, (afm W s).2.2.1 < 1000000)
    (hK : ∀ (mi : Nat) (q : aQ), q ∈ K mi → q.1 = mi ∧ aCon W G (zAny X I mcl mt) q (fun _ => True)) (hKn : ∀ (mi : Nat) (q : aQ), q ∈ Kn mi → q.1 = mi ∧ ∃ NS : List aN, ackq Y I mcl W Pt mt K Kn q NS d n = true) : ∀ (mi : Nat) (q : aQ), q ∈ Kn mi → aCon W G (zAny X I mcl mt) q (fun _ => True) := by
  have main : ∀ (M : Nat) (mi : Nat) (q : aQ), q ∈ Kn mi → aCon W G (zAny X I mcl mt) q (fun ρ => amv ρ q.2.2.2.2.2 < (M : Int)) := by
    intro M
    induction M with
    | zero =>
      intro mi q hq ρ h vs hp hE
      obtain ⟨-, NS, hc⟩ := hKn mi q hq
      unfold ackq ack0 awf at hc
      simp only [Bool.and_eq_true] at hc
      have := ann_ok hE hc.1.1.2.2.2
      omega
    | succ M ih =>
      intro mi q hq ρ0 h0 vs hp hE hv hH
      obtain ⟨-, NS, hc⟩ := hKn mi q hq
      unfold ackq ack0 awf at hc
      simp only [Bool.and_eq_true] at hc
      obtain ⟨⟨⟨c1, c2, c3, c4⟩, c5⟩, c6⟩ := hc
      have hD : ∀ d ∈ q.2.2.2.2.1, d.2.1 = 0 ∨ d.2.2.1 < ρ0.length := fun d hd => by
        have := List.all_eq_true.mp c2 d hd
        rw [Bool.or_eq_true] at this
        rcases this with h | h
        · exact Or.inl (Nat.eq_of_beq_eq_true h)
        · refine Or.inr ?_
          rw [hE.1]
          have h2 : Nat.ble (aent q).length d.2.2.1 = false := by simpa using h
          cases hh : Nat.decLt d.2.2.1 (aent q).length with
          | isTrue h => exact h
          | isFalse h => rw [Nat.ble_eq_true_of_le (by omega)] at h2; cases h2
      have hms : ∀ t ∈ q.2.2.2.2.2.2, t.1 < ρ0.length := fun t ht => by
        have h := List.all_eq_true.mp c3 t ht
        rw [hE.1]
        have h2 : Nat.ble (aent q).length t.1 = false := by simpa using h
        cases hh : Nat.decLt t.1 (aent q).length with
        | isTrue h => exact h
        | isFalse h => rw [Nat.ble_eq_true_of_le (by omega)] at h2; cases h2
      have hcal := acals_ok (h0 := h0) (D := q.2.2.2.2.1) (ms0 := q.2.2.2.2.2) (ρ0 := ρ0) hX hG hL hms hK (fun mi' q' hq' => ⟨(hKn mi' q' hq').1, fun ρ h vs hp' => ih mi' q' hq' ρ h vs (by
        have h9 : amv ρ q'.2.2.2.2.2 < amv ρ0 q.2.2.2.2.2 := hp'
        show amv ρ q'.2.2.2.2.2 < (M : Int)
        omega)⟩) d
      split at c1
      · next w hm =>
        obtain ⟨c, ini, nL, rt, tab⟩ := w
        have hlen : ρ0.length = (aent q).length := hE.1
        -- from a note, by its measure
        have notes : ∀ (m : Nat) (N : aN), N ∈ NS → ∀ (ρ : List Int) (cl : zL) (cst : List Value) (h : zH), amv ρ N.2.2.2.2.2 < (m : Int) → aext ρ0 ρ → aRel W G q.2.2.2.2.1 h0 ρ (N.2.1, N.2.2.1, N.2.2.2.1, N.2.2.2.2.1) cl cst h → ∃ (k : Nat) (r : Option Value) (h' : zH), zRun X I mcl (zAny X I mcl mt) c ini nL rt tab k N.1 cl cst h r h' ∧ aEnd W G q.2.2.2.2.1 ρ0 h0 (aent q) q.2.2.2.1 r h' := by
          intro m
          induction m with
          | zero =>
            intro N hN ρ cl cst h hlt hx hR
            have := List.all_eq_true.mp c6 N hN
            unfold ackN anwf at this
            simp only [Bool.and_eq_true] at this
            have h1 := ann_ok hR.1 this.1.2
            omega
          | succ m ihm =>
            intro N hN ρ cl cst h hlt hx hR
            have hck := List.all_eq_true.mp c6 N hN
            unfold ackN anwf aone at hck
            simp only [Bool.and_eq_true] at hck
            obtain ⟨⟨k1, k2⟩, k3⟩ := hck
            rw [hm] at k3
            dsimp only at k3
            split at k3
            · next xs hxs =>
              have hmsN : ∀ t ∈ N.2.2.2.2.2.2, t.1 < ρ.length := fun t ht => by
                have h := List.all_eq_true.mp k1 t ht
                rw [hR.1.1]
                have h2 : Nat.ble N.2.1.length t.1 = false := by simpa using h
                cases hh : Nat.decLt t.1 N.2.1.length with
                | isTrue h => exact h
                | isFalse h => rw [Nat.ble_eq_true_of_le (by omega)] at h2; cases h2
              obtain ⟨k, r, h', e1, e2⟩ := arun_ok (ini := ini) (Q := aext ρ) (Post := fun r h' => aEnd W G q.2.2.2.2.1 ρ0 h0 (aent q) q.2.2.2.1 r h') hX hG hL (fun _ _ a b => a.trans b) (fun mi E as m xs ρ' vs h a b => hcal mi E as m xs ρ' vs h a (hx.trans b)) (fun pc S ρ' cl' cst' h' hnt hq' hR' => by
                obtain ⟨N', n1, n2⟩ := List.any_eq_true.mp hnt
                rw [Bool.and_eq_true] at n2
                obtain ⟨ρc, y1, y2, y3, y4, y5, y6⟩ := amN_ok (G := G) n2.2 hR'.1 hR'.2.1 hR'.2.2.1 hR'.2.2.2.1
                obtain ⟨ρ'', y7, y8⟩ := y6 _ rfl
                have hxx := hx.trans hq'
                rw [← hlen, atake hxx] at y1
                have hmv : amv ρ'' N.2.2.2.2.2 = amv ρ N.2.2.2.2.2 := by
                  unfold amv
                  rw [avs_ext (hq'.trans y7) hmsN]
                rw [hmv] at y8
                have hF0 := aF_dn hxx hD hR'.2.2.2.2
                obtain ⟨k, r, h2, g1, g2⟩ := ihm N' n1 ρc cl' cst' h' (by omega) y1 ⟨y2, y3, y4, y5, hF0.ext y1⟩
                rw [Nat.eq_of_beq_eq_true n2.1] at g1
                exact ⟨k, r, h2, g1, g2⟩) n true N.1 _ xs ρ cl cst h hxs aext.rf hR
              refine ⟨k, r, h', e1, ?_⟩
              rcases e2 with e2 | e2
              · exact axck_ok hlen hD hx k3 e2
              · exact e2
            · cases k3
        -- from the entry
        unfold aone at c5
        rw [hm] at c5
        dsimp only at c5
        split at c5
        · next xs hxs =>
          have hl : (lg_sl vs).length ≤ nL := by rw [alg_len hv]; exact able c1
          obtain ⟨k, r, h', e1, e2⟩ := arun_ok (ini := ini) (Q := aext ρ0) (Post := fun r h' => aEnd W G q.2.2.2.2.1 ρ0 h0 (aent q) q.2.2.2.1 r h') hX hG hL (fun _ _ a b => a.trans b) hcal (fun pc S ρ' cl' cst' h' hnt hq' hR' => by
            obtain ⟨N', n1, n2⟩ := List.any_eq_true.mp hnt
            rw [Bool.and_eq_true] at n2
            obtain ⟨ρc, y1, y2, y3, y4, y5, -⟩ := amN_ok (G := G) n2.2 hR'.1 hR'.2.1 hR'.2.2.1 hR'.2.2.2.1
            rw [← hlen, atake hq'] at y1
            have hF0 := aF_dn hq' hD hR'.2.2.2.2
            obtain ⟨k, r, h2, g1, g2⟩ := notes ((amv ρc N'.2.2.2.2.2).toNat + 1) N' n1 ρc cl' cst' h' (by omega) y1 ⟨y2, y3, y4, y5, hF0.ext y1⟩
            rw [Nat.eq_of_beq_eq_true n2.1] at g1
            exact ⟨k, r, h2, g1, g2⟩) n true 0 _ xs ρ0 (lv_args 0 vs) [] h0 hxs aext.rf ⟨hE, fun p hp => (aloc_ok _ vs 0 hv p hp).2, rfl, hH, aF.rf⟩
          refine ⟨r, h', zA_of hm hl e1, ?_⟩
          rcases e2 with e2 | e2
          · exact axck_ok hlen hD aext.rf c5 e2
          · exact e2
        · cases c5
      · cases c1
  intro mi q hq ρ h vs _ hE hv hH
  exact main ((amv ρ q.2.2.2.2.2).toNat + 1) mi q hq ρ h vs (by show amv ρ q.2.2.2.2.2 < _; omega) hE hv hH
end
