/-! What is remembered: looked up, given up, written. -/
def ieq (a b : Int) : Bool := match a with
  | .ofNat m => match b with
    | .ofNat n => Nat.beq m n
    | .negSucc _ => false
  | .negSucc m => match b with
    | .ofNat _ => false
    | .negSucc n => Nat.beq m n
theorem ieq_ok {a b : Int} (h : ieq a b = true) : a = b := by
  cases a with
  | ofNat m =>
    cases b with
    | ofNat n => rw [Nat.eq_of_beq_eq_true (show Nat.beq m n = true from h)]
    | negSucc n => cases h
  | negSucc m =>
    cases b with
    | ofNat n => cases h
    | negSucc n => rw [Nat.eq_of_beq_eq_true (show Nat.beq m n = true from h)]
/-- a value lies in a type -/
def awi (E : List aY) (t : aY) (a : aV) : Bool := match a with
  | .inl (s, c) => match t with
    | (0, l, u) => match aiv E s c with
      | some q => ile l q.1 && ile q.2 u
      | none => false
    | _ => false
  | .inr (.inl s) => match t with
    | (1, l, u) => match E[s]? with
      | some (1, l', u') => ile l l' && ile u' u
      | _ => false
    | _ => false
  | .inr (.inr (.inl s)) => match t with
    | (2, p, p') => match E[s]? with
      | some (2, x, _) => ieq x p || ieq x p'
      | _ => false
    | _ => false
  | _ => false
theorem awi_ok {W : aW} {E : List aY} {ρ : List Int} {t : aY} {a : aV} {v : Value} (hE : aE W E ρ) (h : awi E t a = true) (hv : av ρ a v) : avt W t v := by
  unfold awi at h
  split at h
  · split at h
    · split at h
      · next q hq =>
        obtain ⟨x, h1, rfl⟩ := hv
        have h2 := aiv_in hE hq h1
        rw [Bool.and_eq_true] at h
        have h3 := ile_iff.mp h.1
        have h4 := ile_iff.mp h.2
        exact ⟨x, rfl, by omega, by omega⟩
      · cases h
    · cases h
  · split at h
    · split at h
      · next hs =>
        obtain ⟨z, h1, rfl⟩ := hv
        have h2 := hE.2.2 _ _ _ hs h1
        obtain ⟨⟨h2, h3⟩, h4, h5⟩ := h2
        rw [Bool.and_eq_true] at h
        have h6 := ile_iff.mp h.1
        have h7 := ile_iff.mp h.2
        exact ⟨_, rfl, by rw [ai64 h4 h5]; omega, by rw [ai64 h4 h5]; omega⟩
      · cases h
    · cases h
  · split at h
    · split at h
      · next hs =>
        obtain ⟨n, h1, rfl⟩ := hv
        obtain ⟨m, e, h2, h3⟩ := hE.2.2 _ _ _ hs h1
        have e' : n = m := by omega
        subst e'
        rw [Bool.or_eq_true] at h
        refine ⟨n, rfl, h2, ?_⟩
        rcases h with h | h
        · exact Or.inl (by rw [h3]; exact ieq_ok h)
        · exact Or.inr (by rw [h3]; exact ieq_ok h)
      · cases h
    · cases h
  · cases h
/-- of all places from .. to -/
def arng (t : aT) (l : Int) (u : Int) (p : aY → Bool) : Bool := (List.range (u - l + 1).toNat).all (fun j => p (apl t (l.toNat + j)))
def aall (t : aT) (l u : Int) (p : aY → Bool) : Bool := bif Nat.beq t.2.1 0 then arng t l u p else match t.2.2.2 with
  | [y] => p y
  | _ => arng t l u p
theorem arng_ok {t : aT} {l u : Int} {p : aY → Bool} {k : Nat} (h : arng t l u p = true) (h0 : 0 ≤ l) (h1 : l ≤ k) (h2 : (k : Int) ≤ u) : p (apl t k) = true := by
  have := List.all_eq_true.mp h (k - l.toNat) (List.mem_range.mpr (by omega))
  rw [show l.toNat + (k - l.toNat) = k by omega] at this
  exact this
theorem aall_ok {t : aT} {l u : Int} {p : aY → Bool} {k : Nat} (h : aall t l u p = true) (h0 : 0 ≤ l) (h1 : l ≤ k) (h2 : (k : Int) ≤ u) : p (apl t k) = true := by
  unfold aall at h
  cases hb : Nat.beq t.2.1 0 with
  | true =>
    rw [hb] at h
    exact arng_ok h h0 h1 h2
  | false =>
    rw [hb] at h
    have h' : (match t.2.2.2 with | [y] => p y | _ => arng t l u p) = true := h
    split at h'
    · next y hy =>
      unfold apl
      rw [hb, hy]
      exact h'
    · exact arng_ok h' h0 h1 h2
/-- it may be forgotten: it lies in its place's type -/
def adr (W : aW) (E : List aY) (e : aK × aV) : Bool := match E[e.1.1]? with
  | some (2, s, _) => match aiv E e.1.2.1 e.1.2.2 with
    | some q => ile 0 q.1 && aall (afm W s.toNat) q.1 q.2 (fun t => awi E t e.2)
    | none => false
  | _ => false
theorem asort_of {W : aW} {E : List aY} {ρ : List Int} {r a : Nat} {s s' : Int} (hE : aE W E ρ) (h : E[r]? = some (2, s, s')) (hr : ρ[r]? = some (a : Int)) : a < W.1.length ∧ (asrt W a : Int) = s := by
  obtain ⟨m, e, h2, h3⟩ := hE.2.2 _ _ _ h hr
  have e' : a = m := by omega
  subst e'
  exact ⟨h2, h3⟩
theorem adr_ok {W : aW} {E : List aY} {ρ : List Int} {e : aK × aV} {a k : Nat} {v : Value} (hE : aE W E ρ) (h : adr W E e = true) (hd : aden ρ e.1 a k) (hv : av ρ e.2 v) : avt W (apl (afm W (asrt W a)) k) v := by
  unfold adr at h
  split at h
  · next s s' hs =>
    split at h
    · next q hq =>
      obtain ⟨d1, x, d2, d3⟩ := hd
      have h1 := aiv_in hE hq d2
      have h2 := asort_of hE hs d1
      rw [Bool.and_eq_true] at h
      have h3 := ile_iff.mp h.1
      have h4 := aall_ok (k := k) h.2 h3 (by omega) (by omega)
      have e1 : s.toNat = asrt W a := by omega
      rw [e1] at h4
      exact awi_ok hE h4 hv
    · cases h
  · cases h
/-- two indices can't be the same -/
def aij (E : List aY) (s : Nat) (c : Int) (s' : Nat) (c' : Int) : Bool := (Nat.beq s s' && (!ieq c c' && (anw E s c && anw E s c'))) || (match aiv E s c with
  | some p => match aiv E s' c' with
    | some q => !ile q.1 p.2 || !ile p.1 q.2
    | none => false
  | none => false)
theorem ieq_rf (a : Int) : ieq a a = true := by
  cases a with
  | ofNat m => exact Nat.beq_refl m
  | negSucc m => exact Nat.beq_refl m
theorem aij_ok {W : aW} {E : List aY} {ρ : List Int} {s s' : Nat} {c c' : Int} {x y : Int32} (hE : aE W E ρ) (h : aij E s c s' c' = true) (hx : ai ρ s c x) (hy : ai ρ s' c' y) : x.toInt ≠ y.toInt := by
  unfold aij at h
  rw [Bool.or_eq_true] at h
  rcases h with h | h
  · simp only [Bool.and_eq_true, Bool.not_eq_true'] at h
    obtain ⟨h1, h2, h3, h4⟩ := h
    have e := Nat.eq_of_beq_eq_true h1
    subst e
    obtain ⟨z, g1, g2⟩ := anw_ok hE h3 hx
    obtain ⟨w, g3, g4⟩ := anw_ok hE h4 hy
    rw [g1] at g3
    cases g3
    intro e
    have : c = c' := by omega
    rw [this, ieq_rf] at h2
    cases h2
  · split at h
    · next p hp =>
      split at h
      · next q hq =>
        have h1 := aiv_in hE hp hx
        have h2 := aiv_in hE hq hy
        rw [Bool.or_eq_true] at h
        rcases h with h | h
        · have := ile_f (by simpa using h)
          omega
        · have := ile_f (by simpa using h)
          omega
      · cases h
    · cases h
/-- two keys can't be one place -/
def adj (E : List aY) (q q' : aK) : Bool := (match E[q.1]? with
  | some (2, s, _) => match E[q'.1]? with
    | some (2, s', _) => !ieq s s'
    | _ => false
  | _ => false) || aij E q.2.1 q.2.2 q'.2.1 q'.2.2
theorem adj_ok {W : aW} {E : List aY} {ρ : List Int} {q q' : aK} {a k : Nat} (hE : aE W E ρ) (h : adj E q q' = true) (h1 : aden ρ q a k) (h2 : aden ρ q' a k) : False := by
  obtain ⟨d1, x, d2, d3⟩ := h1
  obtain ⟨e1, y, e2, e3⟩ := h2
  unfold adj at h
  rw [Bool.or_eq_true] at h
  rcases h with h | h
  · split at h
    · next s t hs =>
      split at h
      · next s' t' hs' =>
        have g1 := asort_of hE hs d1
        have g2 := asort_of hE hs' e1
        have : s = s' := by omega
        rw [this, ieq_rf] at h
        cases h
      · cases h
    · cases h
  · exact aij_ok hE h d2 e2 (by omega)
def akq (q q' : aK) : Bool := Nat.beq q.1 q'.1 && (Nat.beq q.2.1 q'.2.1 && ieq q.2.2 q'.2.2)
theorem akq_ok {q q' : aK} (h : akq q q' = true) : q = q' := by
  unfold akq at h
  rw [Bool.and_eq_true, Bool.and_eq_true] at h
  exact Prod.ext (Nat.eq_of_beq_eq_true h.1) (Prod.ext (Nat.eq_of_beq_eq_true h.2.1) (ieq_ok h.2.2))
def amg (m : aM) (q : aK) : Option aV := match m with
  | [] => none
  | e :: r => bif akq e.1 q then some e.2 else amg r q
theorem amg_mem : ∀ {m : aM} {q : aK} {a : aV}, amg m q = some a → (q, a) ∈ m
  | [], _, _, h => by cases h
  | e :: r, q, a, h => by
    unfold amg at h
    cases hb : akq e.1 q with
    | true =>
      rw [hb] at h
      cases h
      rw [← akq_ok hb]
      exact List.mem_cons_self
    | false =>
      rw [hb] at h
      exact List.mem_cons_of_mem _ (amg_mem h)
/-- what is kept of the memory; what isn't must lie in its type -/
def akill (W : aW) (E : List aY) (p : aK × aV → Bool) (m : aM) : Option aM := bif m.all (fun e => p e || adr W E e) then some (m.filter p) else none
theorem akill_ok {W : aW} {G : aG} {E : List aY} {ρ : List Int} {p : aK × aV → Bool} {m m' : aM} {h : zH} (hE : aE W E ρ) (hk : akill W E p m = some m') (hH : aH W G ρ m h) : aH W G ρ m' h ∧ ∀ e ∈ m', e ∈ m ∧ p e = true := by
  unfold akill at hk
  cases hb : m.all (fun e => p e || adr W E e) with
  | false => rw [hb] at hk; cases hk
  | true =>
    rw [hb] at hk
    cases hk
    obtain ⟨h1, h2, h3⟩ := hH
    refine ⟨⟨h1, fun a k ha hk => ?_, fun e he => h3 e (List.mem_filter.mp he).1⟩, fun e he => List.mem_filter.mp he⟩
    obtain ⟨v, g1, g2⟩ := h2 a k ha hk
    refine ⟨v, g1, ?_⟩
    rcases g2 with g2 | ⟨e, he, g2⟩
    · exact Or.inl g2
    · have := List.all_eq_true.mp hb e he
      rw [Bool.or_eq_true] at this
      rcases this with hp | hd
      · exact Or.inr ⟨e, List.mem_filter.mpr ⟨he, hp⟩, g2⟩
      · obtain ⟨a', k', v', q1, q2, q3, q4, q5⟩ := h3 e he
        obtain ⟨rfl, rfl⟩ := q1.inj g2
        rw [g1] at q4
        cases q4
        exact Or.inl (adr_ok hE hd g2 q5)
/-- one place has another value -/
def aWr (W : aW) (G : aG) (h h' : zH) (a k : Nat) (v : Value) : Prop := aSh W h' ∧ h'.length = h.length ∧ rdx G h' a k = some v ∧ ∀ b j : Nat, b < W.1.length → j < apn (afm W (asrt W b)) → ¬ (b = a ∧ j = k) → rdx G h' b j = rdx G h b j
def awr (W : aW) (E : List aY) (m : aM) (q : aK) (a : aV) : Option aM := bif m.all (fun e => akq e.1 q || (adj E e.1 q || adr W E e)) then some ((q, a) :: m.filter (fun e => adj E e.1 q)) else none
theorem awr_ok {W : aW} {G : aG} {E : List aY} {ρ : List Int} {m m' : aM} {q : aK} {b : aV} {h h' : zH} {a k : Nat} {v : Value} (hE : aE W E ρ) (hw : awr W E m q b = some m') (hH : aH W G ρ m h) (hd : aden ρ q a k) (ha : a < W.1.length) (hk : k < apn (afm W (asrt W a))) (hv : av ρ b v) (hW : aWr W G h h' a k v) : aH W G ρ m' h' := by
  unfold awr at hw
  cases hb : m.all (fun e => akq e.1 q || (adj E e.1 q || adr W E e)) with
  | false => rw [hb] at hw; cases hw
  | true =>
    rw [hb] at hw
    cases hw
    obtain ⟨h1, h2, h3⟩ := hH
    obtain ⟨w1, w0, w2, w3⟩ := hW
    refine ⟨w1, fun a' k' ha' hk' => ?_, fun e he => ?_⟩
    · by_cases e0 : a' = a ∧ k' = k
      · obtain ⟨rfl, rfl⟩ := e0
        exact ⟨v, w2, Or.inr ⟨(q, b), List.mem_cons_self, hd⟩⟩
      · obtain ⟨v', g1, g2⟩ := h2 a' k' ha' hk'
        refine ⟨v', by rw [w3 a' k' ha' hk' e0]; exact g1, ?_⟩
        rcases g2 with g2 | ⟨e, he, g2⟩
        · exact Or.inl g2
        · have := List.all_eq_true.mp hb e he
          rw [Bool.or_eq_true, Bool.or_eq_true] at this
          rcases this with hq | hq | hq
          · rw [akq_ok hq] at g2
            exact absurd (g2.inj hd) e0
          · exact Or.inr ⟨e, List.mem_cons_of_mem _ (List.mem_filter.mpr ⟨he, hq⟩), g2⟩
          · obtain ⟨a'', k'', v'', q1, q2, q3, q4, q5⟩ := h3 e he
            obtain ⟨rfl, rfl⟩ := q1.inj g2
            rw [g1] at q4
            cases q4
            exact Or.inl (adr_ok hE hq g2 q5)
    · rcases List.mem_cons.mp he with rfl | he
      · exact ⟨a, k, v, hd, ha, hk, w2, hv⟩
      · obtain ⟨he, hq⟩ := List.mem_filter.mp he
        obtain ⟨a', k', v', q1, q2, q3, q4, q5⟩ := h3 e he
        refine ⟨a', k', v', q1, q2, q3, ?_, q5⟩
        rw [w3 a' k' q2 q3 (fun e0 => by
          obtain ⟨rfl, rfl⟩ := e0
          exact adj_ok hE hq q1 hd)]
        exact q4
/-- several places have other values, what else is remembered is apart from them -/
def amw (W : aW) (E : List aY) (m L : aM) (ks : List aK) : Option aM := bif m.all (fun e => L.any (fun g => akq e.1 g.1) || (ks.any (fun g => akq e.1 g) || ((L.all (fun g => adj E e.1 g.1) && ks.all (fun g => adj E e.1 g)) || adr W E e))) then some (L ++ m.filter (fun e => L.all (fun g => adj E e.1 g.1) && ks.all (fun g => adj E e.1 g))) else none
theorem amw_ok {W : aW} {G : aG} {E : List aY} {ρ : List Int} {m m' L : aM} {ks : List aK} {h h' : zH} (hE : aE W E ρ) (hw : amw W E m L ks = some m') (hH : aH W G ρ m h) (hS : aSh W h') (hL : ∀ g ∈ L, ∃ (a k : Nat) (v : Value), aden ρ g.1 a k ∧ a < W.1.length ∧ k < apn (afm W (asrt W a)) ∧ rdx G h' a k = some v ∧ av ρ g.2 v) (hk : ∀ g ∈ ks, ∃ (a k : Nat) (v : Value), aden ρ g a k ∧ rdx G h' a k = some v ∧ avt W (apl (afm W (asrt W a)) k) v) (ho : ∀ a k : Nat, a < W.1.length → k < apn (afm W (asrt W a)) → (∀ g ∈ L, ¬ aden ρ g.1 a k) → (∀ g ∈ ks, ¬ aden ρ g a k) → rdx G h' a k = rdx G h a k) : aH W G ρ m' h' := by
  unfold amw at hw
  cases hb : m.all (fun e => L.any (fun g => akq e.1 g.1) || (ks.any (fun g => akq e.1 g) || ((L.all (fun g => adj E e.1 g.1) && ks.all (fun g => adj E e.1 g)) || adr W E e))) with
  | false => rw [hb] at hw; cases hw
  | true =>
    rw [hb] at hw
    cases hw
    obtain ⟨h1, h2, h3⟩ := hH
    refine ⟨hS, fun a k ha hk' => ?_, fun e he => ?_⟩
    · by_cases c1 : ∃ g ∈ L, aden ρ g.1 a k
      · obtain ⟨g, g1, g2⟩ := c1
        obtain ⟨a', k', v, d1, d2, d3, d4, d5⟩ := hL g g1
        obtain ⟨rfl, rfl⟩ := d1.inj g2
        exact ⟨v, d4, Or.inr ⟨g, List.mem_append_left _ g1, g2⟩⟩
      · by_cases c2 : ∃ g ∈ ks, aden ρ g a k
        · obtain ⟨g, g1, g2⟩ := c2
          obtain ⟨a', k', v, d1, d4, d5⟩ := hk g g1
          obtain ⟨rfl, rfl⟩ := d1.inj g2
          exact ⟨v, d4, Or.inl d5⟩
        · have e0 := ho a k ha hk' (fun g g1 g2 => c1 ⟨g, g1, g2⟩) (fun g g1 g2 => c2 ⟨g, g1, g2⟩)
          obtain ⟨v, g1, g2⟩ := h2 a k ha hk'
          refine ⟨v, by rw [e0]; exact g1, ?_⟩
          rcases g2 with g2 | ⟨e, he, g2⟩
          · exact Or.inl g2
          · have := List.all_eq_true.mp hb e he
            simp only [Bool.or_eq_true] at this
            rcases this with q | q | q | q
            · obtain ⟨g, q1, q2⟩ := List.any_eq_true.mp q
              rw [akq_ok q2] at g2
              exact absurd ⟨g, q1, g2⟩ c1
            · obtain ⟨g, q1, q2⟩ := List.any_eq_true.mp q
              rw [akq_ok q2] at g2
              exact absurd ⟨g, q1, g2⟩ c2
            · exact Or.inr ⟨e, List.mem_append_right _ (List.mem_filter.mpr ⟨he, q⟩), g2⟩
            · obtain ⟨a', k', v', w1, w2, w3, w4, w5⟩ := h3 e he
              obtain ⟨rfl, rfl⟩ := w1.inj g2
              rw [g1] at w4
              cases w4
              exact Or.inl (adr_ok hE q g2 w5)
    · rcases List.mem_append.mp he with he | he
      · exact hL e he
      · obtain ⟨he, q⟩ := List.mem_filter.mp he
        rw [Bool.and_eq_true] at q
        obtain ⟨a, k, v, w1, w2, w3, w4, w5⟩ := h3 e he
        refine ⟨a, k, v, w1, w2, w3, ?_, w5⟩
        rw [ho a k w2 w3 (fun g g1 g2 => adj_ok hE (List.all_eq_true.mp q.1 g g1) w1 g2) (fun g g1 g2 => adj_ok hE (List.all_eq_true.mp q.2 g g1) w1 g2)]
        exact w4
/-- a write is booked -/
def acov (E : List aY) (D : List aD) (s : Int) (q : aK) : Bool := D.any (fun d => ieq s d.1 && (bif Nat.beq d.2.1 0 then (match aiv E q.2.1 q.2.2 with
  | some p => ile d.2.2.2.1 p.1 && ile p.2 d.2.2.2.2
  | none => false) else Nat.beq d.2.2.1 q.2.1 && ieq d.2.2.2.1 q.2.2))
theorem acov_ok {W : aW} {E : List aY} {ρ : List Int} {D : List aD} {q : aK} {a k : Nat} (hE : aE W E ρ) (h : acov E D (asrt W a) q = true) (hd : aden ρ q a k) : ∃ d ∈ D, amd W ρ d a k := by
  obtain ⟨d, hd1, hd2⟩ := List.any_eq_true.mp h
  refine ⟨d, hd1, ?_⟩
  rw [Bool.and_eq_true] at hd2
  obtain ⟨g1, g2⟩ := hd2
  have g1 := ieq_ok g1
  obtain ⟨d1, x, d2, d3⟩ := hd
  refine ⟨by omega, ?_⟩
  cases hb : Nat.beq d.2.1 0 with
  | true =>
    rw [Nat.eq_of_beq_eq_true hb]
    rw [hb] at g2
    have g2' : (match aiv E q.2.1 q.2.2 with
      | some p => ile d.2.2.2.1 p.1 && ile p.2 d.2.2.2.2
      | none => false) = true := g2
    split at g2'
    · next p hp =>
      rw [Bool.and_eq_true] at g2'
      have h1 := aiv_in hE hp d2
      have h2 := ile_iff.mp g2'.1
      have h3 := ile_iff.mp g2'.2
      exact ⟨by omega, by omega⟩
    · cases g2'
  | false =>
    rw [hb] at g2
    have g2' : (Nat.beq d.2.2.1 q.2.1 && ieq d.2.2.2.1 q.2.2) = true := g2
    rw [Bool.and_eq_true] at g2'
    split
    · next q0 => rw [q0] at hb; cases hb
    · refine ⟨x, ?_, d3⟩
      rw [Nat.eq_of_beq_eq_true g2'.1, ieq_ok g2'.2]
      exact d2
theorem aF.wr {W : aW} {G : aG} {ρ : List Int} {D : List aD} {h0 h h' : zH} {a k : Nat} {v : Value} (hF : aF W G ρ D h0 h) (hW : aWr W G h h' a k v) (hc : ∃ d ∈ D, amd W ρ d a k) : aF W G ρ D h0 h' := by
  obtain ⟨d, hd1, hd2⟩ := hc
  refine ⟨hW.2.1.trans hF.1, fun b j hb hj hn => ?_⟩
  rw [hW.2.2.2 b j hb hj (fun e => by
    obtain ⟨rfl, rfl⟩ := e
    exact hn d hd1 hd2)]
  exact hF.2 b j hb hj hn
/-! A value that is read anew. -/
def afr (t : aY) (n : Nat) : aV := match t.1 with
  | 0 => .inl (n, 0)
  | 1 => .inr (.inl n)
  | _ => .inr (.inr (.inl n))
def afk (t : aY) : List aY := match t with
  | (2, s, s') => bif ieq s s' then [(2, s, s)] else [(2, s, s), (2, s', s')]
  | t => [t]
theorem afk_ok {W : aW} {t : aY} {v : Value} (h : avt W t v) : ∃ t' ∈ afk t, ∃ z : Int, asy W t' z ∧ ∀ ρ : List Int, av (ρ ++ [z]) (afr t' ρ.length) v := by
  obtain ⟨n, l, u⟩ := t
  match n, h with
  | 0, h =>
    obtain ⟨x, rfl, h1, h2⟩ := h
    exact ⟨(0, l, u), List.mem_cons_self, x.toInt, ⟨h1, h2⟩, fun ρ => ⟨x, ⟨x.toInt, anew_get _, by rw [Int.add_zero, Int32.ofInt_toInt]⟩, rfl⟩⟩
  | 1, h =>
    obtain ⟨x, rfl, h1, h2⟩ := h
    exact ⟨(1, l, u), List.mem_cons_self, x.toInt, ⟨⟨h1, h2⟩, abl x⟩, fun ρ => ⟨x.toInt, anew_get _, by rw [Int64.ofInt_toInt]⟩⟩
  | 2, h =>
    obtain ⟨x, rfl, h1, h2⟩ := h
    have key : ∀ s : Int, (asrt W x : Int) = s → (2, s, s) ∈ afk (2, l, u) → ∃ t' ∈ afk (2, l, u), ∃ z : Int, asy W t' z ∧ ∀ ρ : List Int, av (ρ ++ [z]) (afr t' ρ.length) (.ref x) := fun s hs hm => ⟨(2, s, s), hm, (x : Int), ⟨x, rfl, h1, hs⟩, fun ρ => ⟨x, anew_get _, rfl⟩⟩
    cases hb : ieq l u with
    | true =>
      have e := ieq_ok hb
      subst e
      refine key l (by rcases h2 with q | q <;> exact q) ?_
      show (2, l, l) ∈ (bif ieq l l then [(2, l, l)] else [(2, l, l), (2, l, l)])
      rw [hb]
      exact List.mem_cons_self
    | false =>
      rcases h2 with q | q
      · refine key l q ?_
        show (2, l, l) ∈ (bif ieq l u then [(2, l, l)] else [(2, l, l), (2, u, u)])
        rw [hb]
        exact List.mem_cons_self
      · refine key u q ?_
        show (2, u, u) ∈ (bif ieq l u then [(2, l, l)] else [(2, l, l), (2, u, u)])
        rw [hb]
        exact List.mem_cons_of_mem _ List.mem_cons_self
/-- the hull of n + 1 places' types -/
def ahu (t : aT) : Nat → Nat → aY
  | 0, k => apl t k
  | n + 1, k => match apl t k with
    | (0, l, u) => match ahu t n (k + 1) with
      | (0, l', u') => (0, imn l l', imx u u')
      | _ => (9, 0, 0)
    | _ => (9, 0, 0)
def ahl (t : aT) (l u : Int) : aY := bif Nat.beq t.2.1 0 then ahu t (u - l).toNat l.toNat else match t.2.2.2 with
  | [y] => y
  | _ => ahu t (u - l).toNat l.toNat
theorem ahu_ok {W : aW} {t : aT} {v : Value} {j : Nat} (h : avt W (apl t j) v) : ∀ (n k : Nat), k ≤ j → j ≤ k + n → (ahu t n k).1 ≠ 9 → avt W (ahu t n k) v
  | 0, k, h1, h2, _ => by
    have e : j = k := by omega
    subst e
    exact h
  | n + 1, k, h1, h2, h3 => by
    unfold ahu at h3 ⊢
    split
    · next l u hl =>
      split
      · next l' u' hl' =>
        rw [imn_eq, imx_eq]
        by_cases e : j = k
        · subst e
          rw [hl] at h
          obtain ⟨x, rfl, g1, g2⟩ := h
          exact ⟨x, rfl, by omega, by omega⟩
        · have := ahu_ok h n (k + 1) (by omega) (by omega) (by rw [hl']; show (0 : Nat) ≠ 9; decide)
          rw [hl'] at this
          obtain ⟨x, rfl, g1, g2⟩ := this
          exact ⟨x, rfl, by omega, by omega⟩
      · next hl' =>
        rw [hl] at h3
        split at h3
        · split at h3
          · next hh => exact absurd hh (hl' _ _)
          · exact absurd rfl h3
        · exact absurd rfl h3
    · next hl =>
      split at h3
      · next hh => exact absurd hh (hl _ _)
      · exact absurd rfl h3
theorem ahl_ok {W : aW} {t : aT} {v : Value} {j : Nat} {l u : Int} (h : avt W (apl t j) v) (h0 : 0 ≤ l) (h1 : l ≤ j) (h2 : (j : Int) ≤ u) (h3 : (ahl t l u).1 ≠ 9) : avt W (ahl t l u) v := by
  unfold ahl at h3 ⊢
  cases hb : Nat.beq t.2.1 0 with
  | true =>
    rw [hb] at h3
    exact ahu_ok h _ _ (by omega) (by omega) h3
  | false =>
    rw [hb] at h3
    have h3' : (match t.2.2.2 with | [y] => y | _ => ahu t (u - l).toNat l.toNat).1 ≠ 9 := h3
    show avt W (match t.2.2.2 with | [y] => y | _ => ahu t (u - l).toNat l.toNat) v
    split
    · next y hy =>
      unfold apl at h
      rw [hb, hy] at h
      exact h
    · next hy =>
      split at h3'
      · next y hy' => exact absurd hy' (hy y)
      · exact ahu_ok h _ _ (by omega) (by omega) h3'
