/-! Cells: reads and writes. -/
def aconv (v : Value) : Option aV := match v with
  | .int x => some (.inl (0, x.toInt))
  | .retAddr k => bif Nat.beq k 999 then none else some (.inr (.inr (.inr k)))
  | _ => none
theorem aconv_ok {W : aW} {E : List aY} {ρ : List Int} {v : Value} {a : aV} (hE : aE W E ρ) (h : aconv v = some a) : av ρ a v := by
  unfold aconv at h
  split at h
  · next x =>
    cases h
    refine ⟨x, ?_, rfl⟩
    have := ai_c hE x.toInt
    rw [Int32.ofInt_toInt] at this
    exact this
  · next k =>
    cases hb : Nat.beq k 999 with
    | true => rw [hb] at h; cases h
    | false =>
      rw [hb] at h
      cases h
      exact avx_mk hb
  · cases h
/-- an index: the number itself where it is known -/
def aix (s : Nat) (c : Int) (p : Int × Int) : Nat × Int := bif ieq p.1 p.2 then (0, p.1) else (s, c)
theorem aix_ok {W : aW} {E : List aY} {ρ : List Int} {s : Nat} {c : Int} {p : Int × Int} {x : Int32} (hE : aE W E ρ) (hp : aiv E s c = some p) (hx : ai ρ s c x) : ai ρ (aix s c p).1 (aix s c p).2 x := by
  unfold aix
  cases hb : ieq p.1 p.2 with
  | false => exact hx
  | true =>
    obtain ⟨e, -⟩ := ais hb (aiv_in hE hp hx)
    rw [e]
    exact ai_c hE _
def ard (W : aW) (E : List aY) (m : aM) (f : aT) (q : aK) (l u : Int) : Option (List (List aY × aV × aM)) := match amg m q with
  | some v => some [(E, v, m)]
  | none => bif m.all (fun e => adj E e.1 q || adr W E e) && !Nat.beq (ahl f l u).1 9 then some ((afk (ahl f l u)).map (fun t => (E ++ [t], afr t E.length, (q, afr t E.length) :: m))) else none
theorem ard_ok {W : aW} {G : aG} {E : List aY} {ρ : List Int} {m : aM} {f : aT} {q : aK} {l u : Int} {os : List (List aY × aV × aM)} {h : zH} {a k : Nat} (hs : ard W E m f q l u = some os) (hE : aE W E ρ) (hH : aH W G ρ m h) (hd : aden ρ q a k) (ha : a < W.1.length) (hf : afm W (asrt W a) = f) (hk : k < apn f) (h0 : 0 ≤ l) (h1 : l ≤ k) (h2 : (k : Int) ≤ u) : ∃ v : Value, rdx G h a k = some v ∧ ∃ o ∈ os, ∃ ρ', aext ρ ρ' ∧ aE W o.1 ρ' ∧ av ρ' o.2.1 v ∧ aH W G ρ' o.2.2 h := by
  subst hf
  unfold ard at hs
  split at hs
  · next v hv =>
    cases hs
    obtain ⟨b, j, w, g1, g2, g3, g4, g5⟩ := hH.2.2 _ (amg_mem hv)
    obtain ⟨rfl, rfl⟩ := hd.inj g1
    exact ⟨w, g4, _, List.mem_cons_self, ρ, aext.rf, hE, g5, hH⟩
  · cases hb : (m.all (fun e => adj E e.1 q || adr W E e) && !Nat.beq (ahl (afm W (asrt W a)) l u).1 9) with
    | false => rw [hb] at hs; cases hs
    | true =>
      rw [hb] at hs
      cases hs
      rw [Bool.and_eq_true] at hb
      obtain ⟨b1, b2⟩ := hb
      obtain ⟨v, g1, g2⟩ := hH.2.1 a k ha hk
      have hty : avt W (apl (afm W (asrt W a)) k) v := by
        rcases g2 with g2 | ⟨e, he, g2⟩
        · exact g2
        · have := List.all_eq_true.mp b1 e he
          rw [Bool.or_eq_true] at this
          rcases this with hq | hq
          · exact (adj_ok hE hq g2 hd).elim
          · obtain ⟨b, j, w, q1, q2, q3, q4, q5⟩ := hH.2.2 e he
            obtain ⟨rfl, rfl⟩ := q1.inj g2
            rw [g1] at q4
            cases q4
            exact adr_ok hE hq g2 q5
      have hty2 := ahl_ok hty h0 h1 h2 (fun e => by rw [e] at b2; cases b2)
      obtain ⟨t, t1, z, t2, t3⟩ := afk_ok hty2
      refine ⟨v, g1, _, List.mem_map.mpr ⟨t, t1, rfl⟩, ρ ++ [z], aext.one z, hE.push t2, ?_, ?_⟩
      · have := t3 ρ
        rw [hE.1] at this
        exact this
      · have hH' := hH.ext (aext.one z)
        have hv' := t3 ρ
        rw [hE.1] at hv'
        refine ⟨hH'.1, fun b j hb hj => ?_, fun e he => ?_⟩
        · obtain ⟨w, q1, q2⟩ := hH'.2.1 b j hb hj
          refine ⟨w, q1, ?_⟩
          rcases q2 with q2 | ⟨e, he, q2⟩
          · exact Or.inl q2
          · exact Or.inr ⟨e, List.mem_cons_of_mem _ he, q2⟩
        · rcases List.mem_cons.mp he with rfl | he
          · exact ⟨a, k, v, hd.ext (aext.one z), ha, hk, g1, hv'⟩
          · exact hH'.2.2 e he
/-- protected places: a write there isn't plain -/
def aprt (Pt : List (Nat × Int × Int)) (s : Int) (l u : Int) : Bool := Pt.all (fun p => !ieq s p.1 || (!ile p.2.1 u || !ile l p.2.2))
/-- rules for protected places: types, memory, sort, place, value; refused, or can't be, or: types, what is worked out and known then, what is worked out and no more known -/
abbrev aU : Type := List aY → aM → Int → aK → aV → Option (Option (List aY × aM × List aK))
abbrev aPt : Type := List (Nat × Int × Int) × aU
def aUout (W : aW) (G : aG) (ρ : List Int) (h h' : zH) (o : Option (List aY × aM × List aK)) : Prop := match o with
  | none => False
  | some A => ∃ ρ', aext ρ ρ' ∧ aE W A.1 ρ' ∧ (∀ g ∈ A.2.1, ∃ (a k : Nat) (x : Int32), aden ρ' g.1 a k ∧ a < W.1.length ∧ k < apn (afm W (asrt W a)) ∧ (afm W (asrt W a)).2.2.1 ≤ k ∧ G a k h' = some x ∧ av ρ' g.2 (.int x)) ∧ (∀ g ∈ A.2.2, ∃ (a k : Nat) (x : Int32), aden ρ' g a k ∧ a < W.1.length ∧ (afm W (asrt W a)).2.2.1 ≤ k ∧ G a k h' = some x ∧ avt W (apl (afm W (asrt W a)) k) (.int x)) ∧ ∀ a k : Nat, (∀ g ∈ A.2.1, ¬ aden ρ' g.1 a k) → (∀ g ∈ A.2.2, ¬ aden ρ' g a k) → G a k h' = G a k h
def aUok (W : aW) (G : aG) (U : aU) : Prop := ∀ (E : List aY) (m : aM) (q : aK) (b : aV) (ρ : List Int) (h h' : zH) (a k : Nat) (w : Value) (o : Option (List aY × aM × List aK)), U E m (asrt W a) q b = some o → aE W E ρ → aH W G ρ m h → a < W.1.length → k < (afm W (asrt W a)).2.2.1 → aden ρ q a k → av ρ b w → aSh W h' → rd h' a k = some w → (∀ c j : Nat, ¬ (c = a ∧ j = k) → rd h' c j = rd h c j) → aUout W G ρ h h' o
/-- what is worked out of the heap stands beside the real places, and a plain write leaves it -/
def aGok (W : aW) (G : aG) (Pt : aPt) : Prop := aUok W G Pt.2 ∧ (∀ (a k : Nat) (h : zH), a < W.1.length → k < (afm W (asrt W a)).2.2.1 → G a k h = none) ∧ ∀ (h h' : zH) (a k : Nat), a < W.1.length → aprt Pt.1 (asrt W a) k k = true → (∀ b j : Nat, ¬ (b = a ∧ j = k) → rd h' b j = rd h b j) → ∀ b j : Nat, G b j h' = G b j h
theorem aprt_ok {Pt : List (Nat × Int × Int)} {s l u : Int} {k : Nat} (h : aprt Pt s l u = true) (h1 : l ≤ k) (h2 : (k : Int) ≤ u) : aprt Pt s k k = true := by
  unfold aprt at h ⊢
  rw [List.all_eq_true] at h ⊢
  intro p hp
  have := h p hp
  rw [Bool.or_eq_true, Bool.or_eq_true] at this ⊢
  rcases this with q | q | q
  · exact Or.inl q
  · refine Or.inr (Or.inl ?_)
    have q := ile_f (by simpa using q)
    cases hb : ile p.2.1 k with
    | false => rfl
    | true => have := ile_iff.mp hb; omega
  · refine Or.inr (Or.inr ?_)
    have q := ile_f (by simpa using q)
    cases hb : ile (k : Int) p.2.2 with
    | false => rfl
    | true => have := ile_iff.mp hb; omega
theorem ard1 {e : zE} {h : zH} {a j : Nat} (q : h[a]? = some e) : rd h a j = rd [e] 0 j := by
  unfold rd
  rw [q]
  rfl
theorem araw {W : aW} {h : zH} {a k : Nat} {e e' : zE} {v : Value} (hS : aSh W h) (he : h[a]? = some e) (hsh : ash (afm W (asrt W a)) e') (hv : rd [e'] 0 k = some v) (ho : ∀ j : Nat, ¬ j = k → rd [e'] 0 j = rd [e] 0 j) : aSh W (h.set a e') ∧ rd (h.set a e') a k = some v ∧ ∀ b j : Nat, ¬ (b = a ∧ j = k) → rd (h.set a e') b j = rd h b j := by
  have hlt : a < h.length := (List.getElem?_eq_some_iff.mp he).1
  have gs : (h.set a e')[a]? = some e' := by rw [List.getElem?_set_self hlt]
  have gn : ∀ b : Nat, ¬ b = a → (h.set a e')[b]? = h[b]? := fun b hb => List.getElem?_set_ne (Ne.symm hb)
  refine ⟨fun b hb => ?_, by rw [ard1 gs]; exact hv, fun b j hn => ?_⟩
  · by_cases hb' : b = a
    · subst hb'
      exact ⟨e', gs, hsh⟩
    · rw [gn b hb']
      exact hS b hb
  · by_cases hb : b = a
    · subst hb
      rw [ard1 gs, ard1 he]
      exact ho j (fun q => hn ⟨rfl, q⟩)
    · unfold rd
      rw [gn b hb]
/-- a plain write to the list of cells -/
theorem aWr_of {W : aW} {G : aG} {Pt : aPt} {h : zH} {a k : Nat} {e e' : zE} {v : Value} (hG : aGok W G Pt) (hS : aSh W h) (ha : a < W.1.length) (hk : k < (afm W (asrt W a)).2.2.1) (hp : aprt Pt.1 (asrt W a) k k = true) (he : h[a]? = some e) (hsh : ash (afm W (asrt W a)) e') (hv : rd [e'] 0 k = some v) (ho : ∀ j : Nat, ¬ j = k → rd [e'] 0 j = rd [e] 0 j) : aWr W G h (h.set a e') a k v := by
  have hlt : a < h.length := (List.getElem?_eq_some_iff.mp he).1
  have gs : (h.set a e')[a]? = some e' := by rw [List.getElem?_set_self hlt]
  have gn : ∀ b : Nat, ¬ b = a → (h.set a e')[b]? = h[b]? := fun b hb => List.getElem?_set_ne (Ne.symm hb)
  have r1 : ∀ (e : zE) (h : zH) (a j : Nat), h[a]? = some e → rd h a j = rd [e] 0 j := fun e h a j q => by
    unfold rd
    rw [q]
    rfl
  have r2 : ∀ b j : Nat, ¬ (b = a ∧ j = k) → rd (h.set a e') b j = rd h b j := fun b j hn => by
    by_cases hb : b = a
    · subst hb
      rw [r1 _ _ _ _ gs, r1 _ _ _ _ he]
      exact ho j (fun q => hn ⟨rfl, q⟩)
    · unfold rd
      rw [gn b hb]
  have hg := hG.2.2 h (h.set a e') a k ha hp r2
  refine ⟨fun b hb => ?_, by simp, ?_, fun b j hb hj hn => ?_⟩
  · by_cases hb' : b = a
    · subst hb'
      exact ⟨e', gs, hsh⟩
    · rw [gn b hb']
      exact hS b hb
  · unfold rdx
    rw [hg, hG.2.1 a k h ha hk, r1 _ _ _ _ gs]
    exact hv
  · unfold rdx
    rw [hg, r2 b j hn]
/-- what stands in a real place -/
theorem ardr {W : aW} {G : aG} {Pt : aPt} {h : zH} {a k : Nat} (hG : aGok W G Pt) (ha : a < W.1.length) (hk : k < (afm W (asrt W a)).2.2.1) : rdx G h a k = rd h a k := by
  unfold rdx
  rw [hG.2.1 a k h ha hk]
/-- a field may take this -/
def afty (E : List aY) (t : FieldType) (a : aV) : Bool := match t, a with
  | .int, .inl _ => true
  | .boolean, .inl (s, c) => match aiv E s c with
    | some p => ile 0 p.1 && ile p.2 1
    | none => false
  | .long, .inr (.inl _) => true
  | .object _, .inr (.inr (.inl _)) => true
  | .array _, .inr (.inr (.inl _)) => true
  | _, _ => false
theorem afty_ok {W : aW} {E : List aY} {ρ : List Int} {t : FieldType} {a : aV} {v : Value} (hE : aE W E ρ) (h : afty E t a = true) (hv : av ρ a v) : narrow t (zdry v) = zdry v ∧ fits t (zdry v) = true := by
  unfold afty at h
  split at h
  · obtain ⟨x, -, rfl⟩ := hv
    exact ⟨rfl, rfl⟩
  · next s c =>
    split at h
    · next p hp =>
      obtain ⟨x, h1, rfl⟩ := hv
      have hb := aiv_in hE hp h1
      rw [Bool.and_eq_true] at h
      have h2 := ile_iff.mp h.1
      have h3 := ile_iff.mp h.2
      rcases (show x.toInt = 0 ∨ x.toInt = 1 by omega) with q | q
      · have e : x = 0 := Int32.toInt_inj.mp q
        subst e
        exact ⟨rfl, rfl⟩
      · have e : x = 1 := Int32.toInt_inj.mp q
        subst e
        exact ⟨rfl, rfl⟩
    · cases h
  · obtain ⟨x, -, rfl⟩ := hv
    exact ⟨rfl, rfl⟩
  · obtain ⟨x, -, rfl⟩ := hv
    exact ⟨rfl, rfl⟩
  · obtain ⟨x, -, rfl⟩ := hv
    exact ⟨rfl, rfl⟩
  · cases h
