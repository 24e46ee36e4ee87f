/-! A call by a contract. -/
def akeep (E : List aY) (σ : List aV) (D : List aD) (e : aK × aV) : Bool := match E[e.1.1]? with
  | some (2, s, _) => D.all (fun d => !ieq s d.1 || (bif Nat.beq d.2.1 0 then (match aiv E e.1.2.1 e.1.2.2 with
    | some p => !ile d.2.2.2.1 p.2 || !ile p.1 d.2.2.2.2
    | none => false) else (match asi σ d.2.2.1 d.2.2.2.1 with
      | some p => aij E e.1.2.1 e.1.2.2 p.1 p.2
      | none => false)))
  | _ => false
theorem akeep_ok {W : aW} {E : List aY} {ρ : List Int} {σ : List aV} {ρc : List Int} {D : List aD} {e : aK × aV} {a k : Nat} (hE : aE W E ρ) (hg : asg ρ σ ρc) (h : akeep E σ D e = true) (hd : aden ρ e.1 a k) : ∀ d ∈ D, ¬ amd W ρc d a k := by
  intro d hd1 hm
  obtain ⟨h1, x, h2, h3⟩ := hd
  unfold akeep at h
  split at h
  · next s s' hs =>
    have g := List.all_eq_true.mp h d hd1
    obtain ⟨-, hso⟩ := asort_of hE hs h1
    obtain ⟨m1, m2⟩ := hm
    rw [Bool.or_eq_true] at g
    rcases g with g | g
    · have : s = (d.1 : Int) := by omega
      rw [this, ieq_rf] at g
      cases g
    · cases hb : Nat.beq d.2.1 0 with
      | true =>
        rw [hb] at g
        rw [Nat.eq_of_beq_eq_true hb] at m2
        have m2 : d.2.2.2.1 ≤ (k : Int) ∧ (k : Int) ≤ d.2.2.2.2 := m2
        dsimp only [cond_true] at g
        split at g
        · next p hp =>
          have hxp := aiv_in hE hp h2
          rw [Bool.or_eq_true] at g
          rcases g with g | g
          · have := ile_f (by simpa using g); omega
          · have := ile_f (by simpa using g); omega
        · cases g
      | false =>
        rw [hb] at g
        dsimp only [cond_false] at g
        split at g
        · next p hp =>
          split at m2
          · next q0 => rw [q0] at hb; cases hb
          · obtain ⟨y, y1, y2⟩ := m2
            exact aij_ok hE g h2 (asi_f hg hp y1) (by omega)
        · cases g
  · cases h
def amods (E : List aY) (D : List aD) (σ : List aV) (M : List aD) : Bool := M.all (fun d => bif Nat.beq d.2.1 0 then D.any (fun d' => Nat.beq d'.1 d.1 && (Nat.beq d'.2.1 0 && (ile d'.2.2.2.1 d.2.2.2.1 && ile d.2.2.2.2 d'.2.2.2.2))) else (match asi σ d.2.2.1 d.2.2.2.1 with
  | some p => acov E D d.1 (0, p)
  | none => false))
theorem acovx {W : aW} {E : List aY} {ρ : List Int} {D : List aD} {q : aK} {a k : Nat} {x : Int32} (hE : aE W E ρ) (h : acov E D (asrt W a) q = true) (d2 : ai ρ q.2.1 q.2.2 x) (d3 : x.toInt = (k : Int)) : ∃ d ∈ D, amd W ρ d a k := by
  obtain ⟨d, hd1, hd2⟩ := List.any_eq_true.mp h
  refine ⟨d, hd1, ?_⟩
  rw [Bool.and_eq_true] at hd2
  obtain ⟨g1, g2⟩ := hd2
  have g1 := ieq_ok g1
  refine ⟨by omega, ?_⟩
  cases hb : Nat.beq d.2.1 0 with
  | true =>
    rw [Nat.eq_of_beq_eq_true hb]
    rw [hb] at g2
    have g2' : (match aiv E q.2.1 q.2.2 with
      | some p => ile d.2.2.2.1 p.1 && ile p.2 d.2.2.2.2
      | none => false) = true := g2
    split at g2'
    · next p hp =>
      rw [Bool.and_eq_true] at g2'
      have h1 := aiv_in hE hp d2
      have h2 := ile_iff.mp g2'.1
      have h3 := ile_iff.mp g2'.2
      exact ⟨by omega, by omega⟩
    · cases g2'
  | false =>
    rw [hb] at g2
    have g2' : (Nat.beq d.2.2.1 q.2.1 && ieq d.2.2.2.1 q.2.2) = true := g2
    rw [Bool.and_eq_true] at g2'
    split
    · next q0 => rw [q0] at hb; cases hb
    · refine ⟨x, ?_, d3⟩
      rw [Nat.eq_of_beq_eq_true g2'.1, ieq_ok g2'.2]
      exact d2
theorem amods_ok {W : aW} {E : List aY} {ρ : List Int} {σ : List aV} {ρc : List Int} {D M : List aD} {a k : Nat} {d : aD} (hE : aE W E ρ) (hg : asg ρ σ ρc) (h : amods E D σ M = true) (hd : d ∈ M) (hm : amd W ρc d a k) : ∃ d' ∈ D, amd W ρ d' a k := by
  have g := List.all_eq_true.mp h d hd
  obtain ⟨m1, m2⟩ := hm
  cases hb : Nat.beq d.2.1 0 with
  | true =>
    rw [hb] at g
    rw [Nat.eq_of_beq_eq_true hb] at m2
    have m2 : d.2.2.2.1 ≤ (k : Int) ∧ (k : Int) ≤ d.2.2.2.2 := m2
    dsimp only [cond_true] at g
    obtain ⟨d', d1, d2⟩ := List.any_eq_true.mp g
    simp only [Bool.and_eq_true] at d2
    obtain ⟨e1, e2, e3, e4⟩ := d2
    refine ⟨d', d1, by rw [m1, Nat.eq_of_beq_eq_true e1], ?_⟩
    rw [Nat.eq_of_beq_eq_true e2]
    have e3 := ile_iff.mp e3
    have e4 := ile_iff.mp e4
    exact ⟨by omega, by omega⟩
  | false =>
    rw [hb] at g
    dsimp only [cond_false] at g
    split at g
    · next p hp =>
      split at m2
      · next q0 => rw [q0] at hb; cases hb
      · obtain ⟨y, y1, y2⟩ := m2
        rw [← m1] at g
        exact acovx hE g (asi_f hg hp y1) y2
    · cases g
def asum (E : List aY) (σ : List aV) : aM → Option aM
  | [] => some []
  | e :: r => match asuk σ e.1 with
    | some q => match asu σ e.2 with
      | some v => match asum E σ r with
        | some r' => match aiv E q.2.1 q.2.2 with
          | some p => some (((q.1, aix q.2.1 q.2.2 p), v) :: r')
          | none => none
        | none => none
      | none => none
    | none => none
theorem asum_ok {W : aW} {G : aG} {E : List aY} {ρ : List Int} {σ : List aV} {ρc : List Int} {h : zH} (hE : aE W E ρ) (hg : asg ρ σ ρc) : ∀ (mm m' : aM), asum E σ mm = some m' → (∀ e ∈ mm, ame W G ρc h e) → (∀ e ∈ m', ame W G ρ h e) ∧ ∀ e ∈ mm, ∃ e' ∈ m', ∀ a k : Nat, aden ρc e.1 a k → aden ρ e'.1 a k
  | [], m', hs, _ => by
    cases hs
    exact ⟨fun e he => (by cases he), fun e he => (by cases he)⟩
  | e :: r, m', hs, hm => by
    unfold asum at hs
    split at hs
    · next q hq =>
      split at hs
      · next v hv =>
        split at hs
        · next r' hr =>
          split at hs
          · next p hp =>
            cases hs
            obtain ⟨i1, i2⟩ := asum_ok hE hg r r' hr (fun e he => hm e (List.mem_cons_of_mem _ he))
            have key : ∀ a k : Nat, aden ρc e.1 a k → aden ρ (q.1, aix q.2.1 q.2.2 p) a k := fun a k hd => by
              obtain ⟨d1, x, d2, d3⟩ := asuk_f hg hq hd
              exact ⟨d1, x, aix_ok hE hp d2, d3⟩
            refine ⟨fun e' he => ?_, fun e' he => ?_⟩
            · rcases List.mem_cons.mp he with rfl | he
              · obtain ⟨a, k, w, h1, h2, h3, h4, h5⟩ := hm e List.mem_cons_self
                exact ⟨a, k, w, key a k h1, h2, h3, h4, asu_f hg hv h5⟩
              · exact i1 e' he
            · rcases List.mem_cons.mp he with rfl | he
              · exact ⟨_, List.mem_cons_self, key⟩
              · obtain ⟨e2, g1, g2⟩ := i2 e' he
                exact ⟨e2, List.mem_cons_of_mem _ g1, g2⟩
          · cases hs
        · cases hs
      · cases hs
    · cases hs
def asuo (σ : List aV) (a : Option aV) : Option (Option aV) := match a with
  | none => some none
  | some a => match asu σ a with
    | some b => some (some b)
    | none => none
theorem asuo_ok {ρ : List Int} {σ : List aV} {ρc : List Int} {a b : Option aV} {r : Option Value} (hg : asg ρ σ ρc) (h : asuo σ a = some b) (hr : arv ρc a r) : arv ρ b r := by
  cases a with
  | none => cases h; exact hr
  | some a =>
    dsimp only [asuo] at h
    split at h
    · next b' hb =>
      cases h
      obtain ⟨v, h1, h2⟩ := hr
      exact ⟨v, h1, asu_f hg hb h2⟩
    · cases h
/-- what an end tells of the entry's symbols -/
def arf1 (E : List aY) (a : aV) (t : aY) : Option (List aY) := match a, t with
  | .inl (s, c), (0, l, u) => acut E s c (l, u)
  | _, _ => some E
def aref : List aY → List aV → List aY → Option (List aY)
  | E, a :: σ, t :: ts => match arf1 E a t with
    | some E1 => aref E1 σ ts
    | none => none
  | E, _, _ => some E
theorem arf1_ok {W : aW} {E : List aY} {ρ : List Int} {a : aV} {t : aY} {z : Int} (hE : aE W E ρ) {ρx : List Int} (ha : adn ρ a z) (ht : aok W ρx t z) : ∃ E', arf1 E a t = some E' ∧ aE W E' ρ := by
  unfold arf1
  split
  · next s c l u =>
    obtain ⟨w, w1, w2, w3⟩ := ha
    have ht : l ≤ z ∧ z ≤ u := ht
    cases hn : anw E s c with
    | false =>
      refine ⟨E, ?_, hE⟩
      unfold acut
      rw [hn]
      rfl
    | true =>
      obtain ⟨y, y1, y2⟩ := anw_ok hE hn (x := Int32.ofInt (w + c)) ⟨w, w1, rfl⟩
      rw [w1] at y1
      cases y1
      have hz : (Int32.ofInt (w + c)).toInt = z := by
        rcases w3 with q | q
        · rw [y2, q]
        · exact q.symm
      exact acut_ok (q := (l, u)) hE (x := Int32.ofInt (w + c)) ⟨w, w1, rfl⟩ ⟨by rw [hz]; exact ht.1, by rw [hz]; exact ht.2⟩
  · exact ⟨E, rfl, hE⟩
theorem aref_ok {W : aW} {ρ ρx : List Int} : ∀ (σ : List aV) (ts : List aY) (ρc : List Int) (E : List aY), aE W E ρ → asg ρ σ ρc → (∀ (k : Nat) (t : aY) (z : Int), ts[k]? = some t → ρc[k]? = some z → aok W ρx t z) → ∃ E', aref E σ ts = some E' ∧ aE W E' ρ
  | [], _, _, E, hE, _, _ => ⟨E, by unfold aref; rfl, hE⟩
  | a :: σ, [], _, E, hE, _, _ => ⟨E, by unfold aref; rfl, hE⟩
  | a :: σ, t :: ts, [], E, hE, hg, _ => by have := hg.1; simp at this
  | a :: σ, t :: ts, z :: ρc, E, hE, hg, ht => by
    obtain ⟨E1, e1, e2⟩ := arf1_ok hE (hg.2 0 a z rfl rfl) (ht 0 t z rfl rfl)
    obtain ⟨E2, e3, e4⟩ := aref_ok σ ts ρc E1 e2 ⟨by simpa using hg.1, fun i b y h1 h2 => hg.2 (i + 1) b y (by simpa using h1) (by simpa using h2)⟩ (fun k t' z' h1 h2 => ht (k + 1) t' z' (by simpa using h1) (by simpa using h2))
    refine ⟨E2, ?_, e4⟩
    unfold aref
    rw [e1]
    exact e3
/-- without the rows -/
def akc (t : aY) : aY := bif Nat.ble 4 t.1 then (4, 0, 0) else t
/-- a row of the callee's in terms of what is known here -/
def atr (E : List aY) (σ : List aV) (t : aY) : aY := bif Nat.ble 4 t.1 then (match σ[t.1 - 4]? with
  | some (.inl (a, ca)) => match σ[t.2.1.toNat]? with
    | some (.inl (b, cb)) => bif anw E a ca && anw E b cb then (a + 4, (b : Int), t.2.2 + ca - cb) else (4, 0, 0)
    | _ => (4, 0, 0)
  | _ => (4, 0, 0)) else t
/-- the ends of a call here -/
def axts (E : List aY) (σ : List aV) (kept : aM) : List aXt → Option (List aXt)
  | [] => some []
  | x :: r => match aref E σ x.1 with
    | none => axts E σ kept r
    | some E1 => match asuo (σ ++ afrs E.length (x.1.drop σ.length)) x.2.1 with
      | some rv => match asum (E1 ++ (x.1.drop σ.length).map akc) (σ ++ afrs E.length (x.1.drop σ.length)) x.2.2 with
        | some m' => match axts E σ kept r with
          | some r' => some ((E1 ++ (x.1.drop σ.length).map (atr (E1 ++ (x.1.drop σ.length).map akc) (σ ++ afrs E.length (x.1.drop σ.length))), rv, m' ++ kept) :: r')
          | none => none
        | none => none
      | none => none
def acon (W : aW) (D : List aD) (E : List aY) (m : aM) (as : List aV) (q : aQ) : Option (List aY × List aV × List aXt) := bif Nat.beq as.length q.2.1.length then (match amt W 1 E m (aent q) ((aarg q).zip as) (aem q) with
  | some A => bif amods A.1 D A.2.2 q.2.2.2.2.1 then (match axts A.1 A.2.2 (A.2.1.filter (akeep A.1 A.2.2 q.2.2.2.2.1)) q.2.2.2.1 with
    | some xs => some (A.1, A.2.2, xs)
    | none => none) else none
  | none => none) else none
theorem afrs_len : ∀ (n : Nat) (ts : List aY), (afrs n ts).length = ts.length
  | _, [] => rfl
  | n, t :: ts => by rw [afrs, List.length_cons, List.length_cons, afrs_len (n + 1) ts]
theorem asg_ext {ρ : List Int} {σ : List aV} {ρc : List Int} : ∀ (ts : List aY) (e : List Int) (σ : List aV) (ρ ρc : List Int), asg ρ σ ρc → e.length = ts.length → asg (ρ ++ e) (σ ++ afrs ρ.length ts) (ρc ++ e)
  | [], [], σ, ρ, ρc, h, _ => by simpa [afrs] using h
  | [], z :: e, _, _, _, _, hl => by cases hl
  | t :: ts, [], _, _, _, _, hl => by cases hl
  | t :: ts, z :: e, σ, ρ, ρc, h, hl => by
    have h1 : asg (ρ ++ [z]) (σ ++ [afr t ρ.length]) (ρc ++ [z]) := (h.ext (aext.one z)).push (afr_adn (anew_get z))
    have h2 := asg_ext (ρ := ρ) (σ := σ) (ρc := ρc) ts e _ _ _ h1 (by simpa using hl)
    simp only [List.append_assoc, List.singleton_append, List.length_append, List.length_singleton] at h2
    exact h2
theorem axts_ok {E : List aY} {σ : List aV} {kept : aM} : ∀ (xs os : List aXt), axts E σ kept xs = some os → ∀ x ∈ xs, ∀ E1, aref E σ x.1 = some E1 → ∃ rv m', asuo (σ ++ afrs E.length (x.1.drop σ.length)) x.2.1 = some rv ∧ asum (E1 ++ (x.1.drop σ.length).map akc) (σ ++ afrs E.length (x.1.drop σ.length)) x.2.2 = some m' ∧ (E1 ++ (x.1.drop σ.length).map (atr (E1 ++ (x.1.drop σ.length).map akc) (σ ++ afrs E.length (x.1.drop σ.length))), rv, m' ++ kept) ∈ os
  | [], os, _, x, hx, _, _ => by cases hx
  | y :: r, os, hs, x, hx, E1, hE1 => by
    unfold axts at hs
    split at hs
    · next hn =>
      rcases List.mem_cons.mp hx with rfl | hx
      · rw [hE1] at hn; cases hn
      · exact axts_ok r os hs x hx E1 hE1
    · next E1' hn =>
      split at hs
      · next rv h1 =>
        split at hs
        · next m' h2 =>
          split at hs
          · next r' h3 =>
            cases hs
            rcases List.mem_cons.mp hx with rfl | hx
            · rw [hE1] at hn
              cases hn
              exact ⟨rv, m', h1, h2, List.mem_cons_self⟩
            · obtain ⟨rv', m'', g1, g2, g3⟩ := axts_ok r r' h3 x hx E1 hE1
              exact ⟨rv', m'', g1, g2, List.mem_cons_of_mem _ g3⟩
          · cases hs
        · cases hs
      · cases hs
theorem azip1 {α β : Type} : ∀ (as : List α) (bs : List β), as.length = bs.length → (as.zip bs).map (fun q => q.1) = as ∧ (as.zip bs).map (fun q => q.2) = bs
  | [], [], _ => ⟨rfl, rfl⟩
  | [], b :: bs, h => by cases h
  | a :: as, [], h => by cases h
  | a :: as, b :: bs, h => by
    obtain ⟨h1, h2⟩ := azip1 as bs (by simpa using h)
    exact ⟨by simp [h1], by simp [h2]⟩
set_option maxHeartbeats 1000000 in
theorem acon_ok {W : aW} {G : aG} {D : List aD} {h0 : zH} {E E' : List aY} {m : aM} {as : List aV} {q : aQ} {σ : List aV} {os : List aXt} {ρ : List Int} {h : zH} {vs : List Value} (hs : acon W D E m as q = some (E', σ, os)) (hE : aE W E ρ) (hH : aH W G ρ m h) (hv : aSt ρ as vs) (hF : aF W G ρ D h0 h) : ∃ ρ' ρc, aext ρ ρ' ∧ aE W E' ρ' ∧ asg ρ' σ ρc ∧ aE W (aent q) ρc ∧ aSt ρc (aarg q) vs ∧ aH W G ρc (aem q) h ∧ ∀ (r : Option Value) (h' : zH), aEnd W G q.2.2.2.2.1 ρc h (aent q) q.2.2.2.1 r h' → ∃ o ∈ os, ∃ ρ'', aext ρ ρ'' ∧ aE W o.1 ρ'' ∧ arv ρ'' o.2.1 r ∧ aH W G ρ'' o.2.2 h' ∧ aF W G ρ'' D h0 h' := by
  unfold acon at hs
  cases hl : Nat.beq as.length q.2.1.length with
  | false => rw [hl] at hs; cases hs
  | true =>
    rw [hl] at hs
    dsimp only [cond_true] at hs
    split at hs
    · next A hA =>
      cases hm : amods A.1 D A.2.2 q.2.2.2.2.1 with
      | false => rw [hm] at hs; cases hs
      | true =>
        rw [hm] at hs
        dsimp only [cond_true] at hs
        split at hs
        · next xs hxs =>
          cases hs
          have hlen : (aarg q).length = as.length := by
            unfold aarg
            rw [afrs_len, Nat.eq_of_beq_eq_true hl]
          obtain ⟨z1, z2⟩ := azip1 _ _ hlen
          obtain ⟨E', m', σ⟩ := A
          obtain ⟨ρ', ρc, x1, E1, H1, g1, Ec, xc, sc, Hc⟩ := amt_ok (G := G) (h := h) (vs := vs) hA hE hH (by rw [z2]; exact hv)
          rw [z1] at sc
          refine ⟨ρ', ρc, x1, E1, g1, Ec, sc, Hc, fun r h' he => ?_⟩
          obtain ⟨x, hx, ρc', y1, y0, y2, y3, y4, y5⟩ := he
          obtain ⟨e, rfl⟩ := y1
          have ls : σ.length = (aent q).length := by rw [g1.1, Ec.1]
          obtain ⟨Er, hEr, hEr2⟩ := aref_ok σ x.1 ρc E' E1 g1 (fun k t z h1 h2 => y2.2.2 k t z h1 (by
            rw [List.getElem?_append_left (List.getElem?_eq_some_iff.mp h2).1]
            exact h2))
          obtain ⟨rv, m'', w1, w2, w3⟩ := axts_ok _ _ hxs x hx Er hEr
          have le : e.length = (x.1.drop σ.length).length := by
            have := y2.1
            rw [List.length_append, Ec.1] at this
            rw [List.length_drop, ls]
            omega
          have lE : Er.length = E'.length := by rw [← hEr2.1, E1.1]
          have g2 : asg (ρ' ++ e) (σ ++ afrs E'.length (x.1.drop σ.length)) (ρc ++ e) := by
            have := asg_ext (ρ := ρ') (σ := σ) (ρc := ρc) (x.1.drop σ.length) e σ ρ' ρc g1 le
            rw [E1.1] at this
            exact this
          have xx : aext ρ' (ρ' ++ e) := ⟨e, rfl⟩
          have old : ∀ (k : Nat) (t0 : aY) (z : Int), (x.1.drop σ.length)[k]? = some t0 → (ρ' ++ e)[Er.length + k]? = some z → aok W (ρc ++ e) t0 z := fun k t0 z k1 k2 => by
            rw [List.getElem?_drop] at k1
            rw [List.getElem?_append_right (by rw [hEr2.1]; omega), hEr2.1, Nat.add_sub_cancel_left] at k2
            refine y2.2.2 (σ.length + k) t0 z k1 ?_
            rw [List.getElem?_append_right (by rw [Ec.1, ← ls]; omega), Ec.1, ← ls, Nat.add_sub_cancel_left]
            exact k2
          have mkE : ∀ f : aY → aY, (∀ (k : Nat) (t0 : aY) (z : Int), (x.1.drop σ.length)[k]? = some t0 → (ρ' ++ e)[Er.length + k]? = some z → aok W (ρ' ++ e) (f t0) z) → aE W (Er ++ (x.1.drop σ.length).map f) (ρ' ++ e) := fun f hf => by
            refine ⟨by rw [List.length_append, List.length_append, hEr2.1, le, List.length_map], xx.get hEr2.2.1, fun k t z k1 k2 => ?_⟩
            by_cases hk : k < Er.length
            · rw [List.getElem?_append_left hk] at k1
              have k3 : ρ'[k]? = some z := by
                rw [List.getElem?_append_left (by rw [hEr2.1]; exact hk)] at k2
                exact k2
              exact (hEr2.2.2 k t z k1 k3).ext xx
            · rw [List.getElem?_append_right (by omega), List.getElem?_map] at k1
              obtain ⟨t0, q1, q2⟩ := Option.map_eq_some_iff.mp k1
              rw [← q2]
              exact hf (k - Er.length) t0 z q1 (by rw [show Er.length + (k - Er.length) = k by omega]; exact k2)
          have low : ∀ t0 : aY, Nat.ble 4 t0.1 = false → t0.1 < 4 := fun t0 h4 => by
            cases hh : Nat.decLt t0.1 4 with
            | isTrue h => exact h
            | isFalse h => rw [Nat.ble_eq_true_of_le (by omega)] at h4; cases h4
          have triv : ∀ z : Int, aok W (ρ' ++ e) (4, 0, 0) z := fun z => ⟨0, 0, xx.get hEr2.2.1, xx.get hEr2.2.1, by omega⟩
          have E2 : aE W (Er ++ (x.1.drop σ.length).map akc) (ρ' ++ e) := mkE akc (fun k t0 z k1 k2 => by
            unfold akc
            cases h4 : Nat.ble 4 t0.1 with
            | true => exact triv z
            | false => exact (old k t0 z k1 k2).re (low t0 h4))
          have E3 : aE W (Er ++ (x.1.drop σ.length).map (atr (Er ++ (x.1.drop σ.length).map akc) (σ ++ afrs E'.length (x.1.drop σ.length)))) (ρ' ++ e) := mkE _ (fun k t0 z k1 k2 => by
            have ho := old k t0 z k1 k2
            unfold atr
            cases h4 : Nat.ble 4 t0.1 with
            | false => exact ho.re (low t0 h4)
            | true =>
              dsimp only [cond_true]
              split
              · next a ca hsa =>
                split
                · next b cb hsb =>
                  cases hn : (anw (Er ++ (x.1.drop σ.length).map akc) a ca && anw (Er ++ (x.1.drop σ.length).map akc) b cb) with
                  | false => exact triv z
                  | true =>
                    rw [Bool.and_eq_true] at hn
                    have ho2 : arl (ρc ++ e) (t0.1 - 4) t0.2.1.toNat t0.2.2 := by
                      obtain ⟨n0, l0, u0⟩ := t0
                      match n0, h4, ho with
                      | n0 + 4, _, ho => exact ho
                    obtain ⟨y, y', v1, v2, v3⟩ := ho2
                    obtain ⟨w, w4, w5⟩ := adn_ex E2 hn.1 (g2.2 _ _ _ hsa v1)
                    obtain ⟨w', w4', w5'⟩ := adn_ex E2 hn.2 (g2.2 _ _ _ hsb v2)
                    exact ⟨w, w', w4, by rw [Int.toNat_natCast]; exact w4', by omega⟩
                · exact triv z
              · exact triv z)
          obtain ⟨i1, i2⟩ := asum_ok (G := G) (h := h') E2 g2 x.2.2 m'' w2 (fun e he => y4.2.2 e he)
          refine ⟨_, w3, ρ' ++ e, x1.trans xx, E3, asuo_ok g2 w1 y3, ⟨y4.1, fun a k ha hk => ?_, fun e' he => ?_⟩, ?_⟩
          · obtain ⟨v, q1, q2⟩ := y4.2.1 a k ha hk
            refine ⟨v, q1, ?_⟩
            rcases q2 with q2 | ⟨e', he', q2⟩
            · exact Or.inl q2
            · obtain ⟨e2, k1, k2⟩ := i2 e' he'
              exact Or.inr ⟨e2, List.mem_append_left _ k1, k2 a k q2⟩
          · rcases List.mem_append.mp he with he | he
            · exact i1 e' he
            · obtain ⟨he, hk⟩ := List.mem_filter.mp he
              obtain ⟨a, k, v, q1, q2, q3, q4, q5⟩ := H1.2.2 e' he
              refine ⟨a, k, v, q1.ext xx, q2, q3, ?_, q5.ext xx⟩
              rw [y5.2 a k q2 q3 (akeep_ok E1 g1 hk q1)]
              exact q4
          · have hF' := (hF.ext x1).ext xx
            refine ⟨y5.1.trans hF'.1, fun a k ha hk hn => ?_⟩
            rw [y5.2 a k ha hk (fun d hd hm' => by
              obtain ⟨d', d1, d2⟩ := amods_ok E1 g1 hm hd hm'
              exact hn d' d1 (d2.ext xx))]
            exact hF'.2 a k ha hk hn
        · cases hs
    · cases hs
