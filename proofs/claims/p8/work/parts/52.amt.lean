/-! A state held against a note, an entry, an end. -/
def abds (E ts : List aY) : List (aV × aV) → List aV → Option (List aV)
  | [], σ => some σ
  | q :: r, σ => match abd E ts σ q.1 q.2 with
    | some σ' => abds E ts r σ'
    | none => none
theorem abds_ok {W : aW} {E ts : List aY} {ρ : List Int} (hE : aE W E ρ) : ∀ (ps : List (aV × aV)) (σ σ' : List aV) (ρc : List Int) (vs : List Value), asg ρ σ ρc → aEn W ts ρc → abds E ts ps σ = some σ' → aSt ρ (ps.map (fun q => q.2)) vs → ∃ ρc', aext ρc ρc' ∧ asg ρ σ' ρc' ∧ aEn W ts ρc' ∧ aSt ρc' (ps.map (fun q => q.1)) vs
  | [], σ, σ', ρc, vs, hg, hn, hs, hv => by
    cases hs
    exact ⟨ρc, aext.rf, hg, hn, hv⟩
  | q :: r, σ, σ', ρc, vs, hg, hn, hs, hv => by
    unfold abds at hs
    split at hs
    · next σ1 h1 =>
      obtain ⟨v, vs', rfl, hv1, hv2⟩ := hv
      obtain ⟨ρ1, x1, g1, n1, w1⟩ := abd_ok hE hg hn h1 hv1
      obtain ⟨ρ2, x2, g2, n2, w2⟩ := abds_ok hE r σ1 σ' ρ1 vs' g1 n1 hs hv2
      exact ⟨ρ2, x1.trans x2, g2, n2, v, vs', rfl, w1.ext x2, w2⟩
    · cases hs
abbrev aAc : Type := List aY × aM × List aV × List aK
def amr1 (W : aW) (ts : List aY) (e : aK × aV) (A : aAc) : Option aAc := match asuk A.2.2.1 e.1 with
  | some q => match A.1[q.1]? with
    | some (2, so, _) => match aiv A.1 q.2.1 q.2.2 with
      | some p => bif ile 0 p.1 && !ile (apn (afm W so.toNat) : Int) p.2 then (match ard W A.1 A.2.1 (afm W so.toNat) (q.1, aix q.2.1 q.2.2 p) p.1 p.2 with
        | some [o] => match abd o.1 ts A.2.2.1 e.2 o.2.1 with
          | some σ' => some (o.1, o.2.2, σ', (q.1, aix q.2.1 q.2.2 p) :: A.2.2.2)
          | none => none
        | _ => none) else none
      | none => none
    | _ => none
  | none => none
def amr (W : aW) (ts : List aY) : aM → aAc → Option aAc
  | [], A => some A
  | e :: r, A => match amr1 W ts e A with
    | some A' => amr W ts r A'
    | none => none
/-- an entry of a note's memory holds -/
def ame (W : aW) (G : aG) (ρc : List Int) (h : zH) (e : aK × aV) : Prop := ∃ (a k : Nat) (v : Value), aden ρc e.1 a k ∧ a < W.1.length ∧ k < apn (afm W (asrt W a)) ∧ rdx G h a k = some v ∧ av ρc e.2 v
theorem ame.ext {W : aW} {G : aG} {ρ ρ' : List Int} {h : zH} {e : aK × aV} (hx : aext ρ ρ') : ame W G ρ h e → ame W G ρ' h e
  | ⟨a, k, v, h1, h2, h3, h4, h5⟩ => ⟨a, k, v, h1.ext hx, h2, h3, h4, h5.ext hx⟩
theorem amr1_ok {W : aW} {G : aG} {ts : List aY} {h : zH} {e : aK × aV} {A A' : aAc} {ρ ρc : List Int} (hs : amr1 W ts e A = some A') (hE : aE W A.1 ρ) (hH : aH W G ρ A.2.1 h) (hg : asg ρ A.2.2.1 ρc) (hn : aEn W ts ρc) : ∃ ρ' ρc' key, aext ρ ρ' ∧ aext ρc ρc' ∧ aE W A'.1 ρ' ∧ aH W G ρ' A'.2.1 h ∧ asg ρ' A'.2.2.1 ρc' ∧ aEn W ts ρc' ∧ ame W G ρc' h e ∧ A'.2.2.2 = key :: A.2.2.2 ∧ ∃ a k : Nat, aden ρ' key a k ∧ aden ρc' e.1 a k := by
  unfold amr1 at hs
  split at hs
  · next q hq =>
    split at hs
    · next so so' hr =>
      split at hs
      · next p hp =>
        cases hb : (ile 0 p.1 && !ile (apn (afm W so.toNat) : Int) p.2) with
        | false => rw [hb] at hs; cases hs
        | true =>
          rw [hb] at hs
          dsimp only [cond_true] at hs
          split at hs
          · next o ho =>
            split at hs
            · next σ' hσ =>
              cases hs
              simp only [Bool.and_eq_true, Bool.not_eq_true'] at hb
              have b1 := ile_iff.mp hb.1
              have b2 := ile_f hb.2
              -- the place
              have hq2 := hq
              unfold asuk at hq2
              split at hq2
              · next r hrσ =>
                split at hq2
                · next pp hpp =>
                  cases hq2
                  obtain ⟨z, z1, z2⟩ := hg.has hrσ
                  have z2 : ρ[r]? = some z := z2
                  obtain ⟨a, ea, ha, hso⟩ := hE.2.2 _ _ _ hr z2
                  subst ea
                  obtain ⟨x, hx, hxp⟩ := aiv_ok hE hp
                  have hxn : x.toInt = (x.toInt.toNat : Int) := by omega
                  have hd : aden ρ (r, aix pp.1 pp.2 p) a x.toInt.toNat := aix_den hE hp hx z2 hxn
                  have hd0 : aden ρ (r, pp) a x.toInt.toNat := ⟨z2, x, hx, hxn⟩
                  have e1 : so.toNat = asrt W a := by omega
                  rw [e1] at ho b2
                  obtain ⟨v, g1, o', g2, ρ', g3, g4, g5, g6⟩ := ard_ok ho hE hH hd ha rfl (by omega) b1 (by omega) (by omega)
                  have eo : o' = o := by simpa using g2
                  subst eo
                  obtain ⟨ρc', c1, c2, c3, c4⟩ := abd_ok g4 (hg.ext g3) hn hσ g5
                  have hdc := asuk_b hg hq hd0
                  exact ⟨ρ', ρc', _, g3, c1, g4, g6, c2, c3, ⟨a, x.toInt.toNat, v, hdc.ext c1, ha, by omega, g1, c4⟩, rfl, a, x.toInt.toNat, hd.ext g3, hdc.ext c1⟩
                · cases hq2
              · cases hq2
            · cases hs
          · cases hs
      · cases hs
    · cases hs
  · cases hs
theorem amr_ok {W : aW} {G : aG} {ts : List aY} {h : zH} : ∀ (mm : aM) (A A' : aAc) (ρ ρc : List Int), amr W ts mm A = some A' → aE W A.1 ρ → aH W G ρ A.2.1 h → asg ρ A.2.2.1 ρc → aEn W ts ρc → ∃ ρ' ρc', aext ρ ρ' ∧ aext ρc ρc' ∧ aE W A'.1 ρ' ∧ aH W G ρ' A'.2.1 h ∧ asg ρ' A'.2.2.1 ρc' ∧ aEn W ts ρc' ∧ (∀ e ∈ mm, ame W G ρc' h e) ∧ ∀ key ∈ A'.2.2.2, key ∈ A.2.2.2 ∨ ∃ e ∈ mm, ∃ a k : Nat, aden ρ' key a k ∧ aden ρc' e.1 a k
  | [], A, A', ρ, ρc, hs, hE, hH, hg, hn => by
    cases hs
    exact ⟨ρ, ρc, aext.rf, aext.rf, hE, hH, hg, hn, fun e he => (by cases he), fun key hk => Or.inl hk⟩
  | e :: r, A, A', ρ, ρc, hs, hE, hH, hg, hn => by
    unfold amr at hs
    split at hs
    · next A1 h1 =>
      obtain ⟨ρ1, ρc1, key1, x1, y1, E1, H1, g1, n1, m1, k1, a1, b1, d1, d2⟩ := amr1_ok h1 hE hH hg hn
      obtain ⟨ρ2, ρc2, x2, y2, E2, H2, g2, n2, m2, k2⟩ := amr_ok r A1 A' ρ1 ρc1 hs E1 H1 g1 n1
      refine ⟨ρ2, ρc2, x1.trans x2, y1.trans y2, E2, H2, g2, n2, fun e' he => ?_, fun key hk => ?_⟩
      · rcases List.mem_cons.mp he with rfl | he
        · exact m1.ext y2
        · exact m2 e' he
      · rcases k2 key hk with q | ⟨e', he, q⟩
        · rw [k1] at q
          rcases List.mem_cons.mp q with rfl | q
          · exact Or.inr ⟨e, List.mem_cons_self, a1, b1, d1.ext x2, d2.ext y2⟩
          · exact Or.inl q
        · exact Or.inr ⟨e', List.mem_cons_of_mem _ he, q⟩
    · cases hs
def ayle (t t' : aY) : Bool := match t with
  | (0, l, u) => match t' with
    | (0, l', u') => ile l' l && ile u u'
    | _ => false
  | (1, l, u) => match t' with
    | (1, l', u') => ile l' l && ile u u'
    | _ => false
  | (2, s, _) => match t' with
    | (2, s', _) => ieq s s'
    | _ => false
  | _ => false
theorem ayle_ok {W : aW} {ρ : List Int} {t t' : aY} {z : Int} (h : ayle t t' = true) (hz : aok W ρ t z) : asy W t' z := by
  unfold ayle at h
  split at h
  · split at h
    · rw [Bool.and_eq_true] at h
      have h1 := ile_iff.mp h.1
      have h2 := ile_iff.mp h.2
      obtain ⟨g1, g2⟩ := hz
      exact ⟨by omega, by omega⟩
    · cases h
  · split at h
    · rw [Bool.and_eq_true] at h
      have h1 := ile_iff.mp h.1
      have h2 := ile_iff.mp h.2
      obtain ⟨⟨g1, g2⟩, g3⟩ := hz
      exact ⟨⟨by omega, by omega⟩, g3⟩
    · cases h
  · split at h
    · have := ieq_ok h
      obtain ⟨n, g1, g2, g3⟩ := hz
      exact ⟨n, g1, g2, by rw [g3, this]⟩
    · cases h
  · cases h
/-- the first n symbols stay as they are -/
def apre (E ts : List aY) (n : Nat) : Bool := Nat.ble 1 n && (Nat.ble n E.length && (Nat.ble n ts.length && (List.range n).all (fun i => ayle (E.getD i (9, 0, 0)) (ts.getD i (9, 0, 0)))))
def aid (E : List aY) (n : Nat) : List aV := (List.range n).map (fun i => afr (E.getD i (9, 0, 0)) i)
theorem afr_adn {ρ : List Int} {t : aY} {i : Nat} {z : Int} (hz : ρ[i]? = some z) : adn ρ (afr t i) z := by
  unfold afr
  split
  · exact ⟨z, hz, by rw [Int.add_zero], Or.inl (by rw [Int.add_zero])⟩
  · exact hz
  · exact hz
theorem aid_ok {W : aW} {E ts : List aY} {ρ : List Int} {n : Nat} (hE : aE W E ρ) (hp : apre E ts n = true) : asg ρ (aid E n) (ρ.take n) ∧ aEn W ts (ρ.take n) := by
  unfold apre at hp
  simp only [Bool.and_eq_true] at hp
  obtain ⟨h1, h2, h3, h4⟩ := hp
  have h1 := able h1
  have h2 := able h2
  have hl := hE.1
  have tk : ∀ (i : Nat) (z : Int), (ρ.take n)[i]? = some z → i < n ∧ ρ[i]? = some z := fun i z hz => by
    rw [List.getElem?_take] at hz
    split at hz
    · next hi => exact ⟨hi, hz⟩
    · cases hz
  refine ⟨⟨by simp [aid]; omega, fun i a z ha hz => ?_⟩, ?_, fun k t z ht hz => ?_⟩
  · obtain ⟨hi, hz⟩ := tk i z hz
    unfold aid at ha
    rw [List.getElem?_map, List.getElem?_range hi] at ha
    cases ha
    exact afr_adn hz
  · rw [List.getElem?_take, if_pos (by omega)]
    exact hE.2.1
  · obtain ⟨hi, hz⟩ := tk k z hz
    have h5 := List.all_eq_true.mp h4 k (List.mem_range.mpr hi)
    have hk : E[k]? = some (E.getD k (9, 0, 0)) := agetD (by omega)
    have ht' : ts.getD k (9, 0, 0) = t := by rw [List.getD_eq_getElem?_getD, ht]; rfl
    rw [ht'] at h5
    exact ayle_ok h5 (hE.2.2 _ _ _ hk hz)
def acs1 (E : List aY) (σ : List aV) (t : aY) : Bool := Nat.ble 4 t.1 && (match σ[t.1 - 4]? with
  | some (.inl (a, ca)) => match σ[t.2.1.toNat]? with
    | some (.inl (b, cb)) => (anw E a ca && anw E b cb) && ale E 12 a b (t.2.2 + ca - cb)
    | _ => false
  | _ => false)
/-- the value of a symbol here, exactly -/
theorem adn_ex {W : aW} {E : List aY} {ρ : List Int} {s : Nat} {c z : Int} (hE : aE W E ρ) (hn : anw E s c = true) (h : adn ρ (.inl (s, c)) z) : ∃ w, ρ[s]? = some w ∧ z = w + c := by
  obtain ⟨w, w1, w2, w3⟩ := h
  obtain ⟨y, y1, y2⟩ := anw_ok hE hn (x := Int32.ofInt (w + c)) ⟨w, w1, rfl⟩
  rw [w1] at y1
  cases y1
  refine ⟨w, w1, ?_⟩
  rcases w3 with q | q
  · exact q
  · rw [q, y2]
theorem acs1_ok {W : aW} {E : List aY} {ρ : List Int} {σ : List aV} {ρc : List Int} {t : aY} (hE : aE W E ρ) (hg : asg ρ σ ρc) (h : acs1 E σ t = true) : 4 ≤ t.1 ∧ arl ρc (t.1 - 4) t.2.1.toNat t.2.2 := by
  unfold acs1 at h
  rw [Bool.and_eq_true] at h
  refine ⟨Nat.le_of_ble_eq_true h.1, ?_⟩
  have h := h.2
  split at h
  · next a ca hs =>
    split at h
    · next b cb hs' =>
      simp only [Bool.and_eq_true] at h
      obtain ⟨⟨n1, n2⟩, h3⟩ := h
      obtain ⟨z, z1, z2⟩ := hg.has hs
      obtain ⟨z', z1', z2'⟩ := hg.has hs'
      obtain ⟨w, w1, w2⟩ := adn_ex hE n1 z2
      obtain ⟨w', w1', w2'⟩ := adn_ex hE n2 z2'
      have := ale_ok hE _ _ _ _ _ _ h3 w1 w1'
      exact ⟨z, z', z1, z1', by omega⟩
    · cases h
  · cases h
def azs : List aY → List Int
  | [] => []
  | _ :: r => 0 :: azs r
def azv : List aY → List aV
  | [] => []
  | _ :: r => .inl (0, 0) :: azv r
theorem azs_ok {W : aW} {E ts : List aY} {ρ : List Int} (hE : aE W E ρ) : ∀ (L : List aY) (σ : List aV) (ρc : List Int), asg ρ σ ρc → aE W ts ρc → (∀ t ∈ L, 4 ≤ t.1 ∧ arl ρc (t.1 - 4) t.2.1.toNat t.2.2) → asg ρ (σ ++ azv L) (ρc ++ azs L) ∧ aE W (ts ++ L) (ρc ++ azs L)
  | [], σ, ρc, hg, hn, _ => by simpa [azv, azs] using ⟨hg, hn⟩
  | t :: L, σ, ρc, hg, hn, h => by
    have h1 : asg ρ (σ ++ [.inl (0, 0)]) (ρc ++ [0]) := hg.push ⟨0, hE.2.1, rfl, Or.inl rfl⟩
    have ht := h t List.mem_cons_self
    have h2 : aE W (ts ++ [t]) (ρc ++ [0]) := hn.pushK (by
      obtain ⟨n, l, u⟩ := t
      obtain ⟨h4, z, z', z1, z2, z3⟩ := ht
      match n, h4, z1 with
      | n + 4, _, z1 => exact ⟨z, z', (aext.one 0).get z1, (aext.one 0).get z2, z3⟩)
    obtain ⟨g1, g2⟩ := azs_ok (ts := ts ++ [t]) hE L _ _ h1 h2 (fun t' ht' => by
      obtain ⟨k1, z, z', z1, z2, z3⟩ := h t' (List.mem_cons_of_mem _ ht')
      exact ⟨k1, z, z', (aext.one 0).get z1, (aext.one 0).get z2, z3⟩)
    simp only [List.append_assoc, List.singleton_append] at g1 g2
    exact ⟨g1, g2⟩
def amt0 (W : aW) (n : Nat) (E : List aY) (m : aM) (ts : List aY) (ps : List (aV × aV)) (mm : aM) : Option (List aY × aM × List aV) := bif apre E ts n then (match abds E ts ps (aid E n) with
  | some σ => match amr W ts mm (E, m, σ, []) with
    | some A => bif Nat.ble A.2.2.1.length ts.length && ((ts.drop A.2.2.1.length).all (acs1 A.1 A.2.2.1) && A.2.1.all (fun e => adr W A.1 e || A.2.2.2.any (fun q => akq e.1 q))) then some (A.1, A.2.1, A.2.2.1 ++ azv (ts.drop A.2.2.1.length)) else none
    | none => none
  | none => none) else none
theorem amt0_ok {W : aW} {G : aG} {n : Nat} {E E' : List aY} {m m' : aM} {ts : List aY} {ps : List (aV × aV)} {mm : aM} {σ : List aV} {ρ : List Int} {h : zH} {vs : List Value} (hs : amt0 W n E m ts ps mm = some (E', m', σ)) (hE : aE W E ρ) (hH : aH W G ρ m h) (hv : aSt ρ (ps.map (fun q => q.2)) vs) : ∃ ρ' ρc, aext ρ ρ' ∧ aE W E' ρ' ∧ aH W G ρ' m' h ∧ asg ρ' σ ρc ∧ aE W ts ρc ∧ aext (ρ.take n) ρc ∧ aSt ρc (ps.map (fun q => q.1)) vs ∧ aH W G ρc mm h := by
  unfold amt0 at hs
  cases hp : apre E ts n with
  | false => rw [hp] at hs; cases hs
  | true =>
    rw [hp] at hs
    dsimp only [cond_true] at hs
    split at hs
    · next σ1 h1 =>
      split at hs
      · next A hA =>
        cases hb : (Nat.ble A.2.2.1.length ts.length && ((ts.drop A.2.2.1.length).all (acs1 A.1 A.2.2.1) && A.2.1.all (fun e => adr W A.1 e || A.2.2.2.any (fun q => akq e.1 q)))) with
        | false => rw [hb] at hs; cases hs
        | true =>
          rw [hb] at hs
          cases hs
          rw [Bool.and_eq_true, Bool.and_eq_true] at hb
          obtain ⟨hb1, hb2, hb3⟩ := hb
          have hb1 := Nat.le_of_ble_eq_true hb1
          obtain ⟨g0, n0⟩ := aid_ok hE hp
          obtain ⟨ρ1, x1, g1, n1, s1⟩ := abds_ok hE ps _ _ _ vs g0 n0 h1 hv
          obtain ⟨ρ', ρc, x2, y2, E2, H2, g2, n2, m2, k2⟩ := amr_ok (G := G) (h := h) mm _ A ρ ρ1 hA hE hH g1 n1
          have hts : aE W (ts.take A.2.2.1.length) ρc := by
            refine ⟨by rw [List.length_take, ← g2.1]; omega, n2.1, fun k t z k1 k2 => ?_⟩
            rw [List.getElem?_take] at k1
            split at k1
            · exact (n2.2 k t z k1 k2).ok
            · cases k1
          obtain ⟨z1, z2⟩ := azs_ok E2 (ts.drop A.2.2.1.length) A.2.2.1 ρc g2 hts (fun t ht => acs1_ok E2 g2 (List.all_eq_true.mp hb2 t ht))
          rw [List.take_append_drop] at z2
          have xz : aext ρc (ρc ++ azs (ts.drop A.2.2.1.length)) := ⟨_, rfl⟩
          refine ⟨ρ', ρc ++ azs (ts.drop A.2.2.1.length), x2, E2, H2, z1, z2, (x1.trans y2).trans xz, (s1.ext y2).ext xz, aH.ext xz ⟨H2.1, fun a k ha hk => ?_, fun e he => ?_⟩⟩
          · obtain ⟨v, q1, q2⟩ := H2.2.1 a k ha hk
            refine ⟨v, q1, ?_⟩
            rcases q2 with q2 | ⟨e, he, q2⟩
            · exact Or.inl q2
            · have := List.all_eq_true.mp hb3 e he
              rw [Bool.or_eq_true] at this
              rcases this with q | q
              · obtain ⟨a', k', v', w1, w2, w3, w4, w5⟩ := H2.2.2 e he
                obtain ⟨rfl, rfl⟩ := w1.inj q2
                rw [q1] at w4
                cases w4
                exact Or.inl (adr_ok E2 q q2 w5)
              · obtain ⟨key, hk1, hk2⟩ := List.any_eq_true.mp q
                rw [akq_ok hk2] at q2
                rcases k2 key hk1 with w | ⟨e', he', a', k', w1, w2⟩
                · cases w
                · obtain ⟨rfl, rfl⟩ := w1.inj q2
                  exact Or.inr ⟨e', he', w2⟩
          · obtain ⟨a, k, v, w1, w2, w3, w4, w5⟩ := m2 e he
            exact ⟨a, k, v, w1, w2, w3, w4, w5⟩
      · cases hs
    · cases hs
def amt (W : aW) (n : Nat) (E : List aY) (m : aM) (ts : List aY) (ps : List (aV × aV)) (mm : aM) : Option (List aY × aM × List aV) := amt0 W n (aprp E E) m ts ps mm
theorem amt_ok {W : aW} {G : aG} {n : Nat} {E E' : List aY} {m m' : aM} {ts : List aY} {ps : List (aV × aV)} {mm : aM} {σ : List aV} {ρ : List Int} {h : zH} {vs : List Value} (hs : amt W n E m ts ps mm = some (E', m', σ)) (hE : aE W E ρ) (hH : aH W G ρ m h) (hv : aSt ρ (ps.map (fun q => q.2)) vs) : ∃ ρ' ρc, aext ρ ρ' ∧ aE W E' ρ' ∧ aH W G ρ' m' h ∧ asg ρ' σ ρc ∧ aE W ts ρc ∧ aext (ρ.take n) ρc ∧ aSt ρc (ps.map (fun q => q.1)) vs ∧ aH W G ρc mm h := amt0_ok hs (aprp_E hE) hH hv
