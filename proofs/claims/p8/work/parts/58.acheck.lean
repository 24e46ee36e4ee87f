/-! The check of a contract, and that it is enough. -/
def apo (a b : Option aV) : Option (List (aV × aV)) := match a, b with
  | none, none => some []
  | some x, some y => some [(x, y)]
  | _, _ => none
/-- an end of the run is one of the contract's -/
def axck (W : aW) (q : aQ) (x : aXt) : Bool := q.2.2.2.1.any (fun e => match apo e.2.1 x.2.1 with
  | some ps => Nat.ble (aent q).length e.1.length && (amt W (aent q).length x.1 x.2.2 e.1 ps e.2.2).isSome
  | none => false)
def ants (W : aW) (n : Nat) (NS : List aN) (ms : Option aMs) (pc : Nat) (S : aS) : Bool := NS.any (fun N => Nat.beq N.1 pc && amN W n S N ms)
def aone (P : aP) (mt : zM) (K Kn : Nat → List aQ) (q : aQ) (NS : List aN) (ms : Option aMs) (d n pc : Nat) (S : aS) : Bool := match mt q.1 with
  | some w => match arun P (acals P mt K Kn q.2.2.2.2.2 d) (ants P.2.2.2.1 (aent q).length NS ms) w.1 w.2.2.1 w.2.2.2.1 w.2.2.2.2 n true pc S with
    | some xs => xs.all (axck P.2.2.2.1 q)
    | none => false
  | none => false
def awf (mt : zM) (q : aQ) : Bool := (match mt q.1 with
  | some w => Nat.ble ((aarg q).map acat).sum w.2.2.1
  | none => false) && (q.2.2.2.2.1.all (fun d => Nat.beq d.2.1 0 || !Nat.ble (aent q).length d.2.2.1) && (q.2.2.2.2.2.2.all (fun t => !Nat.ble (aent q).length t.1) && ann (aent q) q.2.2.2.2.2))
def anwf (q : aQ) (N : aN) : Bool := N.2.2.2.2.2.2.all (fun t => !Nat.ble N.2.1.length t.1) && ann N.2.1 N.2.2.2.2.2
/-- from the entry -/
def ack0 (Y : zX) (I : zI) (mcl : Nat → Nat) (W : aW) (Pt : aPt) (mt : zM) (K Kn : Nat → List aQ) (q : aQ) (NS : List aN) (d n : Nat) : Bool := awf mt q && aone (Y, I, mcl, W, Pt, q.2.2.2.2.1) mt K Kn q NS none d n 0 (aent q, aloc 0 (aarg q), [], aem q)
/-- from a note -/
def ackN (Y : zX) (I : zI) (mcl : Nat → Nat) (W : aW) (Pt : aPt) (mt : zM) (K Kn : Nat → List aQ) (q : aQ) (NS : List aN) (d n : Nat) (N : aN) : Bool := anwf q N && aone (Y, I, mcl, W, Pt, q.2.2.2.2.1) mt K Kn q NS (some N.2.2.2.2.2) d n N.1 (N.2.1, N.2.2.1, N.2.2.2.1, N.2.2.2.2.1)
def ackq (Y : zX) (I : zI) (mcl : Nat → Nat) (W : aW) (Pt : aPt) (mt : zM) (K Kn : Nat → List aQ) (q : aQ) (NS : List aN) (d n : Nat) : Bool := ack0 Y I mcl W Pt mt K Kn q NS d n && NS.all (ackN Y I mcl W Pt mt K Kn q NS d n)
theorem atake {ρ0 ρ : List Int} (h : aext ρ0 ρ) : ρ.take ρ0.length = ρ0 := by
  obtain ⟨e, rfl⟩ := h
  rw [List.take_append_of_le_length (Nat.le_refl _), List.take_length]
theorem aF_dn {W : aW} {G : aG} {D : List aD} {ρ0 ρ : List Int} {h0 h : zH} (hx : aext ρ0 ρ) (hD : ∀ d ∈ D, d.2.1 = 0 ∨ d.2.2.1 < ρ0.length) (hF : aF W G ρ D h0 h) : aF W G ρ0 D h0 h := by
  refine ⟨hF.1, fun a k ha hk hn => hF.2 a k ha hk (fun d hd hm => hn d hd ?_)⟩
  obtain ⟨m1, m2⟩ := hm
  refine ⟨m1, ?_⟩
  split
  · next q => rw [q] at m2; exact m2
  · next q =>
    split at m2
    · next q2 => exact absurd q2 q
    · obtain ⟨x, ⟨z, z1, z2⟩, x2⟩ := m2
      rcases hD d hd with q3 | q3
      · exact absurd q3 q
      · refine ⟨x, ⟨z, ?_, z2⟩, x2⟩
        have h1 : ρ0[d.2.2.1]? = some (ρ0[d.2.2.1]'q3) := List.getElem?_eq_getElem _
        have h2 := hx.get h1
        rw [z1] at h2
        cases h2
        exact h1
theorem apo_ok {ρ : List Int} {a b : Option aV} {ps : List (aV × aV)} {r : Option Value} (h : apo a b = some ps) (hr : arv ρ b r) : ∃ vs : List Value, aSt ρ (ps.map (fun q => q.2)) vs ∧ ∀ ρc : List Int, aSt ρc (ps.map (fun q => q.1)) vs → arv ρc a r := by
  cases a with
  | none =>
    cases b with
    | none =>
      cases h
      exact ⟨[], rfl, fun _ _ => hr⟩
    | some b => cases h
  | some a =>
    cases b with
    | none => cases h
    | some b =>
      cases h
      obtain ⟨v, h1, h2⟩ := hr
      refine ⟨[v], ⟨v, [], rfl, h2, rfl⟩, fun ρc hc => ?_⟩
      obtain ⟨v', vs', e, g1, g2⟩ := hc
      cases e
      exact ⟨v, h1, g1⟩
theorem axck_ok {W : aW} {G : aG} {q : aQ} {ρ0 ρ : List Int} {h0 h' : zH} {xs : List aXt} {r : Option Value} (hl : ρ0.length = (aent q).length) (hD : ∀ d ∈ q.2.2.2.2.1, d.2.1 = 0 ∨ d.2.2.1 < ρ0.length) (hx : aext ρ0 ρ) (hs : xs.all (axck W q) = true) (h : aXr W G q.2.2.2.2.1 h0 ρ xs r h') : aEnd W G q.2.2.2.2.1 ρ0 h0 (aent q) q.2.2.2.1 r h' := by
  obtain ⟨x, x1, ρ', x2, x3, x4, x5, x6⟩ := h
  have hc := List.all_eq_true.mp hs x x1
  obtain ⟨e, e1, e2⟩ := List.any_eq_true.mp hc
  split at e2
  · next ps hps =>
    rw [Bool.and_eq_true] at e2
    obtain ⟨e3, e2⟩ := e2
    obtain ⟨A, hA⟩ := Option.isSome_iff_exists.mp e2
    obtain ⟨E', m', σ⟩ := A
    obtain ⟨vs, v1, v2⟩ := apo_ok hps x4
    obtain ⟨ρ1, ρc, y1, y2, y3, y4, y5, y6, y7, y8⟩ := amt_ok (G := G) (h := h') (vs := vs) hA x3 x5 v1
    have hxx := hx.trans x2
    rw [← hl, atake hxx] at y6
    exact ⟨e, e1, ρc, y6, able e3, y5, v2 ρc y7, y8, aF_dn hxx hD x6⟩
  · cases e2
set_option maxHeartbeats 2000000 in
theorem agroup {W : aW} {G : aG} {Pt : aPt} {Y X : zX} {I : zI} {mcl : Nat → Nat} {mt : zM} {K Kn : Nat → List aQ} {d n : Nat} (hX : aXX Y X) (hG : aGok W G Pt) (hL : ∀ s : Nat, (afm W s).2.2.1 < 1000000)
    (hK : ∀ (mi : Nat) (q : aQ), q ∈ K mi → q.1 = mi ∧ aCon W G (zAny X I mcl mt) q (fun _ => True)) (hKn : ∀ (mi : Nat) (q : aQ), q ∈ Kn mi → q.1 = mi ∧ ∃ NS : List aN, ackq Y I mcl W Pt mt K Kn q NS d n = true) : ∀ (mi : Nat) (q : aQ), q ∈ Kn mi → aCon W G (zAny X I mcl mt) q (fun _ => True) := by
  have main : ∀ (M : Nat) (mi : Nat) (q : aQ), q ∈ Kn mi → aCon W G (zAny X I mcl mt) q (fun ρ => amv ρ q.2.2.2.2.2 < (M : Int)) := by
    intro M
    induction M with
    | zero =>
      intro mi q hq ρ h vs hp hE
      obtain ⟨-, NS, hc⟩ := hKn mi q hq
      unfold ackq ack0 awf at hc
      simp only [Bool.and_eq_true] at hc
      have := ann_ok hE hc.1.1.2.2.2
      omega
    | succ M ih =>
      intro mi q hq ρ0 h0 vs hp hE hv hH
      obtain ⟨-, NS, hc⟩ := hKn mi q hq
      unfold ackq ack0 awf at hc
      simp only [Bool.and_eq_true] at hc
      obtain ⟨⟨⟨c1, c2, c3, c4⟩, c5⟩, c6⟩ := hc
      have hD : ∀ d ∈ q.2.2.2.2.1, d.2.1 = 0 ∨ d.2.2.1 < ρ0.length := fun d hd => by
        have := List.all_eq_true.mp c2 d hd
        rw [Bool.or_eq_true] at this
        rcases this with h | h
        · exact Or.inl (Nat.eq_of_beq_eq_true h)
        · refine Or.inr ?_
          rw [hE.1]
          have h2 : Nat.ble (aent q).length d.2.2.1 = false := by simpa using h
          cases hh : Nat.decLt d.2.2.1 (aent q).length with
          | isTrue h => exact h
          | isFalse h => rw [Nat.ble_eq_true_of_le (by omega)] at h2; cases h2
      have hms : ∀ t ∈ q.2.2.2.2.2.2, t.1 < ρ0.length := fun t ht => by
        have h := List.all_eq_true.mp c3 t ht
        rw [hE.1]
        have h2 : Nat.ble (aent q).length t.1 = false := by simpa using h
        cases hh : Nat.decLt t.1 (aent q).length with
        | isTrue h => exact h
        | isFalse h => rw [Nat.ble_eq_true_of_le (by omega)] at h2; cases h2
      have hcal := acals_ok (h0 := h0) (D := q.2.2.2.2.1) (ms0 := q.2.2.2.2.2) (ρ0 := ρ0) hX hG hL hms hK (fun mi' q' hq' => ⟨(hKn mi' q' hq').1, fun ρ h vs hp' => ih mi' q' hq' ρ h vs (by
        have h9 : amv ρ q'.2.2.2.2.2 < amv ρ0 q.2.2.2.2.2 := hp'
        show amv ρ q'.2.2.2.2.2 < (M : Int)
        omega)⟩) d
      split at c1
      · next w hm =>
        obtain ⟨c, ini, nL, rt, tab⟩ := w
        have hlen : ρ0.length = (aent q).length := hE.1
        -- from a note, by its measure
        have notes : ∀ (m : Nat) (N : aN), N ∈ NS → ∀ (ρ : List Int) (cl : zL) (cst : List Value) (h : zH), amv ρ N.2.2.2.2.2 < (m : Int) → aext ρ0 ρ → aRel W G q.2.2.2.2.1 h0 ρ (N.2.1, N.2.2.1, N.2.2.2.1, N.2.2.2.2.1) cl cst h → ∃ (k : Nat) (r : Option Value) (h' : zH), zRun X I mcl (zAny X I mcl mt) c ini nL rt tab k N.1 cl cst h r h' ∧ aEnd W G q.2.2.2.2.1 ρ0 h0 (aent q) q.2.2.2.1 r h' := by
          intro m
          induction m with
          | zero =>
            intro N hN ρ cl cst h hlt hx hR
            have := List.all_eq_true.mp c6 N hN
            unfold ackN anwf at this
            simp only [Bool.and_eq_true] at this
            have h1 := ann_ok hR.1 this.1.2
            omega
          | succ m ihm =>
            intro N hN ρ cl cst h hlt hx hR
            have hck := List.all_eq_true.mp c6 N hN
            unfold ackN anwf aone at hck
            simp only [Bool.and_eq_true] at hck
            obtain ⟨⟨k1, k2⟩, k3⟩ := hck
            rw [hm] at k3
            dsimp only at k3
            split at k3
            · next xs hxs =>
              have hmsN : ∀ t ∈ N.2.2.2.2.2.2, t.1 < ρ.length := fun t ht => by
                have h := List.all_eq_true.mp k1 t ht
                rw [hR.1.1]
                have h2 : Nat.ble N.2.1.length t.1 = false := by simpa using h
                cases hh : Nat.decLt t.1 N.2.1.length with
                | isTrue h => exact h
                | isFalse h => rw [Nat.ble_eq_true_of_le (by omega)] at h2; cases h2
              obtain ⟨k, r, h', e1, e2⟩ := arun_ok (ini := ini) (Q := aext ρ) (Post := fun r h' => aEnd W G q.2.2.2.2.1 ρ0 h0 (aent q) q.2.2.2.1 r h') hX hG hL (fun _ _ a b => a.trans b) (fun mi E as m xs ρ' vs h a b => hcal mi E as m xs ρ' vs h a (hx.trans b)) (fun pc S ρ' cl' cst' h' hnt hq' hR' => by
                obtain ⟨N', n1, n2⟩ := List.any_eq_true.mp hnt
                rw [Bool.and_eq_true] at n2
                obtain ⟨ρc, y1, y2, y3, y4, y5, y6⟩ := amN_ok (G := G) n2.2 hR'.1 hR'.2.1 hR'.2.2.1 hR'.2.2.2.1
                obtain ⟨ρ'', y7, y8⟩ := y6 _ rfl
                have hxx := hx.trans hq'
                rw [← hlen, atake hxx] at y1
                have hmv : amv ρ'' N.2.2.2.2.2 = amv ρ N.2.2.2.2.2 := by
                  unfold amv
                  rw [avs_ext (hq'.trans y7) hmsN]
                rw [hmv] at y8
                have hF0 := aF_dn hxx hD hR'.2.2.2.2
                obtain ⟨k, r, h2, g1, g2⟩ := ihm N' n1 ρc cl' cst' h' (by omega) y1 ⟨y2, y3, y4, y5, hF0.ext y1⟩
                rw [Nat.eq_of_beq_eq_true n2.1] at g1
                exact ⟨k, r, h2, g1, g2⟩) n true N.1 _ xs ρ cl cst h hxs aext.rf hR
              refine ⟨k, r, h', e1, ?_⟩
              rcases e2 with e2 | e2
              · exact axck_ok hlen hD hx k3 e2
              · exact e2
            · cases k3
        -- from the entry
        unfold aone at c5
        rw [hm] at c5
        dsimp only at c5
        split at c5
        · next xs hxs =>
          have hl : (lg_sl vs).length ≤ nL := by rw [alg_len hv]; exact able c1
          obtain ⟨k, r, h', e1, e2⟩ := arun_ok (ini := ini) (Q := aext ρ0) (Post := fun r h' => aEnd W G q.2.2.2.2.1 ρ0 h0 (aent q) q.2.2.2.1 r h') hX hG hL (fun _ _ a b => a.trans b) hcal (fun pc S ρ' cl' cst' h' hnt hq' hR' => by
            obtain ⟨N', n1, n2⟩ := List.any_eq_true.mp hnt
            rw [Bool.and_eq_true] at n2
            obtain ⟨ρc, y1, y2, y3, y4, y5, -⟩ := amN_ok (G := G) n2.2 hR'.1 hR'.2.1 hR'.2.2.1 hR'.2.2.2.1
            rw [← hlen, atake hq'] at y1
            have hF0 := aF_dn hq' hD hR'.2.2.2.2
            obtain ⟨k, r, h2, g1, g2⟩ := notes ((amv ρc N'.2.2.2.2.2).toNat + 1) N' n1 ρc cl' cst' h' (by omega) y1 ⟨y2, y3, y4, y5, hF0.ext y1⟩
            rw [Nat.eq_of_beq_eq_true n2.1] at g1
            exact ⟨k, r, h2, g1, g2⟩) n true 0 _ xs ρ0 (lv_args 0 vs) [] h0 hxs aext.rf ⟨hE, fun p hp => (aloc_ok _ vs 0 hv p hp).2, rfl, hH, aF.rf⟩
          refine ⟨r, h', zA_of hm hl e1, ?_⟩
          rcases e2 with e2 | e2
          · exact axck_ok hlen hD aext.rf c5 e2
          · exact e2
        · cases c5
      · cases c1
  intro mi q hq ρ h vs _ hE hv hH
  exact main ((amv ρ q.2.2.2.2.2).toNat + 1) mi q hq ρ h vs (by show amv ρ q.2.2.2.2.2 < _; omega) hE hv hH
