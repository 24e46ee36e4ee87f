/-! Calls at any depth; contracts that hold. -/
def zAny (X : zX) (I : zI) (mcl : Nat → Nat) (mt : zM) : zC := fun mi as h r h' => ∃ d : Nat, zEv X I mcl mt d mi as h r h'
theorem zRun_C {X : zX} {I : zI} {mcl : Nat → Nat} {C C' : zC} {c : Nat} {ini : Bool} {nL : Nat} {rt : Option FieldType} {tab : Nat → Option (Instr × Nat)} (hC : ∀ mi as h r h', C mi as h r h' → C' mi as h r h') : ∀ (n pc : Nat) (ls : zL) (st : List Value) (h : zH) (r : Option Value) (h' : zH), zRun X I mcl C c ini nL rt tab n pc ls st h r h' → zRun X I mcl C' c ini nL rt tab n pc ls st h r h' := by
  intro n
  induction n with
  | zero => intro pc ls st h r h' q; exact q.elim
  | succ n ih =>
    intro pc ls st h r h' q
    obtain ⟨i, len, ht, q⟩ := q
    refine ⟨i, len, ht, ?_⟩
    rcases q with q | ⟨pc1, ls1, st1, h1, q1, q2⟩ | ⟨rest, q1, q2⟩ | ⟨mi, as, rest, r1, h1, q0, q1, q2⟩
    · exact Or.inl q
    · exact Or.inr (Or.inl ⟨pc1, ls1, st1, h1, q1, ih _ _ _ _ _ _ q2⟩)
    · exact Or.inr (Or.inr (Or.inl ⟨rest, q1, ih _ _ _ _ _ _ q2⟩))
    · exact Or.inr (Or.inr (Or.inr ⟨mi, as, rest, r1, h1, q0, hC _ _ _ _ _ q1, ih _ _ _ _ _ _ q2⟩))
theorem zEv_up {X : zX} {I : zI} {mcl : Nat → Nat} {mt : zM} : ∀ (d mi : Nat) (as : List Value) (h : zH) (r : Option Value) (h' : zH), zEv X I mcl mt d mi as h r h' → zEv X I mcl mt (d + 1) mi as h r h' := by
  intro d
  induction d with
  | zero => intro mi as h r h' q; exact q.elim
  | succ d ih =>
    intro mi as h r h' q
    obtain ⟨c, ini, nL, rt, tab, n, q1, q2, q3⟩ := q
    exact ⟨c, ini, nL, rt, tab, n, q1, q2, zRun_C ih _ _ _ _ _ _ _ q3⟩
theorem zEv_le {X : zX} {I : zI} {mcl : Nat → Nat} {mt : zM} {d e : Nat} (hd : d ≤ e) {mi : Nat} {as : List Value} {h : zH} {r : Option Value} {h' : zH} (q : zEv X I mcl mt d mi as h r h') : zEv X I mcl mt e mi as h r h' := by
  obtain ⟨k, rfl⟩ := Nat.le.dest hd
  induction k with
  | zero => exact q
  | succ k ih => exact zEv_up _ _ _ _ _ _ (ih (Nat.le_add_right d k))
theorem zRun_A {X : zX} {I : zI} {mcl : Nat → Nat} {mt : zM} {c : Nat} {ini : Bool} {nL : Nat} {rt : Option FieldType} {tab : Nat → Option (Instr × Nat)} : ∀ (n pc : Nat) (ls : zL) (st : List Value) (h : zH) (r : Option Value) (h' : zH), zRun X I mcl (zAny X I mcl mt) c ini nL rt tab n pc ls st h r h' → ∃ d : Nat, zRun X I mcl (zEv X I mcl mt d) c ini nL rt tab n pc ls st h r h' := by
  intro n
  induction n with
  | zero => intro pc ls st h r h' q; exact q.elim
  | succ n ih =>
    intro pc ls st h r h' q
    obtain ⟨i, len, ht, q⟩ := q
    rcases q with q | ⟨pc1, ls1, st1, h1, q1, q2⟩ | ⟨rest, q1, q2⟩ | ⟨mi, as, rest, r1, h1, q0, ⟨d0, q1⟩, q2⟩
    · exact ⟨0, i, len, ht, Or.inl q⟩
    · obtain ⟨d, g⟩ := ih _ _ _ _ _ _ q2
      exact ⟨d, i, len, ht, Or.inr (Or.inl ⟨pc1, ls1, st1, h1, q1, g⟩)⟩
    · obtain ⟨d, g⟩ := ih _ _ _ _ _ _ q2
      exact ⟨d, i, len, ht, Or.inr (Or.inr (Or.inl ⟨rest, q1, g⟩))⟩
    · obtain ⟨d, g⟩ := ih _ _ _ _ _ _ q2
      exact ⟨max d0 d, i, len, ht, Or.inr (Or.inr (Or.inr ⟨mi, as, rest, r1, h1, q0, zEv_le (Nat.le_max_left _ _) q1, zRun_C (fun _ _ _ _ _ w => zEv_le (Nat.le_max_right _ _) w) _ _ _ _ _ _ _ g⟩))⟩
theorem zA_of {X : zX} {I : zI} {mcl : Nat → Nat} {mt : zM} {mi c : Nat} {ini : Bool} {nL : Nat} {rt : Option FieldType} {tab : Nat → Option (Instr × Nat)} {n : Nat} {as : List Value} {h : zH} {r : Option Value} {h' : zH} (hm : mt mi = some (c, ini, nL, rt, tab)) (hl : (lg_sl as).length ≤ nL) (q : zRun X I mcl (zAny X I mcl mt) c ini nL rt tab n 0 (lv_args 0 as) [] h r h') : zAny X I mcl mt mi as h r h' := by
  obtain ⟨d, g⟩ := zRun_A _ _ _ _ _ _ _ q
  exact ⟨d + 1, c, ini, nL, rt, tab, n, hm, hl, g⟩
def aloc : Nat → List aV → aLs
  | _, [] => []
  | i, a :: r => (i, a) :: aloc (i + acat a) r
theorem aloc_ok {ρ : List Int} : ∀ (as : List aV) (vs : List Value) (i : Nat), aSt ρ as vs → ∀ p ∈ aloc i as, i ≤ p.1 ∧ ∃ v : Value, zget (lv_args i vs) p.1 = some v ∧ av ρ p.2 v
  | [], _, _, _, p, hp => by cases hp
  | a :: as, _, i, ⟨v, vs, e, h1, h2⟩, p, hp => by
    rw [e]
    have hc : (if v.category = 2 then i + 2 else i + 1) = i + acat a := by
      rw [av_cat h1]
      rcases a with ⟨s, c⟩ | s | s | k <;> rfl
    unfold lv_args
    rw [hc]
    rcases List.mem_cons.mp hp with rfl | hp
    · exact ⟨Nat.le_refl _, v, zget_hd, h1⟩
    · obtain ⟨g1, w, g2, g3⟩ := aloc_ok as vs (i + acat a) h2 p hp
      have hpos : 1 ≤ acat a := by rcases a with ⟨s, c⟩ | s | s | k <;> simp [acat]
      exact ⟨by omega, w, by rw [zget_tl (by omega)]; exact g2, g3⟩
theorem alg_len {ρ : List Int} : ∀ {as : List aV} {vs : List Value}, aSt ρ as vs → (lg_sl vs).length = (as.map acat).sum
  | [], _, h => by rw [show _ = [] from h]; rfl
  | a :: as, _, ⟨v, vs, e, h1, h2⟩ => by
    have ih := alg_len h2
    rw [e, List.map_cons, List.sum_cons, ← ih, ← av_cat h1]
    unfold lg_sl
    rw [List.flatMap_cons, List.length_append]
    cases v <;> rfl
def anil {α : Type} : List α → Bool
  | [] => true
  | _ => false
def atry (P : aP) (E : List aY) (m : aM) (as : List aV) : List aQ → Option (List aXt)
  | [] => none
  | q :: r => match acon P.2.2.2.1 P.2.2.2.2.2 E m as q with
    | some A => some A.2.2
    | none => atry P E m as r
def atryn (P : aP) (ms0 : aMs) (E : List aY) (m : aM) (as : List aV) : List aQ → Option (List aXt)
  | [] => none
  | q :: r => match acon P.2.2.2.1 P.2.2.2.2.2 E m as q with
    | some A => bif alt A.1 A.2.1 q.2.2.2.2.2 ms0 then some A.2.2 else atryn P ms0 E m as r
    | none => atryn P ms0 E m as r
def acals (P : aP) (mt : zM) (K Kn : Nat → List aQ) (ms0 : aMs) : Nat → Nat → List aY → List aV → aM → Option (List aXt)
  | 0 => fun _ _ _ _ => none
  | d + 1 => fun mi E as m => match atry P E m as (K mi) with
    | some xs => some xs
    | none => match atryn P ms0 E m as (Kn mi) with
      | some xs => some xs
      | none => bif anil (K mi) && anil (Kn mi) then (match mt mi with
        | some q => bif Nat.ble (as.map acat).sum q.2.2.1 then arun P (acals P mt K Kn ms0 d) (fun _ _ => false) q.1 q.2.2.1 q.2.2.2.1 q.2.2.2.2 1000 true 0 (E, aloc 0 as, [], m) else none
        | none => none) else none
theorem atry_ok {P : aP} {E : List aY} {m : aM} {as : List aV} : ∀ {qs : List aQ} {xs : List aXt}, atry P E m as qs = some xs → ∃ q ∈ qs, ∃ A, acon P.2.2.2.1 P.2.2.2.2.2 E m as q = some A ∧ A.2.2 = xs
  | [], _, h => by cases h
  | q :: r, xs, h => by
    unfold atry at h
    split at h
    · next A hA =>
      cases h
      exact ⟨q, List.mem_cons_self, A, hA, rfl⟩
    · obtain ⟨q', g1, g2⟩ := atry_ok h
      exact ⟨q', List.mem_cons_of_mem _ g1, g2⟩
theorem atryn_ok {P : aP} {ms0 : aMs} {E : List aY} {m : aM} {as : List aV} : ∀ {qs : List aQ} {xs : List aXt}, atryn P ms0 E m as qs = some xs → ∃ q ∈ qs, ∃ A, acon P.2.2.2.1 P.2.2.2.2.2 E m as q = some A ∧ A.2.2 = xs ∧ alt A.1 A.2.1 q.2.2.2.2.2 ms0 = true
  | [], _, h => by cases h
  | q :: r, xs, h => by
    unfold atryn at h
    split at h
    · next A hA =>
      cases hb : alt A.1 A.2.1 q.2.2.2.2.2 ms0 with
      | true =>
        rw [hb] at h
        cases h
        exact ⟨q, List.mem_cons_self, A, hA, rfl, hb⟩
      | false =>
        rw [hb] at h
        obtain ⟨q', g1, g2⟩ := atryn_ok h
        exact ⟨q', List.mem_cons_of_mem _ g1, g2⟩
    · obtain ⟨q', g1, g2⟩ := atryn_ok h
      exact ⟨q', List.mem_cons_of_mem _ g1, g2⟩
theorem acon_use {W : aW} {G : aG} {D : List aD} {h0 : zH} {C : zC} {E : List aY} {m : aM} {as : List aV} {q : aQ} {A : List aY × List aV × List aXt} {ρ : List Int} {h : zH} {vs : List Value} {Pr : List Int → Prop} (hs : acon W D E m as q = some A) (hE : aE W E ρ) (hH : aH W G ρ m h) (hv : aSt ρ as vs) (hF : aF W G ρ D h0 h) (hc : aCon W G C q Pr) (hp : ∀ ρ' ρc, aext ρ ρ' → aE W A.1 ρ' → asg ρ' A.2.1 ρc → Pr ρc) : ∃ (r : Option Value) (h' : zH), C q.1 vs h r h' ∧ aXr W G D h0 ρ A.2.2 r h' := by
  obtain ⟨E', σ, os⟩ := A
  obtain ⟨ρ', ρc, x1, x2, x3, x4, x5, x6, x7⟩ := acon_ok (h0 := h0) hs hE hH hv hF
  obtain ⟨r, h', g1, g2⟩ := hc ρc h vs (hp ρ' ρc x1 x2 x3) x4 x5 x6
  exact ⟨r, h', g1, x7 r h' g2⟩
set_option maxHeartbeats 1000000 in
theorem acals_ok {W : aW} {G : aG} {Pt : aPt} {D : List aD} {h0 : zH} {Y X : zX} {I : zI} {mcl : Nat → Nat} {mt : zM} {K Kn : Nat → List aQ} {ms0 : aMs} {ρ0 : List Int} (hX : aXX Y X) (hG : aGok W G Pt) (hL : ∀ s : Nat, (afm W s).2.2.1 < 1000000) (hms : ∀ t ∈ ms0.2, t.1 < ρ0.length)
    (hK : ∀ (mi : Nat) (q : aQ), q ∈ K mi → q.1 = mi ∧ aCon W G (zAny X I mcl mt) q (fun _ => True)) (hKn : ∀ (mi : Nat) (q : aQ), q ∈ Kn mi → q.1 = mi ∧ aCon W G (zAny X I mcl mt) q (fun ρ => amv ρ q.2.2.2.2.2 < amv ρ0 ms0)) : ∀ d : Nat, aCal W G D h0 (zAny X I mcl mt) (aext ρ0) (acals (Y, I, mcl, W, Pt, D) mt K Kn ms0 d) := by
  intro d
  induction d with
  | zero => intro mi E as m xs ρ vs h hs; cases hs
  | succ d ih =>
    intro mi E as m xs ρ vs h hs hq hE hH hv hF
    unfold acals at hs
    split at hs
    · next ys hy =>
      cases hs
      obtain ⟨q, g1, A, g2, g3⟩ := atry_ok hy
      obtain ⟨k1, k2⟩ := hK mi q g1
      obtain ⟨r, h', c1, c2⟩ := acon_use g2 hE hH hv hF k2 (fun _ _ _ _ _ => trivial)
      rw [k1] at c1
      rw [g3] at c2
      exact ⟨r, h', c1, c2⟩
    · split at hs
      · next ys hy =>
        cases hs
        obtain ⟨q, g1, A, g2, g3, g4⟩ := atryn_ok hy
        obtain ⟨k1, k2⟩ := hKn mi q g1
        obtain ⟨r, h', c1, c2⟩ := acon_use g2 hE hH hv hF k2 (fun ρ' ρc x1 x2 x3 => by
          have h1 := alt_ok x2 x3 g4
          have h2 : amv ρ' ms0 = amv ρ0 ms0 := by
            unfold amv
            rw [avs_ext (hq.trans x1) hms]
          rw [h2] at h1
          exact h1)
        rw [k1] at c1
        rw [g3] at c2
        exact ⟨r, h', c1, c2⟩
      · cases hn : (anil (K mi) && anil (Kn mi)) with
        | false => rw [hn] at hs; cases hs
        | true =>
          rw [hn] at hs
          dsimp only [cond_true] at hs
          split at hs
          · next q hm =>
            obtain ⟨c, ini, nL, rt, tab⟩ := q
            cases hb : Nat.ble (as.map acat).sum nL with
            | false => rw [hb] at hs; cases hs
            | true =>
              rw [hb] at hs
              have hl : (lg_sl vs).length ≤ nL := by rw [alg_len hv]; exact able hb
              obtain ⟨k, r, h', e1, e2⟩ := arun_ok (ini := ini) (Post := fun _ _ => False) hX hG hL (fun _ _ a b => a.trans b) ih (fun _ _ _ _ _ _ hf _ _ => by cases hf) 1000 true 0 _ xs ρ (lv_args 0 vs) [] h hs hq ⟨hE, fun p hp => (aloc_ok as vs 0 hv p hp).2, rfl, hH, hF⟩
              rcases e2 with e2 | e2
              · exact ⟨r, h', zA_of hm hl e1, e2⟩
              · exact e2.elim
          · cases hs
/-! Notes of a method, and its check. -/
abbrev aN : Type := Nat × List aY × aLs × List aV × aM × aMs
def alp (ls : aLs) : aLs → Option (List (aV × aV))
  | [] => some []
  | p :: r => match aget ls p.1 with
    | some a => match alp ls r with
      | some l => some ((p.2, a) :: l)
      | none => none
    | none => none
def amN (W : aW) (n : Nat) (S : aS) (N : aN) (ms : Option aMs) : Bool := match alp S.2.1 N.2.2.1 with
  | some l => bif Nat.beq N.2.2.2.1.length S.2.2.1.length then (match amt W n S.1 S.2.2.2 N.2.1 (l ++ N.2.2.2.1.zip S.2.2.1) N.2.2.2.2.1 with
    | some A => match ms with
      | some ms => alt A.1 A.2.2 N.2.2.2.2.2 ms
      | none => true
    | none => false) else false
  | none => false
theorem alp_ok {ρ : List Int} {ls : aLs} {cl : zL} (hl : aLo ρ ls cl) : ∀ (ns : aLs) (l : List (aV × aV)), alp ls ns = some l → ∃ vs : List Value, aSt ρ (l.map (fun q => q.2)) vs ∧ ∀ ρc : List Int, aSt ρc (l.map (fun q => q.1)) vs → aLo ρc ns cl
  | [], l, h => by
    cases h
    exact ⟨[], rfl, fun ρc _ p hp => by cases hp⟩
  | p :: r, l, h => by
    unfold alp at h
    split at h
    · next a ha =>
      split at h
      · next l' hl' =>
        cases h
        obtain ⟨vs, g1, g2⟩ := alp_ok hl r l' hl'
        obtain ⟨v, g3, g4⟩ := hl.get ha
        refine ⟨v :: vs, ⟨v, vs, rfl, g4, g1⟩, fun ρc hc => ?_⟩
        obtain ⟨v', vs', e, h1, h2⟩ := hc
        cases e
        intro p' hp'
        rcases List.mem_cons.mp hp' with rfl | hp'
        · exact ⟨v, g3, h1⟩
        · exact g2 ρc h2 p' hp'
      · cases h
    · cases h
theorem aSt_split {ρ : List Int} : ∀ {as bs : List aV} {l : List Value}, aSt ρ (as ++ bs) l → ∃ x y, l = x ++ y ∧ aSt ρ as x ∧ aSt ρ bs y
  | [], bs, l, h => ⟨[], l, rfl, rfl, h⟩
  | a :: as, bs, _, ⟨v, vs, e, h1, h2⟩ => by
    obtain ⟨x, y, e2, g1, g2⟩ := aSt_split h2
    exact ⟨v :: x, y, by rw [e, e2]; rfl, ⟨v, x, rfl, h1, g1⟩, g2⟩
theorem aSt_inj {ρ ρ' : List Int} : ∀ {as bs : List aV} {x y x' y' : List Value}, aSt ρ as x → aSt ρ' bs x' → as.length = bs.length → x ++ y = x' ++ y' → x = x' ∧ y = y' := fun h1 h2 hl e => List.append_inj e (by rw [h1.len, h2.len, hl])
theorem amN_ok {W : aW} {G : aG} {n : Nat} {S : aS} {N : aN} {ms : Option aMs} {ρ : List Int} {cl : zL} {cst : List Value} {h : zH} (hs : amN W n S N ms = true) (hE : aE W S.1 ρ) (hl : aLo ρ S.2.1 cl) (hst : aSt ρ S.2.2.1 cst) (hH : aH W G ρ S.2.2.2 h) : ∃ ρc, aext (ρ.take n) ρc ∧ aE W N.2.1 ρc ∧ aLo ρc N.2.2.1 cl ∧ aSt ρc N.2.2.2.1 cst ∧ aH W G ρc N.2.2.2.2.1 h ∧ ∀ m0, ms = some m0 → ∃ ρ', aext ρ ρ' ∧ amv ρc N.2.2.2.2.2 < amv ρ' m0 := by
  unfold amN at hs
  split at hs
  · next l hlp =>
    cases hb : Nat.beq N.2.2.2.1.length S.2.2.1.length with
    | false => rw [hb] at hs; cases hs
    | true =>
      rw [hb] at hs
      dsimp only [cond_true] at hs
      split at hs
      · next A hA =>
        obtain ⟨E', m', σ⟩ := A
        obtain ⟨vs, v1, v2⟩ := alp_ok hl _ _ hlp
        obtain ⟨z1, z2⟩ := azip1 _ _ (Nat.eq_of_beq_eq_true hb)
        obtain ⟨ρ', ρc, x1, x2, x3, x4, x5, x6, x7, x8⟩ := amt_ok (G := G) (h := h) (vs := vs ++ cst) hA hE hH (by
          rw [List.map_append, z2]
          exact aSt.app hst v1)
        rw [List.map_append, z1] at x7
        obtain ⟨a, b, e, g1, g2⟩ := aSt_split x7
        obtain ⟨e1, e2⟩ := aSt_inj v1 g1 (by simp) e
        subst e1 e2
        refine ⟨ρc, x6, x5, v2 ρc g1, g2, x8, fun m0 hm => ?_⟩
        subst hm
        exact ⟨ρ', x1, alt_ok x2 x4 hs⟩
      · cases hs
  · cases hs
