/-! goes, by hand: the knots of a law, one by one. -/
def qgP : aP := (qY, zIT, zmcl, qW, qPt, qc94.2.2.2.2.1)
def qgo (N : aN) (n pc : Nat) (S : aS) : Bool := match zMt 186 with
  | some w => match arun qgP (acals qgP zMt qKA qK0 (0, []) 6) (fun pc S' => Nat.beq pc 12 && amN qW n S' N none) w.1 w.2.2.1 w.2.2.2.1 w.2.2.2.2 300 true pc S with
    | some xs => xs.all (axck qW qc94)
    | none => false
  | none => false
theorem qgD : ∀ d ∈ qc94.2.2.2.2.1, d.2.1 = 0 := fun d hd => Nat.eq_of_beq_eq_true (List.all_eq_true.mp (show qc94.2.2.2.2.1.all (fun d => Nat.beq d.2.1 0) = true by decide +kernel) d hd)
theorem atake2 {ρ ρ' : List Int} {n : Nat} (h : aext ρ ρ') (hn : n ≤ ρ.length) : ρ'.take n = ρ.take n := by
  obtain ⟨e, rfl⟩ := h
  rw [List.take_append_of_le_length hn]
theorem qgo_ok {X : zX} {B : Nat} {N : aN} {n pc : Nat} {S : aS} {ρ0 ρ : List Int} {h0 h : zH} {cl : zL} {cst : List Value} {c nL : Nat} {ini : Bool} {rt : Option FieldType} {tab : Nat → Option (Instr × Nat)} (hX : aXX qY X) (hKA : ∀ (mi : Nat) (q : aQ), q ∈ qKA mi → q.1 = mi ∧ aCon qW qG (zEv X zIT zmcl zMt B) q (fun _ => True)) (hm : zMt 186 = some (c, ini, nL, rt, tab)) (chk : qgo N n pc S = true) (hl0 : ρ0.length = (aent qc94).length) (hx : aext ρ0 ρ) (hn : n ≤ ρ.length) (hR : aRel qW qG qc94.2.2.2.2.1 h0 ρ S cl cst h)
    (rest : ∀ (ρc : List Int) (cl' : zL) (cst' : List Value) (h' : zH), aext (ρ.take n) ρc → aE qW N.2.1 ρc → aLo ρc N.2.2.1 cl' → aSt ρc N.2.2.2.1 cst' → aH qW qG ρc N.2.2.2.2.1 h' → aF qW qG ρ0 qc94.2.2.2.2.1 h0 h' → ∃ (k : Nat) (r : Option Value) (h'' : zH), zRun X zIT zmcl (zEv X zIT zmcl zMt (6 + B)) c ini nL rt tab k 12 cl' cst' h' r h'' ∧ aEnd qW qG qc94.2.2.2.2.1 ρ0 h0 (aent qc94) qc94.2.2.2.1 r h'') : ∃ (k : Nat) (r : Option Value) (h'' : zH), zRun X zIT zmcl (zEv X zIT zmcl zMt (6 + B)) c ini nL rt tab k pc cl cst h r h'' ∧ aEnd qW qG qc94.2.2.2.2.1 ρ0 h0 (aent qc94) qc94.2.2.2.1 r h'' := by
  unfold qgo at chk
  rw [hm] at chk
  dsimp only at chk
  split at chk
  · next xs hxs =>
    have hcal := acals_dp (h0 := h0) (D := qc94.2.2.2.2.1) (ms0 := (0, [])) (ρ0 := ρ) hX qGok qL (fun t ht => by cases ht) hKA (Kn := qK0) (fun mi q hq => by cases hq) 6
    have hD : ∀ d ∈ qc94.2.2.2.2.1, d.2.1 = 0 ∨ d.2.2.1 < ρ0.length := fun d hd => Or.inl (qgD d hd)
    obtain ⟨k, r, h', e1, e2⟩ := arun_ok (ini := ini) (Q := aext ρ) (Post := fun r h' => aEnd qW qG qc94.2.2.2.2.1 ρ0 h0 (aent qc94) qc94.2.2.2.1 r h') hX qGok qL (fun _ _ a b => a.trans b) hcal (fun pc' S' ρ' cl' cst' h' hnt hq' hR' => by
      rw [Bool.and_eq_true] at hnt
      obtain ⟨ρc, y1, y2, y3, y4, y5, -⟩ := amN_ok (G := qG) hnt.2 hR'.1 hR'.2.1 hR'.2.2.1 hR'.2.2.2.1
      rw [atake2 hq' hn] at y1
      have hF0 := aF_dn (hx.trans hq') hD hR'.2.2.2.2
      obtain ⟨k, r, h2, g1, g2⟩ := rest ρc cl' cst' h' y1 y2 y3 y4 y5 hF0
      rw [Nat.eq_of_beq_eq_true hnt.1]
      exact ⟨k, r, h2, g1, g2⟩) 300 true pc S xs ρ cl cst h hxs aext.rf hR
    refine ⟨k, r, h', e1, ?_⟩
    rcases e2 with e2 | e2
    · exact axck_ok hl0 hD hx chk e2
    · exact e2
  · cases chk
/-! The states at the loop's head. -/
def qgE (tk th ta tb row : aY) : List aY := [(0, 0, 0), (2, 49, 49), (0, 0, 2), tk, th, (2, 66, 66), (2, 67, 67), (2, 68, 68), (0, 0, 64), ta, tb, row]
def qgm : aM := [((7, 3, 0), .inl (10, 0)), ((6, 3, 0), .inl (9, 0)), ((5, 2, 0), .inl (8, 0)), ((1, 0, 20), .inr (.inr (.inl 7))), ((1, 0, 19), .inr (.inr (.inl 6))), ((1, 0, 18), .inr (.inr (.inl 5))), ((1, 0, 36), .inl (4, 0))]
def qge : aM := [((5, 2, 0), .inl (8, 0)), ((1, 0, 18), .inr (.inr (.inl 5))), ((1, 0, 36), .inl (4, 0))]
def qgl : aLs := [(0, .inr (.inr (.inl 1))), (1, .inl (2, 0)), (2, .inl (3, 0))]
def qgN (d : Int) : aN := (12, [(0, 0, 0), (2, 49, 49), (0, 0, 2), (0, 0, 63), (0, 0, 64)], [(0, .inr (.inr (.inl 1))), (1, .inl (2, 0)), (2, .inl (3, 1))], [], [((1, 0, 36), .inl (4, d))], (0, []))
def qgN0 : aN := (12, [(0, 0, 0), (2, 49, 49), (0, 0, 2), (2, 65, 65), (0, 0, 64)], [(0, .inr (.inr (.inl 1))), (1, .inl (2, 0)), (2, .inl (4, 0))], [], [((1, 0, 36), .inl (0, 0))], (0, []))
theorem qgA : qgo (qgN 1) 5 12 (qgE (0, 0, 63) (0, 0, 63) (0, 0, 0) (0, -2147483648, 2147483647) (7, 8, 1), qgl, [], qgm) = true := by decide +kernel
theorem qgB : qgo (qgN 1) 5 12 (qgE (0, 0, 63) (0, 0, 63) (0, 1, 1) (0, 0, 6) (7, 8, 1), qgl, [], qgm) = true := by decide +kernel
theorem qgC : qgo (qgN 0) 5 12 (qgE (0, 0, 63) (0, 1, 64) (0, 2, 2) (0, 260, 260) (7, 8, 1), qgl, [], qgm) = true := by decide +kernel
theorem qgDd : qgo (qgN (-1)) 5 12 (qgE (0, 0, 63) (0, 2, 64) (0, 2, 2) (0, -2147483648, 259) (7, 8, 1), qgl, [], qgm) = true := by decide +kernel
theorem qgEe : qgo (qgN (-1)) 5 12 (qgE (0, 0, 63) (0, 2, 64) (0, 2, 2) (0, 261, 2147483647) (7, 8, 1), qgl, [], qgm) = true := by decide +kernel
/-- a note that nothing meets -/
def qgX : aN := (12, [(3, 0, 0)], [], [], [], (0, []))
theorem qgX_no {ρ : List Int} (h : aE qW qgX.2.1 ρ) : False := h.2.2 0 (3, 0, 0) 0 rfl h.2.1
theorem qgZ : qgo qgX 5 12 ([(0, 0, 0), (2, 49, 49), (0, 0, 2), (0, 0, 64), (0, 0, 64), (2, 66, 66), (0, 0, 0), (0, 0, 0), (0, 0, 64), (12, 3, 0)], qgl, [], qge) = true := by decide +kernel
theorem qgS : qgo qgN0 5 0 ([(0, 0, 0), (2, 49, 49), (0, 0, 2), (2, 65, 65), (0, 0, 64)], [(0, .inr (.inr (.inl 1))), (1, .inl (2, 0))], [], [((3, 2, 0), .inl (4, 0)), ((1, 0, 17), .inr (.inr (.inl 3)))]) = true := by decide +kernel
/-- a heap of which one place alone is known -/
def aH1 (h : zH) (a0 k0 : Nat) (x : Int32) : Prop := aSh qW h ∧ (∀ a k : Nat, a < qW.1.length → k < apn (afm qW (asrt qW a)) → ∃ v : Value, rdx qG h a k = some v ∧ (avt qW (apl (afm qW (asrt qW a)) k) v ∨ (a = a0 ∧ k = k0))) ∧ a0 < qW.1.length ∧ k0 < apn (afm qW (asrt qW a0)) ∧ rdx qG h a0 k0 = some (.int x)
theorem aH1_of {ρ : List Int} {q : aK} {s : Nat} {c : Int} {h : zH} {a0 k0 : Nat} {x : Int32} (hH : aH qW qG ρ [(q, .inl (s, c))] h) (hd : aden ρ q a0 k0) (hx : ai ρ s c x) : aH1 h a0 k0 x := by
  obtain ⟨a, k, v, g1, g2, g3, g4, g5⟩ := hH.2.2 _ List.mem_cons_self
  obtain ⟨rfl, rfl⟩ := hd.inj g1
  obtain ⟨y, y1, rfl⟩ := g5
  rw [y1.inj hx] at g4
  refine ⟨hH.1, fun a' k' ha hk => ?_, g2, g3, g4⟩
  obtain ⟨w, w1, w2⟩ := hH.2.1 a' k' ha hk
  refine ⟨w, w1, ?_⟩
  rcases w2 with w2 | ⟨e, he, w2⟩
  · exact Or.inl w2
  · rcases List.mem_cons.mp he with rfl | he
    · obtain ⟨e1, e2⟩ := hd.inj w2
      exact Or.inr ⟨e1.symm, e2.symm⟩
    · cases he
theorem aH1.to {ρ : List Int} {q : aK} {s : Nat} {c : Int} {h : zH} {a0 k0 : Nat} {x : Int32} (hH : aH1 h a0 k0 x) (hd : aden ρ q a0 k0) (hx : ai ρ s c x) : aH qW qG ρ [(q, .inl (s, c))] h := by
  obtain ⟨h1, h2, h3, h4, h5⟩ := hH
  refine ⟨h1, fun a k ha hk => ?_, fun e he => ?_⟩
  · obtain ⟨w, w1, w2⟩ := h2 a k ha hk
    refine ⟨w, w1, ?_⟩
    rcases w2 with w2 | ⟨rfl, rfl⟩
    · exact Or.inl w2
    · exact Or.inr ⟨_, List.mem_cons_self, hd⟩
  · rcases List.mem_cons.mp he with rfl | he
    · exact ⟨a0, k0, _, hd, h3, h4, h5, ⟨x, hx, rfl⟩⟩
    · cases he
theorem aH1.real {h : zH} {a0 k0 a k : Nat} {x : Int32} (hH : aH1 h a0 k0 x) (ha : a < qW.1.length) (hk : k < (afm qW (asrt qW a)).2.2.1) (hk2 : k < apn (afm qW (asrt qW a))) (hn : ¬ (a = a0 ∧ k = k0)) : ∃ v : Value, rd h a k = some v ∧ avt qW (apl (afm qW (asrt qW a)) k) v := by
  obtain ⟨v, g1, g2⟩ := hH.2.1 a k ha hk2
  rw [qrdx (qG_real ha hk)] at g1
  refine ⟨v, g1, ?_⟩
  rcases g2 with g2 | g2
  · exact g2
  · exact absurd g2 hn
theorem aH1.int {h : zH} {a0 k0 a k : Nat} {x : Int32} {l u : Int} (hH : aH1 h a0 k0 x) (ha : a < qW.1.length) (hk : k < (afm qW (asrt qW a)).2.2.1) (hk2 : k < apn (afm qW (asrt qW a))) (hn : ¬ (a = a0 ∧ k = k0)) (ht : apl (afm qW (asrt qW a)) k = (0, l, u)) : ∃ y : Int32, rd h a k = some (.int y) ∧ l ≤ y.toInt ∧ y.toInt ≤ u := by
  obtain ⟨v, g1, g2⟩ := hH.real ha hk hk2 hn
  rw [ht] at g2
  obtain ⟨y, rfl, y1⟩ := g2
  exact ⟨y, g1, y1⟩
theorem aH1.ref {h : zH} {a0 k0 a k so c : Nat} {x : Int32} (hH : aH1 h a0 k0 x) (ha : a < qW.1.length) (hk : k < (afm qW (asrt qW a)).2.2.1) (hk2 : k < apn (afm qW (asrt qW a))) (hn : ¬ (a = a0 ∧ k = k0)) (ht : apl (afm qW (asrt qW a)) k = (2, (so : Int), (so : Int))) (hu : ∀ a : Nat, a < qW.1.length → (asrt qW a : Int) = (so : Int) → a = c) : rd h a k = some (.ref c) := by
  obtain ⟨v, g1, g2⟩ := hH.real ha hk hk2 hn
  rw [ht] at g2
  obtain ⟨n, rfl, n1, n2⟩ := (show ∃ n : Nat, v = .ref n ∧ n < qW.1.length ∧ ((asrt qW n : Int) = (so : Int) ∨ (asrt qW n : Int) = (so : Int)) from g2)
  rw [g1, hu n n1 (n2.elim id id)]
theorem qhn_pre {F : qF} {o b : Nat} (n : Nat) : ∀ (m X : Nat), qhn F o b (n + m) = some X → ∃ Y, qhn F o b n = some Y
  | 0, X, h => ⟨X, h⟩
  | m + 1, X, h => by
    have h : (match qhn F o b (n + m) with
      | some H => qst (F 146 (o + (b + (n + m)))) (F 147 (o + (b + (n + m)))) H
      | none => none) = some X := h
    cases hz : qhn F o b (n + m) with
    | none => rw [hz] at h; cases h
    | some Y => exact qhn_pre n m Y hz
theorem qst_inv {s v : Int} {H H' : Nat} (h : qst s v H = some H') : (s = 0 ∧ H' = H + 1) ∨ (s = 1 ∧ 0 ≤ v ∧ v ≤ 6 ∧ H' = H + 1) ∨ (s = 2 ∧ v = 260 ∧ 1 ≤ H ∧ H' = H) ∨ (s = 2 ∧ ¬ v = 260 ∧ 2 ≤ H ∧ H' + 1 = H) := by
  unfold qst at h
  cases h1 : ieq s 0 with
  | true => rw [h1] at h; cases h; exact Or.inl ⟨ieq_ok h1, rfl⟩
  | false =>
    rw [h1] at h
    cases h2 : ieq s 1 with
    | true =>
      rw [h2] at h
      cases h3 : (ile 0 v && ile v 6) with
      | true =>
        rw [h3] at h
        cases h
        rw [Bool.and_eq_true] at h3
        exact Or.inr (Or.inl ⟨ieq_ok h2, ile_iff.mp h3.1, ile_iff.mp h3.2, rfl⟩)
      | false => rw [h3] at h; cases h
    | false =>
      rw [h2] at h
      cases h3 : ieq s 2 with
      | false => rw [h3] at h; cases h
      | true =>
        rw [h3] at h
        cases h4 : ieq v 260 with
        | true =>
          rw [h4] at h
          cases h5 : Nat.ble 1 H with
          | true => rw [h5] at h; cases h; exact Or.inr (Or.inr (Or.inl ⟨ieq_ok h3, ieq_ok h4, Nat.le_of_ble_eq_true h5, rfl⟩))
          | false => rw [h5] at h; cases h
        | false =>
          rw [h4] at h
          cases h5 : Nat.ble 2 H with
          | true =>
            rw [h5] at h
            cases h
            have := Nat.le_of_ble_eq_true h5
            refine Or.inr (Or.inr (Or.inr ⟨ieq_ok h3, fun e => ?_, this, by omega⟩))
            rw [e, ieq_rf] at h4
            cases h4
          | false => rw [h5] at h; cases h
/-- what goes writes leaves the protected places -/
theorem qg_qv {ρ0 : List Int} {h0 h : zH} (hF : aF qW qG ρ0 qc94.2.2.2.2.1 h0 h) : qv h = qv h0 := by
  funext a k
  unfold qv
  cases hp : qpr a k with
  | false => rfl
  | true =>
    have key : a < qW.1.length → k < (afm qW (asrt qW a)).2.2.1 → k < apn (afm qW (asrt qW a)) → (∀ d ∈ qc94.2.2.2.2.1, ¬ amd qW ρ0 d a k) → qi h a k = qi h0 a k := fun ha hk hk2 hd => by
      have := hF.2 a k ha hk2 hd
      rw [qrdx (qG_real ha hk), qrdx (qG_real ha hk)] at this
      unfold qi
      rw [this]
    show qi h a k = qi h0 a k
    have nd : ∀ s : Nat, asrt qW a = s → ¬ s = 70 → ¬ (s = 49 ∧ k = 36) → ∀ d ∈ qc94.2.2.2.2.1, ¬ amd qW ρ0 d a k := fun s hs h1 h2 d hd hm => by
      rcases List.mem_cons.mp hd with rfl | hd
      · have m1 : asrt qW a = 49 := hm.1
        have m2 : (36 : Int) ≤ k ∧ (k : Int) ≤ 36 := hm.2
        exact h2 ⟨by omega, by omega⟩
      · rcases List.mem_cons.mp hd with rfl | hd
        · have m1 : asrt qW a = 70 := hm.1
          omega
        · cases hd
    unfold qpr at hp
    simp only [Bool.or_eq_true, Bool.and_eq_true] at hp
    rcases hp with ⟨q1, q2 | q2⟩ | ⟨q1, q2⟩ | ⟨q1, q2 | q2 | q2⟩ | ⟨q1, q2⟩ | ⟨q1, q2⟩ | ⟨q1, q2⟩ | ⟨q1, q2⟩ | ⟨q1, q2⟩
    · have e1 := Nat.eq_of_beq_eq_true q1; have e2 := Nat.eq_of_beq_eq_true q2; subst e1 e2
      exact key (by decide +kernel) (by decide +kernel) (by decide +kernel) (nd 2 (by decide +kernel) (by decide) (by decide))
    · have e1 := Nat.eq_of_beq_eq_true q1; have e2 := Nat.eq_of_beq_eq_true q2; subst e1 e2
      exact key (by decide +kernel) (by decide +kernel) (by decide +kernel) (nd 2 (by decide +kernel) (by decide) (by decide))
    · have e1 := Nat.eq_of_beq_eq_true q1; have e2 := Nat.le_of_ble_eq_true q2; subst e1
      exact key (by decide +kernel) (show k < 72 by omega) (show k < 72 by omega) (nd 6 (by decide +kernel) (by decide) (by omega))
    · have e1 := Nat.eq_of_beq_eq_true q1; have e2 := Nat.eq_of_beq_eq_true q2; subst e1 e2
      exact key (by decide +kernel) (by decide +kernel) (by decide +kernel) (nd 49 (by decide +kernel) (by decide) (by decide))
    · have e1 := Nat.eq_of_beq_eq_true q1; have e2 := Nat.eq_of_beq_eq_true q2; subst e1 e2
      exact key (by decide +kernel) (by decide +kernel) (by decide +kernel) (nd 49 (by decide +kernel) (by decide) (by decide))
    · have e1 := Nat.eq_of_beq_eq_true q1; have e2 := Nat.eq_of_beq_eq_true q2; subst e1 e2
      exact key (by decide +kernel) (by decide +kernel) (by decide +kernel) (nd 49 (by decide +kernel) (by decide) (by decide))
    · have e1 := Nat.eq_of_beq_eq_true q1; have e2 := Nat.eq_of_beq_eq_true q2; subst e1 e2
      exact key (by decide +kernel) (by decide +kernel) (by decide +kernel) (nd 51 (by decide +kernel) (by decide) (by decide))
    · have e1 := Nat.eq_of_beq_eq_true q1; have e2 := Nat.le_of_ble_eq_true q2; subst e1
      exact key (by decide +kernel) (show k < 6 by omega) (show k < 6 by omega) (nd 65 (by decide +kernel) (by decide) (by omega))
    · have e1 := Nat.eq_of_beq_eq_true q1; have e2 := Nat.le_of_ble_eq_true q2; subst e1
      exact key (by decide +kernel) (show k < 6 by omega) (show k < 6 by omega) (nd 66 (by decide +kernel) (by decide) (by omega))
    · have e1 := Nat.eq_of_beq_eq_true q1; have e2 := Nat.le_of_ble_eq_true q2; subst e1
      exact key (by decide +kernel) (show k < 128 by omega) (show k < 128 by omega) (nd 67 (by decide +kernel) (by decide) (by omega))
    · have e1 := Nat.eq_of_beq_eq_true q1; have e2 := Nat.le_of_ble_eq_true q2; subst e1
      exact key (by decide +kernel) (show k < 128 by omega) (show k < 128 by omega) (nd 68 (by decide +kernel) (by decide) (by omega))
