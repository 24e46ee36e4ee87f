/-! Joined: 81.qgoes, 82.qloop, 85.qall, 85b.exact, 85c.exact, 86a.sym. -/
section
/-! goes, by hand: the knots of a law, one by one. -/
def qgP : aP := (qY, zIT, zmcl, qW, qPt, qc94.2.2.2.2.1)
def qgo (N : aN) (n pc : Nat) (S : aS) : Bool := match zMt 186 with
  | some w => match arun qgP (acals qgP zMt qKA qK0 (0, []) 6) (fun pc S' => Nat.beq pc 12 && amN qW n S' N none) w.1 w.2.2.1 w.2.2.2.1 w.2.2.2.2 300 true pc S with
    | some xs => xs.all (axck qW qc94)
    | none => false
  | none => false
theorem qgD : ∀ d ∈ qc94.2.2.2.2.1, d.2.1 = 0 := fun d hd => Nat.eq_of_beq_eq_true (List.all_eq_true.mp (show qc94.2.2.2.2.1.all (fun d => Nat.beq d.2.1 0) = true by decide +kernel) d hd)
theorem atake2 {ρ ρ' : List Int} {n : Nat} (h : aext ρ ρ') (hn : n ≤ ρ.length) : ρ'.take n = ρ.take n := by
  obtain ⟨e, rfl⟩ := h
  rw [List.take_append_of_le_length hn]
theorem qgo_ok {X : zX} {B : Nat} {N : aN} {n pc : Nat} {S : aS} {ρ0 ρ : List Int} {h0 h : zH} {cl : zL} {cst : List Value} {c nL : Nat} {ini : Bool} {rt : Option FieldType} {tab : Nat → Option (Instr × Nat)} (hX : aXX qY X) (hKA : ∀ (mi : Nat) (q : aQ), q ∈ qKA mi → q.1 = mi ∧ aCon qW qG (zEv X zIT zmcl zMt B) q (fun _ => True)) (hm : zMt 186 = some (c, ini, nL, rt, tab)) (chk : qgo N n pc S = true) (hl0 : ρ0.length = (aent qc94).length) (hx : aext ρ0 ρ) (hn : n ≤ ρ.length) (hR : aRel qW qG qc94.2.2.2.2.1 h0 ρ S cl cst h)
    (rest : ∀ (ρc : List Int) (cl' : zL) (cst' : List Value) (h' : zH), aext (ρ.take n) ρc → aE qW N.2.1 ρc → aLo ρc N.2.2.1 cl' → aSt ρc N.2.2.2.1 cst' → aH qW qG ρc N.2.2.2.2.1 h' → aF qW qG ρ0 qc94.2.2.2.2.1 h0 h' → ∃ (k : Nat) (r : Option Value) (h'' : zH), zRun X zIT zmcl (zEv X zIT zmcl zMt (6 + B)) c ini nL rt tab k 12 cl' cst' h' r h'' ∧ aEnd qW qG qc94.2.2.2.2.1 ρ0 h0 (aent qc94) qc94.2.2.2.1 r h'') : ∃ (k : Nat) (r : Option Value) (h'' : zH), zRun X zIT zmcl (zEv X zIT zmcl zMt (6 + B)) c ini nL rt tab k pc cl cst h r h'' ∧ aEnd qW qG qc94.2.2.2.2.1 ρ0 h0 (aent qc94) qc94.2.2.2.1 r h'' := by
  unfold qgo at chk
  rw [hm] at chk
  dsimp only at chk
  split at chk
  · next xs hxs =>
    have hcal := acals_dp (h0 := h0) (D := qc94.2.2.2.2.1) (ms0 := (0, [])) (ρ0 := ρ) hX qGok qL (fun t ht => by cases ht) hKA (Kn := qK0) (fun mi q hq => by cases hq) 6
    have hD : ∀ d ∈ qc94.2.2.2.2.1, d.2.1 = 0 ∨ d.2.2.1 < ρ0.length := fun d hd => Or.inl (qgD d hd)
    obtain ⟨k, r, h', e1, e2⟩ := arun_ok (ini := ini) (Q := aext ρ) (Post := fun r h' => aEnd qW qG qc94.2.2.2.2.1 ρ0 h0 (aent qc94) qc94.2.2.2.1 r h') hX qGok qL (fun _ _ a b => a.trans b) hcal (fun pc' S' ρ' cl' cst' h' hnt hq' hR' => by
      rw [Bool.and_eq_true] at hnt
      obtain ⟨ρc, y1, y2, y3, y4, y5, -⟩ := amN_ok (G := qG) hnt.2 hR'.1 hR'.2.1 hR'.2.2.1 hR'.2.2.2.1
      rw [atake2 hq' hn] at y1
      have hF0 := aF_dn (hx.trans hq') hD hR'.2.2.2.2
      obtain ⟨k, r, h2, g1, g2⟩ := rest ρc cl' cst' h' y1 y2 y3 y4 y5 hF0
      rw [Nat.eq_of_beq_eq_true hnt.1]
      exact ⟨k, r, h2, g1, g2⟩) 300 true pc S xs ρ cl cst h hxs aext.rf hR
    refine ⟨k, r, h', e1, ?_⟩
    rcases e2 with e2 | e2
    · exact axck_ok hl0 hD hx chk e2
    · exact e2
  · cases chk
/-! The states at the loop's head. -/
def qgE (tk th ta tb row : aY) : List aY := [(0, 0, 0), (2, 49, 49), (0, 0, 2), tk, th, (2, 66, 66), (2, 67, 67), (2, 68, 68), (0, 0, 64), ta, tb, row]
def qgm : aM := [((7, 3, 0), .inl (10, 0)), ((6, 3, 0), .inl (9, 0)), ((5, 2, 0), .inl (8, 0)), ((1, 0, 20), .inr (.inr (.inl 7))), ((1, 0, 19), .inr (.inr (.inl 6))), ((1, 0, 18), .inr (.inr (.inl 5))), ((1, 0, 36), .inl (4, 0))]
def qge : aM := [((5, 2, 0), .inl (8, 0)), ((1, 0, 18), .inr (.inr (.inl 5))), ((1, 0, 36), .inl (4, 0))]
def qgl : aLs := [(0, .inr (.inr (.inl 1))), (1, .inl (2, 0)), (2, .inl (3, 0))]
def qgN (d : Int) : aN := (12, [(0, 0, 0), (2, 49, 49), (0, 0, 2), (0, 0, 63), (0, 0, 64)], [(0, .inr (.inr (.inl 1))), (1, .inl (2, 0)), (2, .inl (3, 1))], [], [((1, 0, 36), .inl (4, d))], (0, []))
def qgN0 : aN := (12, [(0, 0, 0), (2, 49, 49), (0, 0, 2), (2, 65, 65), (0, 0, 64)], [(0, .inr (.inr (.inl 1))), (1, .inl (2, 0)), (2, .inl (4, 0))], [], [((1, 0, 36), .inl (0, 0))], (0, []))
theorem qgA : qgo (qgN 1) 5 12 (qgE (0, 0, 63) (0, 0, 63) (0, 0, 0) (0, -2147483648, 2147483647) (7, 8, 1), qgl, [], qgm) = true := by decide +kernel
theorem qgB : qgo (qgN 1) 5 12 (qgE (0, 0, 63) (0, 0, 63) (0, 1, 1) (0, 0, 6) (7, 8, 1), qgl, [], qgm) = true := by decide +kernel
theorem qgC : qgo (qgN 0) 5 12 (qgE (0, 0, 63) (0, 1, 64) (0, 2, 2) (0, 260, 260) (7, 8, 1), qgl, [], qgm) = true := by decide +kernel
theorem qgDd : qgo (qgN (-1)) 5 12 (qgE (0, 0, 63) (0, 2, 64) (0, 2, 2) (0, -2147483648, 259) (7, 8, 1), qgl, [], qgm) = true := by decide +kernel
theorem qgEe : qgo (qgN (-1)) 5 12 (qgE (0, 0, 63) (0, 2, 64) (0, 2, 2) (0, 261, 2147483647) (7, 8, 1), qgl, [], qgm) = true := by decide +kernel
/-- a note that nothing meets -/
def qgX : aN := (12, [(3, 0, 0)], [], [], [], (0, []))
theorem qgX_no {ρ : List Int} (h : aE qW qgX.2.1 ρ) : False := h.2.2 0 (3, 0, 0) 0 rfl h.2.1
theorem qgZ : qgo qgX 5 12 ([(0, 0, 0), (2, 49, 49), (0, 0, 2), (0, 0, 64), (0, 0, 64), (2, 66, 66), (0, 0, 0), (0, 0, 0), (0, 0, 64), (12, 3, 0)], qgl, [], qge) = true := by decide +kernel
theorem qgS : qgo qgN0 5 0 ([(0, 0, 0), (2, 49, 49), (0, 0, 2), (2, 65, 65), (0, 0, 64)], [(0, .inr (.inr (.inl 1))), (1, .inl (2, 0))], [], [((3, 2, 0), .inl (4, 0)), ((1, 0, 17), .inr (.inr (.inl 3)))]) = true := by decide +kernel
/-- a heap of which one place alone is known -/
def aH1 (h : zH) (a0 k0 : Nat) (x : Int32) : Prop := aSh qW h ∧ (∀ a k : Nat, a < qW.1.length → k < apn (afm qW (asrt qW a)) → ∃ v : Value, rdx qG h a k = some v ∧ (avt qW (apl (afm qW (asrt qW a)) k) v ∨ (a = a0 ∧ k = k0))) ∧ a0 < qW.1.length ∧ k0 < apn (afm qW (asrt qW a0)) ∧ rdx qG h a0 k0 = some (.int x)
theorem aH1_of {ρ : List Int} {q : aK} {s : Nat} {c : Int} {h : zH} {a0 k0 : Nat} {x : Int32} (hH : aH qW qG ρ [(q, .inl (s, c))] h) (hd : aden ρ q a0 k0) (hx : ai ρ s c x) : aH1 h a0 k0 x := by
  obtain ⟨a, k, v, g1, g2, g3, g4, g5⟩ := hH.2.2 _ List.mem_cons_self
  obtain ⟨rfl, rfl⟩ := hd.inj g1
  obtain ⟨y, y1, rfl⟩ := g5
  rw [y1.inj hx] at g4
  refine ⟨hH.1, fun a' k' ha hk => ?_, g2, g3, g4⟩
  obtain ⟨w, w1, w2⟩ := hH.2.1 a' k' ha hk
  refine ⟨w, w1, ?_⟩
  rcases w2 with w2 | ⟨e, he, w2⟩
  · exact Or.inl w2
  · rcases List.mem_cons.mp he with rfl | he
    · obtain ⟨e1, e2⟩ := hd.inj w2
      exact Or.inr ⟨e1.symm, e2.symm⟩
    · cases he
theorem aH1.to {ρ : List Int} {q : aK} {s : Nat} {c : Int} {h : zH} {a0 k0 : Nat} {x : Int32} (hH : aH1 h a0 k0 x) (hd : aden ρ q a0 k0) (hx : ai ρ s c x) : aH qW qG ρ [(q, .inl (s, c))] h := by
  obtain ⟨h1, h2, h3, h4, h5⟩ := hH
  refine ⟨h1, fun a k ha hk => ?_, fun e he => ?_⟩
  · obtain ⟨w, w1, w2⟩ := h2 a k ha hk
    refine ⟨w, w1, ?_⟩
    rcases w2 with w2 | ⟨rfl, rfl⟩
    · exact Or.inl w2
    · exact Or.inr ⟨_, List.mem_cons_self, hd⟩
  · rcases List.mem_cons.mp he with rfl | he
    · exact ⟨a0, k0, _, hd, h3, h4, h5, ⟨x, hx, rfl⟩⟩
    · cases he
theorem aH1.real {h : zH} {a0 k0 a k : Nat} {x : Int32} (hH : aH1 h a0 k0 x) (ha : a < qW.1.length) (hk : k < (afm qW (asrt qW a)).2.2.1) (hk2 : k < apn (afm qW (asrt qW a))) (hn : ¬ (a = a0 ∧ k = k0)) : ∃ v : Value, rd h a k = some v ∧ avt qW (apl (afm qW (asrt qW a)) k) v := by
  obtain ⟨v, g1, g2⟩ := hH.2.1 a k ha hk2
  rw [qrdx (qG_real ha hk)] at g1
  refine ⟨v, g1, ?_⟩
  rcases g2 with g2 | g2
  · exact g2
  · exact absurd g2 hn
theorem aH1.int {h : zH} {a0 k0 a k : Nat} {x : Int32} {l u : Int} (hH : aH1 h a0 k0 x) (ha : a < qW.1.length) (hk : k < (afm qW (asrt qW a)).2.2.1) (hk2 : k < apn (afm qW (asrt qW a))) (hn : ¬ (a = a0 ∧ k = k0)) (ht : apl (afm qW (asrt qW a)) k = (0, l, u)) : ∃ y : Int32, rd h a k = some (.int y) ∧ l ≤ y.toInt ∧ y.toInt ≤ u := by
  obtain ⟨v, g1, g2⟩ := hH.real ha hk hk2 hn
  rw [ht] at g2
  obtain ⟨y, rfl, y1⟩ := g2
  exact ⟨y, g1, y1⟩
theorem aH1.ref {h : zH} {a0 k0 a k so c : Nat} {x : Int32} (hH : aH1 h a0 k0 x) (ha : a < qW.1.length) (hk : k < (afm qW (asrt qW a)).2.2.1) (hk2 : k < apn (afm qW (asrt qW a))) (hn : ¬ (a = a0 ∧ k = k0)) (ht : apl (afm qW (asrt qW a)) k = (2, (so : Int), (so : Int))) (hu : ∀ a : Nat, a < qW.1.length → (asrt qW a : Int) = (so : Int) → a = c) : rd h a k = some (.ref c) := by
  obtain ⟨v, g1, g2⟩ := hH.real ha hk hk2 hn
  rw [ht] at g2
  obtain ⟨n, rfl, n1, n2⟩ := (show ∃ n : Nat, v = .ref n ∧ n < qW.1.length ∧ ((asrt qW n : Int) = (so : Int) ∨ (asrt qW n : Int) = (so : Int)) from g2)
  rw [g1, hu n n1 (n2.elim id id)]
theorem qhn_pre {F : qF} {o b : Nat} (n : Nat) : ∀ (m X : Nat), qhn F o b (n + m) = some X → ∃ Y, qhn F o b n = some Y
  | 0, X, h => ⟨X, h⟩
  | m + 1, X, h => by
    have h : (match qhn F o b (n + m) with
      | some H => qst (F 146 (o + (b + (n + m)))) (F 147 (o + (b + (n + m)))) H
      | none => none) = some X := h
    cases hz : qhn F o b (n + m) with
    | none => rw [hz] at h; cases h
    | some Y => exact qhn_pre n m Y hz
theorem qst_inv {s v : Int} {H H' : Nat} (h : qst s v H = some H') : (s = 0 ∧ H' = H + 1) ∨ (s = 1 ∧ 0 ≤ v ∧ v ≤ 6 ∧ H' = H + 1) ∨ (s = 2 ∧ v = 260 ∧ 1 ≤ H ∧ H' = H) ∨ (s = 2 ∧ ¬ v = 260 ∧ 2 ≤ H ∧ H' + 1 = H) := by
  unfold qst at h
  cases h1 : ieq s 0 with
  | true => rw [h1] at h; cases h; exact Or.inl ⟨ieq_ok h1, rfl⟩
  | false =>
    rw [h1] at h
    cases h2 : ieq s 1 with
    | true =>
      rw [h2] at h
      cases h3 : (ile 0 v && ile v 6) with
      | true =>
        rw [h3] at h
        cases h
        rw [Bool.and_eq_true] at h3
        exact Or.inr (Or.inl ⟨ieq_ok h2, ile_iff.mp h3.1, ile_iff.mp h3.2, rfl⟩)
      | false => rw [h3] at h; cases h
    | false =>
      rw [h2] at h
      cases h3 : ieq s 2 with
      | false => rw [h3] at h; cases h
      | true =>
        rw [h3] at h
        cases h4 : ieq v 260 with
        | true =>
          rw [h4] at h
          cases h5 : Nat.ble 1 H with
          | true => rw [h5] at h; cases h; exact Or.inr (Or.inr (Or.inl ⟨ieq_ok h3, ieq_ok h4, Nat.le_of_ble_eq_true h5, rfl⟩))
          | false => rw [h5] at h; cases h
        | false =>
          rw [h4] at h
          cases h5 : Nat.ble 2 H with
          | true =>
            rw [h5] at h
            cases h
            have := Nat.le_of_ble_eq_true h5
            refine Or.inr (Or.inr (Or.inr ⟨ieq_ok h3, fun e => ?_, this, by omega⟩))
            rw [e, ieq_rf] at h4
            cases h4
          | false => rw [h5] at h; cases h
/-- what goes writes leaves the protected places -/
theorem qg_qv {ρ0 : List Int} {h0 h : zH} (hF : aF qW qG ρ0 qc94.2.2.2.2.1 h0 h) : qv h = qv h0 := by
  funext a k
  unfold qv
  cases hp : qpr a k with
  | false => rfl
  | true =>
    have key : a < qW.1.length → k < (afm qW (asrt qW a)).2.2.1 → k < apn (afm qW (asrt qW a)) → (∀ d ∈ qc94.2.2.2.2.1, ¬ amd qW ρ0 d a k) → qi h a k = qi h0 a k := fun ha hk hk2 hd => by
      have := hF.2 a k ha hk2 hd
      rw [qrdx (qG_real ha hk), qrdx (qG_real ha hk)] at this
      unfold qi
      rw [this]
    show qi h a k = qi h0 a k
    have nd : ∀ s : Nat, asrt qW a = s → ¬ s = 70 → ¬ (s = 49 ∧ k = 36) → ∀ d ∈ qc94.2.2.2.2.1, ¬ amd qW ρ0 d a k := fun s hs h1 h2 d hd hm => by
      rcases List.mem_cons.mp hd with rfl | hd
      · have m1 : asrt qW a = 49 := hm.1
        have m2 : (36 : Int) ≤ k ∧ (k : Int) ≤ 36 := hm.2
        exact h2 ⟨by omega, by omega⟩
      · rcases List.mem_cons.mp hd with rfl | hd
        · have m1 : asrt qW a = 70 := hm.1
          omega
        · cases hd
    unfold qpr at hp
    simp only [Bool.or_eq_true, Bool.and_eq_true] at hp
    rcases hp with ⟨q1, q2 | q2⟩ | ⟨q1, q2⟩ | ⟨q1, q2 | q2 | q2⟩ | ⟨q1, q2⟩ | ⟨q1, q2⟩ | ⟨q1, q2⟩ | ⟨q1, q2⟩ | ⟨q1, q2⟩
    · have e1 := Nat.eq_of_beq_eq_true q1; have e2 := Nat.eq_of_beq_eq_true q2; subst e1 e2
      exact key (by decide +kernel) (by decide +kernel) (by decide +kernel) (nd 2 (by decide +kernel) (by decide) (by decide))
    · have e1 := Nat.eq_of_beq_eq_true q1; have e2 := Nat.eq_of_beq_eq_true q2; subst e1 e2
      exact key (by decide +kernel) (by decide +kernel) (by decide +kernel) (nd 2 (by decide +kernel) (by decide) (by decide))
    · have e1 := Nat.eq_of_beq_eq_true q1; have e2 := Nat.le_of_ble_eq_true q2; subst e1
      exact key (by decide +kernel) (show k < 72 by omega) (show k < 72 by omega) (nd 6 (by decide +kernel) (by decide) (by omega))
    · have e1 := Nat.eq_of_beq_eq_true q1; have e2 := Nat.eq_of_beq_eq_true q2; subst e1 e2
      exact key (by decide +kernel) (by decide +kernel) (by decide +kernel) (nd 49 (by decide +kernel) (by decide) (by decide))
    · have e1 := Nat.eq_of_beq_eq_true q1; have e2 := Nat.eq_of_beq_eq_true q2; subst e1 e2
      exact key (by decide +kernel) (by decide +kernel) (by decide +kernel) (nd 49 (by decide +kernel) (by decide) (by decide))
    · have e1 := Nat.eq_of_beq_eq_true q1; have e2 := Nat.eq_of_beq_eq_true q2; subst e1 e2
      exact key (by decide +kernel) (by decide +kernel) (by decide +kernel) (nd 49 (by decide +kernel) (by decide) (by decide))
    · have e1 := Nat.eq_of_beq_eq_true q1; have e2 := Nat.eq_of_beq_eq_true q2; subst e1 e2
      exact key (by decide +kernel) (by decide +kernel) (by decide +kernel) (nd 51 (by decide +kernel) (by decide) (by decide))
    · have e1 := Nat.eq_of_beq_eq_true q1; have e2 := Nat.le_of_ble_eq_true q2; subst e1
      exact key (by decide +kernel) (show k < 6 by omega) (show k < 6 by omega) (nd 65 (by decide +kernel) (by decide) (by omega))
    · have e1 := Nat.eq_of_beq_eq_true q1; have e2 := Nat.le_of_ble_eq_true q2; subst e1
      exact key (by decide +kernel) (show k < 6 by omega) (show k < 6 by omega) (nd 66 (by decide +kernel) (by decide) (by omega))
    · have e1 := Nat.eq_of_beq_eq_true q1; have e2 := Nat.le_of_ble_eq_true q2; subst e1
      exact key (by decide +kernel) (show k < 128 by omega) (show k < 128 by omega) (nd 67 (by decide +kernel) (by decide) (by omega))
    · have e1 := Nat.eq_of_beq_eq_true q1; have e2 := Nat.le_of_ble_eq_true q2; subst e1
      exact key (by decide +kernel) (show k < 128 by omega) (show k < 128 by omega) (nd 68 (by decide +kernel) (by decide) (by omega))
end
section
/-! goes, by hand: the loop. -/
theorem aE0 : aE qW [(0, 0, 0)] [0] := ⟨rfl, rfl, fun k t z h1 h2 => by
  cases k with
  | zero =>
    cases h1
    cases h2
    exact ⟨Int.le_refl _, Int.le_refl _⟩
  | succ k => cases h1⟩
theorem asR {so c : Nat} {y : Int} (h1 : c < qW.1.length) (h2 : (asrt qW c : Int) = (so : Int)) : asy qW (2, (so : Int), y) (c : Int) := ⟨c, rfl, h1, h2⟩
theorem qrest {ρc : List Int} {s k H H' : Nat} {d : Int} {cl : zL} {cst : List Value} {h : zH} (hx : aext [0, 128, (s : Int), (k : Int), (H : Int)] ρc) (hE : aE qW (qgN d).2.1 ρc) (hl : aLo ρc (qgN d).2.2.1 cl) (hs : aSt ρc (qgN d).2.2.2.1 cst) (hH : aH qW qG ρc (qgN d).2.2.2.2.1 h) (hd : (H' : Int) = (H : Int) + d) : cst = [] ∧ zget cl 0 = some (.ref 128) ∧ zget cl 1 = some (.int (Int32.ofInt (s : Int))) ∧ zget cl 2 = some (.int (Int32.ofInt ((k + 1 : Nat) : Int))) ∧ aH1 h 128 36 (Int32.ofInt (H' : Int)) := by
  have r1 : ρc[1]? = some ((128 : Nat) : Int) := hx.get rfl
  have r2 : ρc[2]? = some (s : Int) := hx.get rfl
  have r3 : ρc[3]? = some (k : Int) := hx.get rfl
  have r4 : ρc[4]? = some (H : Int) := hx.get rfl
  refine ⟨hs, ?_, ?_, ?_, ?_⟩
  · obtain ⟨v, v1, v2⟩ := hl (0, .inr (.inr (.inl 1))) (List.Mem.head _)
    obtain ⟨n, n1, n2⟩ := (show ∃ n : Nat, ρc[1]? = some (n : Int) ∧ v = .ref n from v2)
    rw [r1] at n1
    injection n1 with n1
    have : n = 128 := by omega
    rw [v1, n2, this]
  · obtain ⟨v, v1, v2⟩ := hl (1, .inl (2, 0)) (List.Mem.tail _ (List.Mem.head _))
    obtain ⟨x, ⟨z, z1, z2⟩, x2⟩ := (show ∃ x : Int32, ai ρc 2 0 x ∧ v = .int x from v2)
    rw [r2] at z1
    cases z1
    rw [v1, x2, z2, Int.add_zero]
  · obtain ⟨v, v1, v2⟩ := hl (2, .inl (3, 1)) (List.Mem.tail _ (List.Mem.tail _ (List.Mem.head _)))
    obtain ⟨x, ⟨z, z1, z2⟩, x2⟩ := (show ∃ x : Int32, ai ρc 3 1 x ∧ v = .int x from v2)
    rw [r3] at z1
    cases z1
    rw [v1, x2, z2]
    rfl
  · exact aH1_of (s := 4) (c := d) hH (qden (k := 36) hE (by decide) r1) ⟨(H : Int), r4, by rw [hd]⟩
theorem qloL {ρ : List Int} {s k : Nat} {cl : zL} (r1 : ρ[1]? = some ((128 : Nat) : Int)) (r2 : ρ[2]? = some (s : Int)) (r3 : ρ[3]? = some (k : Int)) (c0 : zget cl 0 = some (.ref 128)) (c1 : zget cl 1 = some (.int (Int32.ofInt (s : Int)))) (c2 : zget cl 2 = some (.int (Int32.ofInt (k : Int)))) : aLo ρ qgl cl := by
  refine qallc ⟨_, c0, ⟨128, r1, rfl⟩⟩ (qallc ⟨_, c1, ⟨_, ⟨(s : Int), r2, rfl⟩, ?_⟩⟩ (qallc ⟨_, c2, ⟨_, ⟨(k : Int), r3, rfl⟩, ?_⟩⟩ qall0))
  · rw [Int.add_zero]
  · rw [Int.add_zero]
theorem qk50 {h : zH} {s : Nat} (hs : s ≤ 2) {H : Int32} (hH : aH1 h 128 36 H) : ∃ tx : Int32, rd h 145 s = some (.int tx) ∧ 0 ≤ tx.toInt ∧ tx.toInt ≤ 64 := hH.int (a := 145) (k := s) (l := 0) (u := 64) (by decide +kernel) (show s < 6 by omega) (show s < 6 by omega) (by omega) (by rcases (show s = 0 ∨ s = 1 ∨ s = 2 by omega) with rfl | rfl | rfl <;> decide +kernel)
/-- the end of the loop -/
theorem qlast {X : zX} {B : Nat} {h0 h : zH} {s k H c nL : Nat} {ini : Bool} {rt : Option FieldType} {tab : Nat → Option (Instr × Nat)} {cl : zL} (hX : aXX qY X) (hKA : ∀ (mi : Nat) (q : aQ), q ∈ qKA mi → q.1 = mi ∧ aCon qW qG (zEv X zIT zmcl zMt B) q (fun _ => True)) (hm : zMt 186 = some (c, ini, nL, rt, tab)) (hs : s ≤ 2) (h1 : k ≤ 64) (hHl : H ≤ 64) (h3 : qv h0 145 s ≤ k) (c0 : zget cl 0 = some (.ref 128)) (c1 : zget cl 1 = some (.int (Int32.ofInt (s : Int)))) (c2 : zget cl 2 = some (.int (Int32.ofInt (k : Int)))) (hH : aH1 h 128 36 (Int32.ofInt (H : Int))) (hF : aF qW qG [0, 128, (s : Int)] qc94.2.2.2.2.1 h0 h) : ∃ (n : Nat) (r : Option Value) (h' : zH), zRun X zIT zmcl (zEv X zIT zmcl zMt (6 + B)) c ini nL rt tab n 12 cl [] h r h' ∧ aEnd qW qG qc94.2.2.2.2.1 [0, 128, (s : Int)] h0 (aent qc94) qc94.2.2.2.1 r h' := by
  obtain ⟨tx, t1, t2, t3⟩ := qk50 hs hH
  have hq := qg_qv hF
  have ft : qv h0 145 s = tx.toInt := by rw [← hq, qv_on (by unfold qpr; simp [Nat.ble_eq]; omega), qi_int t1]
  have r18 : rd h 128 18 = some (.ref 145) := hH.ref (so := 66) (by decide +kernel) (by decide +kernel) (by decide +kernel) (by decide) (by decide +kernel) (fun a => qun66)
  have E1 := ((((((((aE0.push (t := (2, 49, 49)) (z := 128) (asR (so := 49) (c := 128) (by decide +kernel) (by decide +kernel))).push (t := (0, 0, 2)) (z := (s : Int)) ⟨by omega, by omega⟩).push (t := (0, 0, 64)) (z := (k : Int)) ⟨by omega, by omega⟩).push (t := (0, 0, 64)) (z := (H : Int)) ⟨by omega, by omega⟩).push (t := (2, 66, 66)) (z := 145) (asR (so := 66) (c := 145) (by decide +kernel) (by decide +kernel))).push (t := (0, 0, 0)) (z := 0) ⟨by omega, by omega⟩).push (t := (0, 0, 0)) (z := 0) ⟨by omega, by omega⟩).push (t := (0, 0, 64)) (z := tx.toInt) ⟨t2, t3⟩).pushK (t := (12, 3, 0)) (z := 0) ⟨tx.toInt, (k : Int), rfl, rfl, by omega⟩
  have hE : aE qW [(0, 0, 0), (2, 49, 49), (0, 0, 2), (0, 0, 64), (0, 0, 64), (2, 66, 66), (0, 0, 0), (0, 0, 0), (0, 0, 64), (12, 3, 0)] [0, 128, (s : Int), (k : Int), (H : Int), 145, 0, 0, tx.toInt, 0] := E1
  have a0 := hH.to (q := (1, 0, 36)) (s := 4) (c := 0) (qden (k := 36) (c := 128) (r := 1) hE (by decide) rfl) ⟨(H : Int), rfl, by rw [Int.add_zero]⟩
  have a1 := aH_add (b := .inr (.inr (.inl 5))) a0 (qden (k := 18) (c := 128) (r := 1) hE (by decide) rfl) (by decide +kernel) (by decide +kernel) (by rw [qrdx (qG_real (by decide +kernel) (by decide +kernel))]; exact r18) ⟨145, rfl, rfl⟩
  have a2 := aH_add (q := (5, 2, 0)) (b := .inl (8, 0)) (a := 145) (k := s) (v := .int tx) a1 ⟨rfl, Int32.ofInt (s : Int), ⟨(s : Int), rfl, by rw [Int.add_zero]⟩, ai32 (by omega) (by omega)⟩ (by decide +kernel) (show s < 6 by omega) (by rw [qrdx (qG_off (by decide) (by decide))]; exact t1) ⟨tx, ⟨tx.toInt, rfl, by rw [Int.add_zero, Int32.ofInt_toInt]⟩, rfl⟩
  have hx : aext [0, 128, (s : Int)] [0, 128, (s : Int), (k : Int), (H : Int), 145, 0, 0, tx.toInt, 0] := ⟨[(k : Int), (H : Int), 145, 0, 0, tx.toInt, 0], rfl⟩
  refine qgo_ok hX hKA hm qgZ rfl hx (show 5 ≤ 10 by decide) ⟨hE, qloL (s := s) (k := k) rfl rfl rfl c0 c1 c2, rfl, a2, hF.ext hx⟩ (fun ρc cl' cst' h' y1 y2 y3 y4 y5 y6 => (qgX_no y2).elim)
/-- one knot -/
theorem qknot {X : zX} {B : Nat} {h0 h : zH} {s k H H' c nL : Nat} {ini : Bool} {rt : Option FieldType} {tab : Nat → Option (Instr × Nat)} {cl : zL} {d : Int} {th ta tb : aY} (hX : aXX qY X) (hKA : ∀ (mi : Nat) (q : aQ), q ∈ qKA mi → q.1 = mi ∧ aCon qW qG (zEv X zIT zmcl zMt B) q (fun _ => True)) (hm : zMt 186 = some (c, ini, nL, rt, tab)) (hs : s ≤ 2) (h1 : k ≤ 63) (h3 : (k : Int) + 1 ≤ qv h0 145 s) (c0 : zget cl 0 = some (.ref 128)) (c1 : zget cl 1 = some (.int (Int32.ofInt (s : Int)))) (c2 : zget cl 2 = some (.int (Int32.ofInt (k : Int)))) (hH : aH1 h 128 36 (Int32.ofInt (H : Int))) (hF : aF qW qG [0, 128, (s : Int)] qc94.2.2.2.2.1 h0 h)
    (chk : qgo (qgN d) 5 12 (qgE (0, 0, 63) th ta tb (7, 8, 1), qgl, [], qgm) = true) (hth : asy qW th (H : Int)) (hta : asy qW ta (qv h0 146 k)) (htb : asy qW tb (qv h0 147 k)) (hd : (H' : Int) = (H : Int) + d)
    (next : ∀ (cl' : zL) (h' : zH), zget cl' 0 = some (.ref 128) → zget cl' 1 = some (.int (Int32.ofInt (s : Int))) → zget cl' 2 = some (.int (Int32.ofInt ((k + 1 : Nat) : Int))) → aH1 h' 128 36 (Int32.ofInt (H' : Int)) → aF qW qG [0, 128, (s : Int)] qc94.2.2.2.2.1 h0 h' → ∃ (n : Nat) (r : Option Value) (h'' : zH), zRun X zIT zmcl (zEv X zIT zmcl zMt (6 + B)) c ini nL rt tab n 12 cl' [] h' r h'' ∧ aEnd qW qG qc94.2.2.2.2.1 [0, 128, (s : Int)] h0 (aent qc94) qc94.2.2.2.1 r h'') : ∃ (n : Nat) (r : Option Value) (h' : zH), zRun X zIT zmcl (zEv X zIT zmcl zMt (6 + B)) c ini nL rt tab n 12 cl [] h r h' ∧ aEnd qW qG qc94.2.2.2.2.1 [0, 128, (s : Int)] h0 (aent qc94) qc94.2.2.2.1 r h' := by
  obtain ⟨tx, t1, t2, t3⟩ := qk50 hs hH
  have hq := qg_qv hF
  have ft : qv h0 145 s = tx.toInt := by rw [← hq, qv_on (by unfold qpr; simp [Nat.ble_eq]; omega), qi_int t1]
  obtain ⟨ax, a1, a2, a3⟩ := hH.int (a := 146) (k := k) (l := 0) (u := 2) (by decide +kernel) (show k < 128 by omega) (show k < 128 by omega) (by omega) rfl
  obtain ⟨bx, b1, b2, b3⟩ := hH.int (a := 147) (k := k) (l := -2147483648) (u := 2147483647) (by decide +kernel) (show k < 128 by omega) (show k < 128 by omega) (by omega) rfl
  have fa : qv h0 146 k = ax.toInt := by rw [← hq, qv_on (by unfold qpr; simp [Nat.ble_eq]; omega), qi_int a1]
  have fb : qv h0 147 k = bx.toInt := by rw [← hq, qv_on (by unfold qpr; simp [Nat.ble_eq]; omega), qi_int b1]
  rw [fa] at hta
  rw [fb] at htb
  have r18 : rd h 128 18 = some (.ref 145) := hH.ref (so := 66) (by decide +kernel) (by decide +kernel) (by decide +kernel) (by decide) (by decide +kernel) (fun a => qun66)
  have r19 : rd h 128 19 = some (.ref 146) := hH.ref (so := 67) (by decide +kernel) (by decide +kernel) (by decide +kernel) (by decide) (by decide +kernel) (fun a => qun67)
  have r20 : rd h 128 20 = some (.ref 147) := hH.ref (so := 68) (by decide +kernel) (by decide +kernel) (by decide +kernel) (by decide) (by decide +kernel) (fun a => qun68)
  have E1 := ((((((((((aE0.push (t := (2, 49, 49)) (z := 128) (asR (so := 49) (c := 128) (by decide +kernel) (by decide +kernel))).push (t := (0, 0, 2)) (z := (s : Int)) ⟨by omega, by omega⟩).push (t := (0, 0, 63)) (z := (k : Int)) ⟨by omega, by omega⟩).push (t := th) (z := (H : Int)) hth).push (t := (2, 66, 66)) (z := 145) (asR (so := 66) (c := 145) (by decide +kernel) (by decide +kernel))).push (t := (2, 67, 67)) (z := 146) (asR (so := 67) (c := 146) (by decide +kernel) (by decide +kernel))).push (t := (2, 68, 68)) (z := 147) (asR (so := 68) (c := 147) (by decide +kernel) (by decide +kernel))).push (t := (0, 0, 64)) (z := tx.toInt) ⟨t2, t3⟩).push (t := ta) (z := ax.toInt) hta).push (t := tb) (z := bx.toInt) htb).pushK (t := (7, 8, 1)) (z := 0) ⟨(k : Int), tx.toInt, rfl, rfl, by omega⟩
  have hE : aE qW (qgE (0, 0, 63) th ta tb (7, 8, 1)) [0, 128, (s : Int), (k : Int), (H : Int), 145, 146, 147, tx.toInt, ax.toInt, bx.toInt, 0] := E1
  have m0 := hH.to (q := (1, 0, 36)) (s := 4) (c := 0) (qden (k := 36) (c := 128) (r := 1) hE (by decide) rfl) ⟨(H : Int), rfl, by rw [Int.add_zero]⟩
  have m1 := aH_add (b := .inr (.inr (.inl 5))) m0 (qden (k := 18) (c := 128) (r := 1) hE (by decide) rfl) (by decide +kernel) (by decide +kernel) (by rw [qrdx (qG_real (by decide +kernel) (by decide +kernel))]; exact r18) ⟨145, rfl, rfl⟩
  have m2 := aH_add (b := .inr (.inr (.inl 6))) m1 (qden (k := 19) (c := 128) (r := 1) hE (by decide) rfl) (by decide +kernel) (by decide +kernel) (by rw [qrdx (qG_real (by decide +kernel) (by decide +kernel))]; exact r19) ⟨146, rfl, rfl⟩
  have m3 := aH_add (b := .inr (.inr (.inl 7))) m2 (qden (k := 20) (c := 128) (r := 1) hE (by decide) rfl) (by decide +kernel) (by decide +kernel) (by rw [qrdx (qG_real (by decide +kernel) (by decide +kernel))]; exact r20) ⟨147, rfl, rfl⟩
  have m4 := aH_add (q := (5, 2, 0)) (b := .inl (8, 0)) (a := 145) (k := s) (v := .int tx) m3 ⟨rfl, Int32.ofInt (s : Int), ⟨(s : Int), rfl, by rw [Int.add_zero]⟩, ai32 (by omega) (by omega)⟩ (by decide +kernel) (show s < 6 by omega) (by rw [qrdx (qG_off (by decide) (by decide))]; exact t1) ⟨tx, ⟨tx.toInt, rfl, by rw [Int.add_zero, Int32.ofInt_toInt]⟩, rfl⟩
  have m5 := aH_add (q := (6, 3, 0)) (b := .inl (9, 0)) (a := 146) (k := k) (v := .int ax) m4 ⟨rfl, Int32.ofInt (k : Int), ⟨(k : Int), rfl, by rw [Int.add_zero]⟩, ai32 (by omega) (by omega)⟩ (by decide +kernel) (show k < 128 by omega) (by rw [qrdx (qG_off (by decide) (by decide))]; exact a1) ⟨ax, ⟨ax.toInt, rfl, by rw [Int.add_zero, Int32.ofInt_toInt]⟩, rfl⟩
  have m6 := aH_add (q := (7, 3, 0)) (b := .inl (10, 0)) (a := 147) (k := k) (v := .int bx) m5 ⟨rfl, Int32.ofInt (k : Int), ⟨(k : Int), rfl, by rw [Int.add_zero]⟩, ai32 (by omega) (by omega)⟩ (by decide +kernel) (show k < 128 by omega) (by rw [qrdx (qG_off (by decide) (by decide))]; exact b1) ⟨bx, ⟨bx.toInt, rfl, by rw [Int.add_zero, Int32.ofInt_toInt]⟩, rfl⟩
  have hx : aext [0, 128, (s : Int)] [0, 128, (s : Int), (k : Int), (H : Int), 145, 146, 147, tx.toInt, ax.toInt, bx.toInt, 0] := ⟨[(k : Int), (H : Int), 145, 146, 147, tx.toInt, ax.toInt, bx.toInt, 0], rfl⟩
  refine qgo_ok hX hKA hm chk rfl hx (show 5 ≤ 12 by decide) ⟨hE, qloL (s := s) (k := k) rfl rfl rfl c0 c1 c2, rfl, m6, hF.ext hx⟩ (fun ρc cl' cst' h' y1 y2 y3 y4 y5 y6 => ?_)
  obtain ⟨z1, z2, z3, z4, z5⟩ := qrest y1 y2 y3 y4 y5 hd
  subst z1
  exact next cl' h' z2 z3 z4 z5 y6
theorem qloop {X : zX} {B : Nat} {h0 : zH} {s c nL : Nat} {ini : Bool} {rt : Option FieldType} {tab : Nat → Option (Instr × Nat)} (hX : aXX qY X) (hKA : ∀ (mi : Nat) (q : aQ), q ∈ qKA mi → q.1 = mi ∧ aCon qW qG (zEv X zIT zmcl zMt B) q (fun _ => True)) (hm : zMt 186 = some (c, ini, nL, rt, tab)) (hs : s ≤ 2) (hlw : qlw (qv h0) 0 (qv h0 144 s) (qv h0 145 s) 64) : ∀ (m k H : Nat) (cl : zL) (h : zH), qv h0 144 s ≤ k → k ≤ 64 → (qv h0 145 s - k).toNat ≤ m → qhn (qv h0) 0 (qv h0 144 s).toNat (k - (qv h0 144 s).toNat) = some H → zget cl 0 = some (.ref 128) → zget cl 1 = some (.int (Int32.ofInt (s : Int))) → zget cl 2 = some (.int (Int32.ofInt (k : Int))) → aH1 h 128 36 (Int32.ofInt (H : Int)) → aF qW qG [0, 128, (s : Int)] qc94.2.2.2.2.1 h0 h → ∃ (n : Nat) (r : Option Value) (h' : zH), zRun X zIT zmcl (zEv X zIT zmcl zMt (6 + B)) c ini nL rt tab n 12 cl [] h r h' ∧ aEnd qW qG qc94.2.2.2.2.1 [0, 128, (s : Int)] h0 (aent qc94) qc94.2.2.2.1 r h' := by
  intro m
  induction m with
  | zero =>
    intro k H cl h h1 h2 h3 h4 c0 c1 c2 hH hF
    have hHl := qhn_le _ _ h4
    exact qlast hX hKA hm hs h2 (by omega) (by omega) c0 c1 c2 hH hF
  | succ m ih =>
    intro k H cl h h1 h2 h3 h4 c0 c1 c2 hH hF
    have hHl := qhn_le _ _ h4
    by_cases hkt : qv h0 145 s ≤ k
    · exact qlast hX hKA hm hs h2 (by omega) hkt c0 c1 c2 hH hF
    · have hf0 := hlw.1
      have ht64 := hlw.2.2.1
      have hw := hlw.2.2.2 (by omega)
      have hb := qv_b h0 147 k
      rw [show (qv h0 145 s - qv h0 144 s).toNat = ((k - (qv h0 144 s).toNat) + 1) + ((qv h0 145 s).toNat - (k + 1)) by omega] at hw
      obtain ⟨H', hH'⟩ := qhn_pre _ _ _ hw
      have hHl' := qhn_le _ _ hH'
      have hst : qst (qv h0 146 k) (qv h0 147 k) H = some H' := by
        have e : (match qhn (qv h0) 0 (qv h0 144 s).toNat (k - (qv h0 144 s).toNat) with
          | some H => qst (qv h0 146 (0 + ((qv h0 144 s).toNat + (k - (qv h0 144 s).toNat)))) (qv h0 147 (0 + ((qv h0 144 s).toNat + (k - (qv h0 144 s).toNat)))) H
          | none => none) = some H' := hH'
        rw [h4, show 0 + ((qv h0 144 s).toNat + (k - (qv h0 144 s).toNat)) = k by omega] at e
        exact e
      have hnext : ∀ (cl' : zL) (h' : zH), zget cl' 0 = some (.ref 128) → zget cl' 1 = some (.int (Int32.ofInt (s : Int))) → zget cl' 2 = some (.int (Int32.ofInt ((k + 1 : Nat) : Int))) → aH1 h' 128 36 (Int32.ofInt (H' : Int)) → aF qW qG [0, 128, (s : Int)] qc94.2.2.2.2.1 h0 h' → ∃ (n : Nat) (r : Option Value) (h'' : zH), zRun X zIT zmcl (zEv X zIT zmcl zMt (6 + B)) c ini nL rt tab n 12 cl' [] h' r h'' ∧ aEnd qW qG qc94.2.2.2.2.1 [0, 128, (s : Int)] h0 (aent qc94) qc94.2.2.2.1 r h'' := fun cl' h' g0 g1 g2 gH gF =>
        ih (k + 1) H' cl' h' (by omega) (by omega) (by omega) (by rw [show k + 1 - (qv h0 144 s).toNat = (k - (qv h0 144 s).toNat) + 1 by omega]; exact hH') g0 g1 g2 gH gF
      rcases qst_inv hst with ⟨q1, q2⟩ | ⟨q1, q2, q3, q4⟩ | ⟨q1, q2, q3, q4⟩ | ⟨q1, q2, q3, q4⟩
      · exact qknot hX hKA hm hs (by omega) (by omega) c0 c1 c2 hH hF qgA ⟨by omega, by omega⟩ ⟨by omega, by omega⟩ hb (by omega) hnext
      · exact qknot hX hKA hm hs (by omega) (by omega) c0 c1 c2 hH hF qgB ⟨by omega, by omega⟩ ⟨by omega, by omega⟩ ⟨q2, q3⟩ (by omega) hnext
      · exact qknot hX hKA hm hs (by omega) (by omega) c0 c1 c2 hH hF qgC ⟨by omega, by omega⟩ ⟨by omega, by omega⟩ ⟨by omega, by omega⟩ (by omega) hnext
      · by_cases q5 : qv h0 147 k ≤ 259
        · exact qknot hX hKA hm hs (by omega) (by omega) c0 c1 c2 hH hF qgDd ⟨by omega, by omega⟩ ⟨by omega, by omega⟩ ⟨hb.1, q5⟩ (by omega) hnext
        · exact qknot hX hKA hm hs (by omega) (by omega) c0 c1 c2 hH hF qgEe ⟨by omega, by omega⟩ ⟨by omega, by omega⟩ ⟨by omega, hb.2⟩ (by omega) hnext
/-- the contract -/
theorem qhandG {X : zX} {B : Nat} (hX : aXX qY X) (hKA : ∀ (mi : Nat) (q : aQ), q ∈ qKA mi → q.1 = mi ∧ aCon qW qG (zEv X zIT zmcl zMt B) q (fun _ => True)) : aCon qW qG (zEv X zIT zmcl zMt (6 + B + 1)) qc94 (fun _ => True) := by
  intro ρ0 h0 vs _ hE hv hH
  have hr : ρ0[1]? = some ((128 : Nat) : Int) := qcell (so := 49) hE rfl (fun a => qun49)
  obtain ⟨z, p2, q2⟩ := hE.has (k := 2) rfl
  have q2 : 0 ≤ z ∧ z ≤ 2 := q2
  have hl : ρ0.length = 3 := hE.1
  have hρ : ρ0 = [0, 128, ((z.toNat : Nat) : Int)] := by
    match ρ0, hl, hE.2.1, hr, p2 with
    | [a, b, c], _, h1, h2, h3 =>
      cases h1
      injection h2 with h2
      injection h3 with h3
      subst h2
      rw [show ((z.toNat : Nat) : Int) = z by omega, h3]
      rfl
  obtain ⟨s, es⟩ : ∃ s : Nat, s = z.toNat := ⟨_, rfl⟩
  rw [← es] at hρ
  have hs : s ≤ 2 := by omega
  subst hρ
  have hp1 : qp1 (qv h0) := by
    obtain ⟨v, v1, v2⟩ := hH.2.1 128 78 (by decide +kernel) (by decide +kernel)
    rw [qrdg (qg78 _)] at v1
    cases v1
    rcases v2 with v2 | ⟨e, he, -⟩
    · have ht : apl (afm qW (asrt qW 128)) 78 = (0, 1, 1) := by decide +kernel
      rw [ht] at v2
      obtain ⟨u, u1, u2, u3⟩ := v2
      cases u1
      have b := qbo_01 (qp1 (qv h0))
      rw [ai32 (by omega) (by omega)] at u2 u3
      exact qbo_1 (by omega)
    · cases he
  have hlw : qlw (qv h0) 0 (qv h0 144 s) (qv h0 145 s) 64 := by
    rcases (show s = 0 ∨ s = 1 ∨ s = 2 by omega) with rfl | rfl | rfl
    · exact hp1.1
    · exact hp1.2.1
    · exact hp1.2.2
  have hn : ∀ (a k : Nat), ∀ e ∈ aem qc94, ¬ aden [0, 128, (s : Int)] e.1 a k := fun a k e he => by cases he
  obtain ⟨fx, f1, f2, f3⟩ := qint (a := 144) (k := s) (l := 0) (u := 64) hH (by decide +kernel) (show s < 6 by omega) (show s < 6 by omega) (hn _ _) (by rcases (show s = 0 ∨ s = 1 ∨ s = 2 by omega) with rfl | rfl | rfl <;> decide +kernel)
  have ff : qv h0 144 s = fx.toInt := by rw [qv_on (by unfold qpr; simp [Nat.ble_eq]; omega), qi_int f1]
  obtain ⟨v17, g1, g2⟩ := qreal (a := 128) (k := 17) hH (by decide +kernel) (by decide +kernel) (by decide +kernel) (hn _ _)
  have r17 : rd h0 128 17 = some (.ref 144) := by
    have ht : apl (afm qW (asrt qW 128)) 17 = (2, 65, 65) := by decide +kernel
    rw [ht] at g2
    obtain ⟨n, rfl, n1, n2⟩ := (show ∃ n : Nat, v17 = .ref n ∧ n < qW.1.length ∧ ((asrt qW n : Int) = ((65 : Nat) : Int) ∨ (asrt qW n : Int) = ((65 : Nat) : Int)) from g2)
    rw [g1, qun65 n1 (n2.elim id id)]
  have E1 := (hE.push (t := (2, 65, 65)) (z := 144) (asR (so := 65) (c := 144) (by decide +kernel) (by decide +kernel))).push (t := (0, 0, 64)) (z := fx.toInt) ⟨f2, f3⟩
  have hE' : aE qW [(0, 0, 0), (2, 49, 49), (0, 0, 2), (2, 65, 65), (0, 0, 64)] [0, 128, (s : Int), 144, fx.toInt] := E1
  have hx : aext [0, 128, (s : Int)] [0, 128, (s : Int), 144, fx.toInt] := ⟨[144, fx.toInt], rfl⟩
  have m0 : aH qW qG [0, 128, (s : Int), 144, fx.toInt] [] h0 := hH.ext hx
  have m1 := aH_add (b := .inr (.inr (.inl 3))) m0 (qden (k := 17) (c := 128) (r := 1) hE' (by decide) rfl) (by decide +kernel) (by decide +kernel) (by rw [qrdx (qG_real (by decide +kernel) (by decide +kernel))]; exact r17) ⟨144, rfl, rfl⟩
  have m2 := aH_add (q := (3, 2, 0)) (b := .inl (4, 0)) (a := 144) (k := s) (v := .int fx) m1 ⟨rfl, Int32.ofInt (s : Int), ⟨(s : Int), rfl, by rw [Int.add_zero]⟩, ai32 (by omega) (by omega)⟩ (by decide +kernel) (show s < 6 by omega) (by rw [qrdx (qG_off (by decide) (by decide))]; exact f1) ⟨fx, ⟨fx.toInt, rfl, by rw [Int.add_zero, Int32.ofInt_toInt]⟩, rfl⟩
  cases hm : zMt 186 with
  | none => exact absurd hm (by decide +kernel)
  | some w =>
    obtain ⟨c, ini, nL, rt, tab⟩ := w
    have hlo : aLo [0, 128, (s : Int), 144, fx.toInt] [(0, .inr (.inr (.inl 1))), (1, .inl (2, 0))] (lv_args 0 vs) := fun p hp => (aloc_ok _ vs 0 (hv.ext hx) p hp).2
    obtain ⟨n, r, h', e1, e2⟩ := qgo_ok (pc := 0) hX hKA hm qgS rfl hx (show 5 ≤ 5 by decide) ⟨hE', hlo, rfl, m2, aF.rf⟩ (fun ρc cl' cst' h' y1 y2 y3 y4 y5 y6 => by
      have y1 : aext [0, 128, (s : Int), 144, fx.toInt] ρc := y1
      have r1 : ρc[1]? = some ((128 : Nat) : Int) := y1.get rfl
      have r2 : ρc[2]? = some (s : Int) := y1.get rfl
      have r4 : ρc[4]? = some fx.toInt := y1.get rfl
      have z0 : cst' = [] := y4
      subst z0
      have k0 : zget cl' 0 = some (.ref 128) := by
        obtain ⟨v, v1, v2⟩ := y3 (0, .inr (.inr (.inl 1))) (List.Mem.head _)
        obtain ⟨n, n1, n2⟩ := (show ∃ n : Nat, ρc[1]? = some (n : Int) ∧ v = .ref n from v2)
        rw [r1] at n1
        injection n1 with n1
        have : n = 128 := by omega
        rw [v1, n2, this]
      have k1 : zget cl' 1 = some (.int (Int32.ofInt (s : Int))) := by
        obtain ⟨v, v1, v2⟩ := y3 (1, .inl (2, 0)) (List.Mem.tail _ (List.Mem.head _))
        obtain ⟨x, ⟨z, z1, z2⟩, x2⟩ := (show ∃ x : Int32, ai ρc 2 0 x ∧ v = .int x from v2)
        rw [r2] at z1
        cases z1
        rw [v1, x2, z2, Int.add_zero]
      have k2 : zget cl' 2 = some (.int (Int32.ofInt ((fx.toInt.toNat : Nat) : Int))) := by
        obtain ⟨v, v1, v2⟩ := y3 (2, .inl (4, 0)) (List.Mem.tail _ (List.Mem.tail _ (List.Mem.head _)))
        obtain ⟨x, ⟨z, z1, z2⟩, x2⟩ := (show ∃ x : Int32, ai ρc 4 0 x ∧ v = .int x from v2)
        rw [r4] at z1
        cases z1
        rw [v1, x2, z2, Int.add_zero, show ((fx.toInt.toNat : Nat) : Int) = fx.toInt by omega]
      have kH : aH1 h' 128 36 (Int32.ofInt ((0 : Nat) : Int)) := aH1_of (s := 0) (c := 0) y5 (qden (k := 36) y2 (by decide) r1) (ai_c y2 0)
      exact qloop hX hKA hm hs hlw _ fx.toInt.toNat 0 cl' h' (by omega) (by omega) (Nat.le_refl _) (by rw [ff, Nat.sub_self]; rfl) k0 k1 k2 kH y6)
    have hlen : (lg_sl vs).length ≤ nL := by
      rw [alg_len hv]
      have hb : (match zMt 186 with
        | some w => Nat.ble ((aarg qc94).map acat).sum w.2.2.1
        | none => false) = true := by decide +kernel
      rw [hm] at hb
      exact able hb
    exact ⟨r, h', zEv_run hm hlen e1, e2⟩
end
section
/-! All contracts hold (by program: wip/eng/t11.py). -/
theorem qbif {c : Bool} {A B : List aQ} {q : aQ} {P : Prop} (h : q ∈ bif c then A else B) (ha : c = true → q ∈ A → P) (hb : q ∈ B → P) : P := by
  cases c with
  | true => exact ha rfl h
  | false => exact hb h
theorem qmc {q a : aQ} {l : List aQ} {P : Prop} (h : q ∈ a :: l) (ha : q = a → P) (hb : q ∈ l → P) : P := by
  rcases List.mem_cons.mp h with e | e
  · exact ha e
  · exact hb e
theorem qapp {a b : List aN} {p : aN → Bool} (h1 : a.all p = true) (h2 : b.all p = true) : (a ++ b).all p = true := by
  rw [List.all_append, h1, h2]
  rfl
theorem qA_ck (k : Nat) (q : aQ) (h : q ∈ qKA k) : (q.1 = k ∧ ∃ NS : List aN, ackq qY zIT zmcl qW qPt zMt qK0 qKA q NS 6 3000 = true) ∧ amb q 10 = true := (fun h => qbif h (fun _ => (fun h => qbif h (fun _ => (fun h => qbif h (fun hc => (fun h => qmc h (fun e => by subst e; exact ⟨⟨by rw [Nat.eq_of_beq_eq_true hc]; rfl, qn93, ackq_of qk93_e rfl⟩, by decide +kernel⟩) (fun h => qmc h (fun e => by subst e; exact ⟨⟨by rw [Nat.eq_of_beq_eq_true hc]; rfl, qn92, ackq_of qk92_e rfl⟩, by decide +kernel⟩) (fun h => qmc h (fun e => by subst e; exact ⟨⟨by rw [Nat.eq_of_beq_eq_true hc]; rfl, qn91, ackq_of qk91_e rfl⟩, by decide +kernel⟩) (fun h => by cases h))))) (fun h => by cases h))) (fun h => qbif h (fun hc => (fun h => qmc h (fun e => by subst e; exact ⟨⟨by rw [Nat.eq_of_beq_eq_true hc]; rfl, qn88, ackq_of qk88_e rfl⟩, by decide +kernel⟩) (fun h => qmc h (fun e => by subst e; exact ⟨⟨by rw [Nat.eq_of_beq_eq_true hc]; rfl, qn84, ackq_of qk84_e rfl⟩, by decide +kernel⟩) (fun h => qmc h (fun e => by subst e; exact ⟨⟨by rw [Nat.eq_of_beq_eq_true hc]; rfl, qn79, ackq_of qk79_e rfl⟩, by decide +kernel⟩) (fun h => qmc h (fun e => by subst e; exact ⟨⟨by rw [Nat.eq_of_beq_eq_true hc]; rfl, qn81, ackq_of qk81_e rfl⟩, by decide +kernel⟩) (fun h => qmc h (fun e => by subst e; exact ⟨⟨by rw [Nat.eq_of_beq_eq_true hc]; rfl, qn86, ackq_of qk86_e rfl⟩, by decide +kernel⟩) (fun h => by cases h))))))) (fun h => by cases h)))) (fun h => qbif h (fun hc => (fun h => qmc h (fun e => by subst e; exact ⟨⟨by rw [Nat.eq_of_beq_eq_true hc]; rfl, qn16, ackq_of qk16_e rfl⟩, by decide +kernel⟩) (fun h => by cases h))) (fun h => by cases h))) h
theorem qB_ck (k : Nat) (q : aQ) (h : q ∈ qKB k) : (q.1 = k ∧ ∃ NS : List aN, ackq qY zIT zmcl qW qPt zMt qKH qKB q NS 6 3000 = true) ∧ amb q 125 = true := (fun h => qbif h (fun _ => (fun h => qbif h (fun _ => (fun h => qbif h (fun _ => (fun h => qbif h (fun _ => (fun h => qbif h (fun _ => (fun h => qbif h (fun _ => (fun h => qbif h (fun _ => (fun h => qbif h (fun _ => (fun h => qbif h (fun hc => (fun h => qmc h (fun e => by subst e; exact ⟨⟨by rw [Nat.eq_of_beq_eq_true hc]; rfl, qn204, ackq_of qk204_e rfl⟩, by decide +kernel⟩) (fun h => by cases h))) (fun h => by cases h))) (fun h => qbif h (fun hc => (fun h => qmc h (fun e => by subst e; exact ⟨⟨by rw [Nat.eq_of_beq_eq_true hc]; rfl, qn159, ackq_of qk159_e qk159_0⟩, by decide +kernel⟩) (fun h => by cases h))) (fun h => by cases h)))) (fun h => qbif h (fun hc => (fun h => qmc h (fun e => by subst e; exact ⟨⟨by rw [Nat.eq_of_beq_eq_true hc]; rfl, qn158, ackq_of qk158_e rfl⟩, by decide +kernel⟩) (fun h => by cases h))) (fun h => by cases h)))) (fun h => qbif h (fun _ => (fun h => qbif h (fun _ => (fun h => qbif h (fun hc => (fun h => qmc h (fun e => by subst e; exact ⟨⟨by rw [Nat.eq_of_beq_eq_true hc]; rfl, qn157, ackq_of qk157_e rfl⟩, by decide +kernel⟩) (fun h => by cases h))) (fun h => by cases h))) (fun h => qbif h (fun hc => (fun h => qmc h (fun e => by subst e; exact ⟨⟨by rw [Nat.eq_of_beq_eq_true hc]; rfl, qn156, ackq_of qk156_e rfl⟩, by decide +kernel⟩) (fun h => by cases h))) (fun h => by cases h)))) (fun h => qbif h (fun hc => (fun h => qmc h (fun e => by subst e; exact ⟨⟨by rw [Nat.eq_of_beq_eq_true hc]; rfl, qn252, ackq_of qk252_e rfl⟩, by decide +kernel⟩) (fun h => by cases h))) (fun h => by cases h))))) (fun h => qbif h (fun _ => (fun h => qbif h (fun _ => (fun h => qbif h (fun _ => (fun h => qbif h (fun hc => (fun h => qmc h (fun e => by subst e; exact ⟨⟨by rw [Nat.eq_of_beq_eq_true hc]; rfl, qn251, ackq_of qk251_e qk251_0⟩, by decide +kernel⟩) (fun h => by cases h))) (fun h => by cases h))) (fun h => qbif h (fun hc => (fun h => qmc h (fun e => by subst e; exact ⟨⟨by rw [Nat.eq_of_beq_eq_true hc]; rfl, qn272, ackq_of qk272_e qk272_0⟩, by decide +kernel⟩) (fun h => by cases h))) (fun h => by cases h)))) (fun h => qbif h (fun hc => (fun h => qmc h (fun e => by subst e; exact ⟨⟨by rw [Nat.eq_of_beq_eq_true hc]; rfl, qn271, ackq_of qk271_e qk271_0⟩, by decide +kernel⟩) (fun h => by cases h))) (fun h => by cases h)))) (fun h => qbif h (fun _ => (fun h => qbif h (fun hc => (fun h => qmc h (fun e => by subst e; exact ⟨⟨by rw [Nat.eq_of_beq_eq_true hc]; rfl, qn125, ackq_of qk125_e rfl⟩, by decide +kernel⟩) (fun h => by cases h))) (fun h => by cases h))) (fun h => qbif h (fun hc => (fun h => qmc h (fun e => by subst e; exact ⟨⟨by rw [Nat.eq_of_beq_eq_true hc]; rfl, qn124, ackq_of qk124_e rfl⟩, by decide +kernel⟩) (fun h => by cases h))) (fun h => by cases h)))))) (fun h => qbif h (fun _ => (fun h => qbif h (fun _ => (fun h => qbif h (fun _ => (fun h => qbif h (fun _ => (fun h => qbif h (fun hc => (fun h => qmc h (fun e => by subst e; exact ⟨⟨by rw [Nat.eq_of_beq_eq_true hc]; rfl, qn123, ackq_of qk123_e rfl⟩, by decide +kernel⟩) (fun h => by cases h))) (fun h => by cases h))) (fun h => qbif h (fun hc => (fun h => qmc h (fun e => by subst e; exact ⟨⟨by rw [Nat.eq_of_beq_eq_true hc]; rfl, qn250, ackq_of qk250_e qk250_0⟩, by decide +kernel⟩) (fun h => by cases h))) (fun h => by cases h)))) (fun h => qbif h (fun hc => (fun h => qmc h (fun e => by subst e; exact ⟨⟨by rw [Nat.eq_of_beq_eq_true hc]; rfl, qn270, ackq_of qk270_e qk270_0⟩, by decide +kernel⟩) (fun h => by cases h))) (fun h => by cases h)))) (fun h => qbif h (fun _ => (fun h => qbif h (fun _ => (fun h => qbif h (fun hc => (fun h => qmc h (fun e => by subst e; exact ⟨⟨by rw [Nat.eq_of_beq_eq_true hc]; rfl, qn269, ackq_of qk269_e (qapp (qapp qk269_0 qk269_1) qk269_2)⟩, by decide +kernel⟩) (fun h => by cases h))) (fun h => by cases h))) (fun h => qbif h (fun hc => (fun h => qmc h (fun e => by subst e; exact ⟨⟨by rw [Nat.eq_of_beq_eq_true hc]; rfl, qn268, ackq_of qk268_e rfl⟩, by decide +kernel⟩) (fun h => by cases h))) (fun h => by cases h)))) (fun h => qbif h (fun hc => (fun h => qmc h (fun e => by subst e; exact ⟨⟨by rw [Nat.eq_of_beq_eq_true hc]; rfl, qn267, ackq_of qk267_e rfl⟩, by decide +kernel⟩) (fun h => by cases h))) (fun h => by cases h))))) (fun h => qbif h (fun _ => (fun h => qbif h (fun _ => (fun h => qbif h (fun _ => (fun h => qbif h (fun hc => (fun h => qmc h (fun e => by subst e; exact ⟨⟨by rw [Nat.eq_of_beq_eq_true hc]; rfl, qn155, ackq_of qk155_e qk155_0⟩, by decide +kernel⟩) (fun h => by cases h))) (fun h => by cases h))) (fun h => qbif h (fun hc => (fun h => qmc h (fun e => by subst e; exact ⟨⟨by rw [Nat.eq_of_beq_eq_true hc]; rfl, qn122, ackq_of qk122_e qk122_0⟩, by decide +kernel⟩) (fun h => by cases h))) (fun h => by cases h)))) (fun h => qbif h (fun hc => (fun h => qmc h (fun e => by subst e; exact ⟨⟨by rw [Nat.eq_of_beq_eq_true hc]; rfl, qn249, ackq_of qk249_e qk249_0⟩, by decide +kernel⟩) (fun h => by cases h))) (fun h => by cases h)))) (fun h => qbif h (fun _ => (fun h => qbif h (fun hc => (fun h => qmc h (fun e => by subst e; exact ⟨⟨by rw [Nat.eq_of_beq_eq_true hc]; rfl, qn266, ackq_of qk266_e qk266_0⟩, by decide +kernel⟩) (fun h => by cases h))) (fun h => by cases h))) (fun h => qbif h (fun hc => (fun h => qmc h (fun e => by subst e; exact ⟨⟨by rw [Nat.eq_of_beq_eq_true hc]; rfl, qn274, ackq_of qk274_e rfl⟩, by decide +kernel⟩) (fun h => by cases h))) (fun h => by cases h))))))) (fun h => qbif h (fun _ => (fun h => qbif h (fun _ => (fun h => qbif h (fun _ => (fun h => qbif h (fun _ => (fun h => qbif h (fun _ => (fun h => qbif h (fun hc => (fun h => qmc h (fun e => by subst e; exact ⟨⟨by rw [Nat.eq_of_beq_eq_true hc]; rfl, qn273, ackq_of qk273_e qk273_0⟩, by decide +kernel⟩) (fun h => by cases h))) (fun h => by cases h))) (fun h => qbif h (fun hc => (fun h => qmc h (fun e => by subst e; exact ⟨⟨by rw [Nat.eq_of_beq_eq_true hc]; rfl, qn265, ackq_of qk265_e qk265_0⟩, by decide +kernel⟩) (fun h => by cases h))) (fun h => by cases h)))) (fun h => qbif h (fun hc => (fun h => qmc h (fun e => by subst e; exact ⟨⟨by rw [Nat.eq_of_beq_eq_true hc]; rfl, qn264, ackq_of qk264_e qk264_0⟩, by decide +kernel⟩) (fun h => by cases h))) (fun h => by cases h)))) (fun h => qbif h (fun _ => (fun h => qbif h (fun _ => (fun h => qbif h (fun hc => (fun h => qmc h (fun e => by subst e; exact ⟨⟨by rw [Nat.eq_of_beq_eq_true hc]; rfl, qn236, ackq_of qk236_e qk236_0⟩, by decide +kernel⟩) (fun h => by cases h))) (fun h => by cases h))) (fun h => qbif h (fun hc => (fun h => qmc h (fun e => by subst e; exact ⟨⟨by rw [Nat.eq_of_beq_eq_true hc]; rfl, qn235, ackq_of qk235_e qk235_0⟩, by decide +kernel⟩) (fun h => by cases h))) (fun h => by cases h)))) (fun h => qbif h (fun hc => (fun h => qmc h (fun e => by subst e; exact ⟨⟨by rw [Nat.eq_of_beq_eq_true hc]; rfl, qn248, ackq_of qk248_e rfl⟩, by decide +kernel⟩) (fun h => by cases h))) (fun h => by cases h))))) (fun h => qbif h (fun _ => (fun h => qbif h (fun _ => (fun h => qbif h (fun _ => (fun h => qbif h (fun hc => (fun h => qmc h (fun e => by subst e; exact ⟨⟨by rw [Nat.eq_of_beq_eq_true hc]; rfl, qn234, ackq_of qk234_e qk234_0⟩, by decide +kernel⟩) (fun h => by cases h))) (fun h => by cases h))) (fun h => qbif h (fun hc => (fun h => qmc h (fun e => by subst e; exact ⟨⟨by rw [Nat.eq_of_beq_eq_true hc]; rfl, qn203, ackq_of qk203_e rfl⟩, by decide +kernel⟩) (fun h => by cases h))) (fun h => by cases h)))) (fun h => qbif h (fun hc => (fun h => qmc h (fun e => by subst e; exact ⟨⟨by rw [Nat.eq_of_beq_eq_true hc]; rfl, qn202, ackq_of qk202_e rfl⟩, by decide +kernel⟩) (fun h => by cases h))) (fun h => by cases h)))) (fun h => qbif h (fun _ => (fun h => qbif h (fun hc => (fun h => qmc h (fun e => by subst e; exact ⟨⟨by rw [Nat.eq_of_beq_eq_true hc]; rfl, qn201, ackq_of qk201_e rfl⟩, by decide +kernel⟩) (fun h => by cases h))) (fun h => by cases h))) (fun h => qbif h (fun hc => (fun h => qmc h (fun e => by subst e; exact ⟨⟨by rw [Nat.eq_of_beq_eq_true hc]; rfl, qn154, ackq_of qk154_e qk154_0⟩, by decide +kernel⟩) (fun h => by cases h))) (fun h => by cases h)))))) (fun h => qbif h (fun _ => (fun h => qbif h (fun _ => (fun h => qbif h (fun _ => (fun h => qbif h (fun _ => (fun h => qbif h (fun hc => (fun h => qmc h (fun e => by subst e; exact ⟨⟨by rw [Nat.eq_of_beq_eq_true hc]; rfl, qn200, ackq_of qk200_e rfl⟩, by decide +kernel⟩) (fun h => by cases h))) (fun h => by cases h))) (fun h => qbif h (fun hc => (fun h => qmc h (fun e => by subst e; exact ⟨⟨by rw [Nat.eq_of_beq_eq_true hc]; rfl, qn153, ackq_of qk153_e qk153_0⟩, by decide +kernel⟩) (fun h => by cases h))) (fun h => by cases h)))) (fun h => qbif h (fun hc => (fun h => qmc h (fun e => by subst e; exact ⟨⟨by rw [Nat.eq_of_beq_eq_true hc]; rfl, qn121, ackq_of qk121_e rfl⟩, by decide +kernel⟩) (fun h => by cases h))) (fun h => by cases h)))) (fun h => qbif h (fun _ => (fun h => qbif h (fun hc => (fun h => qmc h (fun e => by subst e; exact ⟨⟨by rw [Nat.eq_of_beq_eq_true hc]; rfl, qn120, ackq_of qk120_e rfl⟩, by decide +kernel⟩) (fun h => by cases h))) (fun h => by cases h))) (fun h => qbif h (fun hc => (fun h => qmc h (fun e => by subst e; exact ⟨⟨by rw [Nat.eq_of_beq_eq_true hc]; rfl, qn152, ackq_of qk152_e rfl⟩, by decide +kernel⟩) (fun h => by cases h))) (fun h => by cases h))))) (fun h => qbif h (fun _ => (fun h => qbif h (fun _ => (fun h => qbif h (fun _ => (fun h => qbif h (fun hc => (fun h => qmc h (fun e => by subst e; exact ⟨⟨by rw [Nat.eq_of_beq_eq_true hc]; rfl, qn119, ackq_of qk119_e qk119_0⟩, by decide +kernel⟩) (fun h => by cases h))) (fun h => by cases h))) (fun h => qbif h (fun hc => (fun h => qmc h (fun e => by subst e; exact ⟨⟨by rw [Nat.eq_of_beq_eq_true hc]; rfl, qn118, ackq_of qk118_e rfl⟩, by decide +kernel⟩) (fun h => by cases h))) (fun h => by cases h)))) (fun h => qbif h (fun hc => (fun h => qmc h (fun e => by subst e; exact ⟨⟨by rw [Nat.eq_of_beq_eq_true hc]; rfl, qn117, ackq_of qk117_e rfl⟩, by decide +kernel⟩) (fun h => by cases h))) (fun h => by cases h)))) (fun h => qbif h (fun _ => (fun h => qbif h (fun hc => (fun h => qmc h (fun e => by subst e; exact ⟨⟨by rw [Nat.eq_of_beq_eq_true hc]; rfl, qn113, ackq_of qk113_e qk113_0⟩, by decide +kernel⟩) (fun h => qmc h (fun e => by subst e; exact ⟨⟨by rw [Nat.eq_of_beq_eq_true hc]; rfl, qn116, ackq_of qk116_e qk116_0⟩, by decide +kernel⟩) (fun h => qmc h (fun e => by subst e; exact ⟨⟨by rw [Nat.eq_of_beq_eq_true hc]; rfl, qn114, ackq_of qk114_e qk114_0⟩, by decide +kernel⟩) (fun h => qmc h (fun e => by subst e; exact ⟨⟨by rw [Nat.eq_of_beq_eq_true hc]; rfl, qn115, ackq_of qk115_e qk115_0⟩, by decide +kernel⟩) (fun h => by cases h)))))) (fun h => by cases h))) (fun h => qbif h (fun hc => (fun h => qmc h (fun e => by subst e; exact ⟨⟨by rw [Nat.eq_of_beq_eq_true hc]; rfl, qn247, ackq_of qk247_e rfl⟩, by decide +kernel⟩) (fun h => by cases h))) (fun h => by cases h)))))))) (fun h => qbif h (fun _ => (fun h => qbif h (fun _ => (fun h => qbif h (fun _ => (fun h => qbif h (fun _ => (fun h => qbif h (fun _ => (fun h => qbif h (fun _ => (fun h => qbif h (fun hc => (fun h => qmc h (fun e => by subst e; exact ⟨⟨by rw [Nat.eq_of_beq_eq_true hc]; rfl, qn233, ackq_of qk233_e qk233_0⟩, by decide +kernel⟩) (fun h => by cases h))) (fun h => by cases h))) (fun h => qbif h (fun hc => (fun h => qmc h (fun e => by subst e; exact ⟨⟨by rw [Nat.eq_of_beq_eq_true hc]; rfl, qn232, ackq_of qk232_e qk232_0⟩, by decide +kernel⟩) (fun h => by cases h))) (fun h => by cases h)))) (fun h => qbif h (fun hc => (fun h => qmc h (fun e => by subst e; exact ⟨⟨by rw [Nat.eq_of_beq_eq_true hc]; rfl, qn112, ackq_of qk112_e qk112_0⟩, by decide +kernel⟩) (fun h => by cases h))) (fun h => by cases h)))) (fun h => qbif h (fun _ => (fun h => qbif h (fun _ => (fun h => qbif h (fun hc => (fun h => qmc h (fun e => by subst e; exact ⟨⟨by rw [Nat.eq_of_beq_eq_true hc]; rfl, qn223, ackq_of qk223_e qk223_0⟩, by decide +kernel⟩) (fun h => qmc h (fun e => by subst e; exact ⟨⟨by rw [Nat.eq_of_beq_eq_true hc]; rfl, qn224, ackq_of qk224_e qk224_0⟩, by decide +kernel⟩) (fun h => by cases h)))) (fun h => by cases h))) (fun h => qbif h (fun hc => (fun h => qmc h (fun e => by subst e; exact ⟨⟨by rw [Nat.eq_of_beq_eq_true hc]; rfl, qn216, ackq_of qk216_e qk216_0⟩, by decide +kernel⟩) (fun h => qmc h (fun e => by subst e; exact ⟨⟨by rw [Nat.eq_of_beq_eq_true hc]; rfl, qn217, ackq_of qk217_e qk217_0⟩, by decide +kernel⟩) (fun h => by cases h)))) (fun h => by cases h)))) (fun h => qbif h (fun hc => (fun h => qmc h (fun e => by subst e; exact ⟨⟨by rw [Nat.eq_of_beq_eq_true hc]; rfl, qn110, ackq_of qk110_e qk110_0⟩, by decide +kernel⟩) (fun h => qmc h (fun e => by subst e; exact ⟨⟨by rw [Nat.eq_of_beq_eq_true hc]; rfl, qn111, ackq_of qk111_e qk111_0⟩, by decide +kernel⟩) (fun h => by cases h)))) (fun h => by cases h))))) (fun h => qbif h (fun _ => (fun h => qbif h (fun _ => (fun h => qbif h (fun _ => (fun h => qbif h (fun hc => (fun h => qmc h (fun e => by subst e; exact ⟨⟨by rw [Nat.eq_of_beq_eq_true hc]; rfl, qn108, ackq_of qk108_e qk108_0⟩, by decide +kernel⟩) (fun h => qmc h (fun e => by subst e; exact ⟨⟨by rw [Nat.eq_of_beq_eq_true hc]; rfl, qn109, ackq_of qk109_e qk109_0⟩, by decide +kernel⟩) (fun h => by cases h)))) (fun h => by cases h))) (fun h => qbif h (fun hc => (fun h => qmc h (fun e => by subst e; exact ⟨⟨by rw [Nat.eq_of_beq_eq_true hc]; rfl, qn150, ackq_of qk150_e rfl⟩, by decide +kernel⟩) (fun h => qmc h (fun e => by subst e; exact ⟨⟨by rw [Nat.eq_of_beq_eq_true hc]; rfl, qn151, ackq_of qk151_e rfl⟩, by decide +kernel⟩) (fun h => by cases h)))) (fun h => by cases h)))) (fun h => qbif h (fun hc => (fun h => qmc h (fun e => by subst e; exact ⟨⟨by rw [Nat.eq_of_beq_eq_true hc]; rfl, qn198, ackq_of qk198_e qk198_0⟩, by decide +kernel⟩) (fun h => qmc h (fun e => by subst e; exact ⟨⟨by rw [Nat.eq_of_beq_eq_true hc]; rfl, qn199, ackq_of qk199_e qk199_0⟩, by decide +kernel⟩) (fun h => by cases h)))) (fun h => by cases h)))) (fun h => qbif h (fun _ => (fun h => qbif h (fun hc => (fun h => qmc h (fun e => by subst e; exact ⟨⟨by rw [Nat.eq_of_beq_eq_true hc]; rfl, qn148, ackq_of qk148_e rfl⟩, by decide +kernel⟩) (fun h => qmc h (fun e => by subst e; exact ⟨⟨by rw [Nat.eq_of_beq_eq_true hc]; rfl, qn149, ackq_of qk149_e rfl⟩, by decide +kernel⟩) (fun h => by cases h)))) (fun h => by cases h))) (fun h => qbif h (fun hc => (fun h => qmc h (fun e => by subst e; exact ⟨⟨by rw [Nat.eq_of_beq_eq_true hc]; rfl, qn196, ackq_of qk196_e qk196_0⟩, by decide +kernel⟩) (fun h => qmc h (fun e => by subst e; exact ⟨⟨by rw [Nat.eq_of_beq_eq_true hc]; rfl, qn197, ackq_of qk197_e qk197_0⟩, by decide +kernel⟩) (fun h => by cases h)))) (fun h => by cases h)))))) (fun h => qbif h (fun _ => (fun h => qbif h (fun _ => (fun h => qbif h (fun _ => (fun h => qbif h (fun _ => (fun h => qbif h (fun hc => (fun h => qmc h (fun e => by subst e; exact ⟨⟨by rw [Nat.eq_of_beq_eq_true hc]; rfl, qn147, ackq_of qk147_e rfl⟩, by decide +kernel⟩) (fun h => by cases h))) (fun h => by cases h))) (fun h => qbif h (fun hc => (fun h => qmc h (fun e => by subst e; exact ⟨⟨by rw [Nat.eq_of_beq_eq_true hc]; rfl, qn106, ackq_of qk106_e rfl⟩, by decide +kernel⟩) (fun h => qmc h (fun e => by subst e; exact ⟨⟨by rw [Nat.eq_of_beq_eq_true hc]; rfl, qn107, ackq_of qk107_e rfl⟩, by decide +kernel⟩) (fun h => by cases h)))) (fun h => by cases h)))) (fun h => qbif h (fun hc => (fun h => qmc h (fun e => by subst e; exact ⟨⟨by rw [Nat.eq_of_beq_eq_true hc]; rfl, qn105, ackq_of qk105_e qk105_0⟩, by decide +kernel⟩) (fun h => by cases h))) (fun h => by cases h)))) (fun h => qbif h (fun _ => (fun h => qbif h (fun _ => (fun h => qbif h (fun hc => (fun h => qmc h (fun e => by subst e; exact ⟨⟨by rw [Nat.eq_of_beq_eq_true hc]; rfl, qn97, ackq_of qk97_e qk97_0⟩, by decide +kernel⟩) (fun h => qmc h (fun e => by subst e; exact ⟨⟨by rw [Nat.eq_of_beq_eq_true hc]; rfl, qn99, ackq_of qk99_e qk99_0⟩, by decide +kernel⟩) (fun h => qmc h (fun e => by subst e; exact ⟨⟨by rw [Nat.eq_of_beq_eq_true hc]; rfl, qn100, ackq_of qk100_e qk100_0⟩, by decide +kernel⟩) (fun h => qmc h (fun e => by subst e; exact ⟨⟨by rw [Nat.eq_of_beq_eq_true hc]; rfl, qn101, ackq_of qk101_e qk101_0⟩, by decide +kernel⟩) (fun h => qmc h (fun e => by subst e; exact ⟨⟨by rw [Nat.eq_of_beq_eq_true hc]; rfl, qn102, ackq_of qk102_e qk102_0⟩, by decide +kernel⟩) (fun h => qmc h (fun e => by subst e; exact ⟨⟨by rw [Nat.eq_of_beq_eq_true hc]; rfl, qn98, ackq_of qk98_e qk98_0⟩, by decide +kernel⟩) (fun h => qmc h (fun e => by subst e; exact ⟨⟨by rw [Nat.eq_of_beq_eq_true hc]; rfl, qn103, ackq_of qk103_e qk103_0⟩, by decide +kernel⟩) (fun h => qmc h (fun e => by subst e; exact ⟨⟨by rw [Nat.eq_of_beq_eq_true hc]; rfl, qn104, ackq_of qk104_e qk104_0⟩, by decide +kernel⟩) (fun h => by cases h)))))))))) (fun h => by cases h))) (fun h => qbif h (fun hc => (fun h => qmc h (fun e => by subst e; exact ⟨⟨by rw [Nat.eq_of_beq_eq_true hc]; rfl, qn146, ackq_of qk146_e rfl⟩, by decide +kernel⟩) (fun h => by cases h))) (fun h => by cases h)))) (fun h => qbif h (fun hc => (fun h => qmc h (fun e => by subst e; exact ⟨⟨by rw [Nat.eq_of_beq_eq_true hc]; rfl, qn95, ackq_of qk95_e qk95_0⟩, by decide +kernel⟩) (fun h => qmc h (fun e => by subst e; exact ⟨⟨by rw [Nat.eq_of_beq_eq_true hc]; rfl, qn96, ackq_of qk96_e qk96_0⟩, by decide +kernel⟩) (fun h => by cases h)))) (fun h => by cases h))))) (fun h => qbif h (fun _ => (fun h => qbif h (fun _ => (fun h => qbif h (fun _ => (fun h => qbif h (fun hc => (fun h => qmc h (fun e => by subst e; exact ⟨⟨by rw [Nat.eq_of_beq_eq_true hc]; rfl, qn145, ackq_of qk145_e rfl⟩, by decide +kernel⟩) (fun h => by cases h))) (fun h => by cases h))) (fun h => qbif h (fun hc => (fun h => qmc h (fun e => by subst e; exact ⟨⟨by rw [Nat.eq_of_beq_eq_true hc]; rfl, qn90, ackq_of qk90_e rfl⟩, by decide +kernel⟩) (fun h => by cases h))) (fun h => by cases h)))) (fun h => qbif h (fun hc => (fun h => qmc h (fun e => by subst e; exact ⟨⟨by rw [Nat.eq_of_beq_eq_true hc]; rfl, qn282, ackq_of qk282_e (qapp (qapp (qapp (qapp (qapp (qapp (qapp (qapp (qapp (qapp (qapp (qapp (qapp (qapp (qapp (qapp (qapp (qapp (qapp (qapp (qapp (qapp (qapp (qapp (qapp (qapp (qapp (qapp (qapp (qapp (qapp (qapp (qapp (qapp qk282_0 qk282_1) qk282_2) qk282_3) qk282_4) qk282_5) qk282_6) qk282_7) qk282_8) qk282_9) qk282_10) qk282_11) qk282_12) qk282_13) qk282_14) qk282_15) qk282_16) qk282_17) qk282_18) qk282_19) qk282_20) qk282_21) qk282_22) qk282_23) qk282_24) qk282_25) qk282_26) qk282_27) qk282_28) qk282_29) qk282_30) qk282_31) qk282_32) qk282_33) qk282_34)⟩, by decide +kernel⟩) (fun h => by cases h))) (fun h => by cases h)))) (fun h => qbif h (fun _ => (fun h => qbif h (fun hc => (fun h => qmc h (fun e => by subst e; exact ⟨⟨by rw [Nat.eq_of_beq_eq_true hc]; rfl, qn275, ackq_of qk275_e rfl⟩, by decide +kernel⟩) (fun h => qmc h (fun e => by subst e; exact ⟨⟨by rw [Nat.eq_of_beq_eq_true hc]; rfl, qn89, ackq_of qk89_e rfl⟩, by decide +kernel⟩) (fun h => by cases h)))) (fun h => by cases h))) (fun h => qbif h (fun hc => (fun h => qmc h (fun e => by subst e; exact ⟨⟨by rw [Nat.eq_of_beq_eq_true hc]; rfl, qn276, ackq_of qk276_e qk276_0⟩, by decide +kernel⟩) (fun h => qmc h (fun e => by subst e; exact ⟨⟨by rw [Nat.eq_of_beq_eq_true hc]; rfl, qn144, ackq_of qk144_e rfl⟩, by decide +kernel⟩) (fun h => by cases h)))) (fun h => by cases h))))))) (fun h => qbif h (fun _ => (fun h => qbif h (fun _ => (fun h => qbif h (fun _ => (fun h => qbif h (fun _ => (fun h => qbif h (fun _ => (fun h => qbif h (fun hc => (fun h => qmc h (fun e => by subst e; exact ⟨⟨by rw [Nat.eq_of_beq_eq_true hc]; rfl, qn277, ackq_of qk277_e qk277_0⟩, by decide +kernel⟩) (fun h => qmc h (fun e => by subst e; exact ⟨⟨by rw [Nat.eq_of_beq_eq_true hc]; rfl, qn195, ackq_of qk195_e rfl⟩, by decide +kernel⟩) (fun h => by cases h)))) (fun h => by cases h))) (fun h => qbif h (fun hc => (fun h => qmc h (fun e => by subst e; exact ⟨⟨by rw [Nat.eq_of_beq_eq_true hc]; rfl, qn278, ackq_of qk278_e (qapp qk278_0 qk278_1)⟩, by decide +kernel⟩) (fun h => qmc h (fun e => by subst e; exact ⟨⟨by rw [Nat.eq_of_beq_eq_true hc]; rfl, qn215, ackq_of qk215_e rfl⟩, by decide +kernel⟩) (fun h => by cases h)))) (fun h => by cases h)))) (fun h => qbif h (fun hc => (fun h => qmc h (fun e => by subst e; exact ⟨⟨by rw [Nat.eq_of_beq_eq_true hc]; rfl, qn279, ackq_of qk279_e qk279_0⟩, by decide +kernel⟩) (fun h => qmc h (fun e => by subst e; exact ⟨⟨by rw [Nat.eq_of_beq_eq_true hc]; rfl, qn222, ackq_of qk222_e rfl⟩, by decide +kernel⟩) (fun h => by cases h)))) (fun h => by cases h)))) (fun h => qbif h (fun _ => (fun h => qbif h (fun _ => (fun h => qbif h (fun hc => (fun h => qmc h (fun e => by subst e; exact ⟨⟨by rw [Nat.eq_of_beq_eq_true hc]; rfl, qn280, ackq_of qk280_e qk280_0⟩, by decide +kernel⟩) (fun h => by cases h))) (fun h => by cases h))) (fun h => qbif h (fun hc => (fun h => qmc h (fun e => by subst e; exact ⟨⟨by rw [Nat.eq_of_beq_eq_true hc]; rfl, qn82, ackq_of qk82_e rfl⟩, by decide +kernel⟩) (fun h => by cases h))) (fun h => by cases h)))) (fun h => qbif h (fun hc => (fun h => qmc h (fun e => by subst e; exact ⟨⟨by rw [Nat.eq_of_beq_eq_true hc]; rfl, qn281, ackq_of qk281_e (qapp (qapp (qapp (qapp (qapp (qapp (qapp (qapp (qapp (qapp (qapp (qapp (qapp (qapp (qapp (qapp (qapp (qapp (qapp (qapp (qapp (qapp (qapp (qapp (qapp (qapp (qapp (qapp (qapp qk281_0 qk281_1) qk281_2) qk281_3) qk281_4) qk281_5) qk281_6) qk281_7) qk281_8) qk281_9) qk281_10) qk281_11) qk281_12) qk281_13) qk281_14) qk281_15) qk281_16) qk281_17) qk281_18) qk281_19) qk281_20) qk281_21) qk281_22) qk281_23) qk281_24) qk281_25) qk281_26) qk281_27) qk281_28) qk281_29)⟩, by decide +kernel⟩) (fun h => by cases h))) (fun h => by cases h))))) (fun h => qbif h (fun _ => (fun h => qbif h (fun _ => (fun h => qbif h (fun _ => (fun h => qbif h (fun hc => (fun h => qmc h (fun e => by subst e; exact ⟨⟨by rw [Nat.eq_of_beq_eq_true hc]; rfl, qn76, ackq_of qk76_e qk76_0⟩, by decide +kernel⟩) (fun h => qmc h (fun e => by subst e; exact ⟨⟨by rw [Nat.eq_of_beq_eq_true hc]; rfl, qn77, ackq_of qk77_e qk77_0⟩, by decide +kernel⟩) (fun h => by cases h)))) (fun h => by cases h))) (fun h => qbif h (fun hc => (fun h => qmc h (fun e => by subst e; exact ⟨⟨by rw [Nat.eq_of_beq_eq_true hc]; rfl, qn58, ackq_of qk58_e rfl⟩, by decide +kernel⟩) (fun h => qmc h (fun e => by subst e; exact ⟨⟨by rw [Nat.eq_of_beq_eq_true hc]; rfl, qn59, ackq_of qk59_e rfl⟩, by decide +kernel⟩) (fun h => qmc h (fun e => by subst e; exact ⟨⟨by rw [Nat.eq_of_beq_eq_true hc]; rfl, qn60, ackq_of qk60_e rfl⟩, by decide +kernel⟩) (fun h => qmc h (fun e => by subst e; exact ⟨⟨by rw [Nat.eq_of_beq_eq_true hc]; rfl, qn61, ackq_of qk61_e rfl⟩, by decide +kernel⟩) (fun h => qmc h (fun e => by subst e; exact ⟨⟨by rw [Nat.eq_of_beq_eq_true hc]; rfl, qn62, ackq_of qk62_e rfl⟩, by decide +kernel⟩) (fun h => qmc h (fun e => by subst e; exact ⟨⟨by rw [Nat.eq_of_beq_eq_true hc]; rfl, qn63, ackq_of qk63_e rfl⟩, by decide +kernel⟩) (fun h => qmc h (fun e => by subst e; exact ⟨⟨by rw [Nat.eq_of_beq_eq_true hc]; rfl, qn188, ackq_of qk188_e rfl⟩, by decide +kernel⟩) (fun h => qmc h (fun e => by subst e; exact ⟨⟨by rw [Nat.eq_of_beq_eq_true hc]; rfl, qn189, ackq_of qk189_e rfl⟩, by decide +kernel⟩) (fun h => qmc h (fun e => by subst e; exact ⟨⟨by rw [Nat.eq_of_beq_eq_true hc]; rfl, qn190, ackq_of qk190_e rfl⟩, by decide +kernel⟩) (fun h => qmc h (fun e => by subst e; exact ⟨⟨by rw [Nat.eq_of_beq_eq_true hc]; rfl, qn191, ackq_of qk191_e rfl⟩, by decide +kernel⟩) (fun h => qmc h (fun e => by subst e; exact ⟨⟨by rw [Nat.eq_of_beq_eq_true hc]; rfl, qn192, ackq_of qk192_e rfl⟩, by decide +kernel⟩) (fun h => qmc h (fun e => by subst e; exact ⟨⟨by rw [Nat.eq_of_beq_eq_true hc]; rfl, qn194, ackq_of qk194_e rfl⟩, by decide +kernel⟩) (fun h => qmc h (fun e => by subst e; exact ⟨⟨by rw [Nat.eq_of_beq_eq_true hc]; rfl, qn193, ackq_of qk193_e rfl⟩, by decide +kernel⟩) (fun h => qmc h (fun e => by subst e; exact ⟨⟨by rw [Nat.eq_of_beq_eq_true hc]; rfl, qn64, ackq_of qk64_e rfl⟩, by decide +kernel⟩) (fun h => qmc h (fun e => by subst e; exact ⟨⟨by rw [Nat.eq_of_beq_eq_true hc]; rfl, qn65, ackq_of qk65_e rfl⟩, by decide +kernel⟩) (fun h => qmc h (fun e => by subst e; exact ⟨⟨by rw [Nat.eq_of_beq_eq_true hc]; rfl, qn66, ackq_of qk66_e rfl⟩, by decide +kernel⟩) (fun h => qmc h (fun e => by subst e; exact ⟨⟨by rw [Nat.eq_of_beq_eq_true hc]; rfl, qn67, ackq_of qk67_e rfl⟩, by decide +kernel⟩) (fun h => qmc h (fun e => by subst e; exact ⟨⟨by rw [Nat.eq_of_beq_eq_true hc]; rfl, qn68, ackq_of qk68_e rfl⟩, by decide +kernel⟩) (fun h => qmc h (fun e => by subst e; exact ⟨⟨by rw [Nat.eq_of_beq_eq_true hc]; rfl, qn69, ackq_of qk69_e rfl⟩, by decide +kernel⟩) (fun h => qmc h (fun e => by subst e; exact ⟨⟨by rw [Nat.eq_of_beq_eq_true hc]; rfl, qn70, ackq_of qk70_e rfl⟩, by decide +kernel⟩) (fun h => qmc h (fun e => by subst e; exact ⟨⟨by rw [Nat.eq_of_beq_eq_true hc]; rfl, qn71, ackq_of qk71_e rfl⟩, by decide +kernel⟩) (fun h => qmc h (fun e => by subst e; exact ⟨⟨by rw [Nat.eq_of_beq_eq_true hc]; rfl, qn72, ackq_of qk72_e rfl⟩, by decide +kernel⟩) (fun h => qmc h (fun e => by subst e; exact ⟨⟨by rw [Nat.eq_of_beq_eq_true hc]; rfl, qn73, ackq_of qk73_e rfl⟩, by decide +kernel⟩) (fun h => qmc h (fun e => by subst e; exact ⟨⟨by rw [Nat.eq_of_beq_eq_true hc]; rfl, qn74, ackq_of qk74_e rfl⟩, by decide +kernel⟩) (fun h => qmc h (fun e => by subst e; exact ⟨⟨by rw [Nat.eq_of_beq_eq_true hc]; rfl, qn75, ackq_of qk75_e rfl⟩, by decide +kernel⟩) (fun h => by cases h))))))))))))))))))))))))))) (fun h => by cases h)))) (fun h => qbif h (fun hc => (fun h => qmc h (fun e => by subst e; exact ⟨⟨by rw [Nat.eq_of_beq_eq_true hc]; rfl, qn57, ackq_of qk57_e (qapp (qapp (qapp (qapp (qapp (qapp (qapp (qapp (qapp (qapp (qapp (qapp (qapp (qapp (qapp (qapp (qapp (qapp (qapp (qapp (qapp (qapp (qapp (qapp (qapp (qapp (qapp (qapp (qapp (qapp (qapp (qapp (qapp (qapp (qapp (qapp (qapp (qapp (qapp (qapp (qapp (qapp (qapp (qapp qk57_0 qk57_1) qk57_2) qk57_3) qk57_4) qk57_5) qk57_6) qk57_7) qk57_8) qk57_9) qk57_10) qk57_11) qk57_12) qk57_13) qk57_14) qk57_15) qk57_16) qk57_17) qk57_18) qk57_19) qk57_20) qk57_21) qk57_22) qk57_23) qk57_24) qk57_25) qk57_26) qk57_27) qk57_28) qk57_29) qk57_30) qk57_31) qk57_32) qk57_33) qk57_34) qk57_35) qk57_36) qk57_37) qk57_38) qk57_39) qk57_40) qk57_41) qk57_42) qk57_43) qk57_44)⟩, by decide +kernel⟩) (fun h => by cases h))) (fun h => by cases h)))) (fun h => qbif h (fun _ => (fun h => qbif h (fun hc => (fun h => qmc h (fun e => by subst e; exact ⟨⟨by rw [Nat.eq_of_beq_eq_true hc]; rfl, qn56, ackq_of qk56_e rfl⟩, by decide +kernel⟩) (fun h => by cases h))) (fun h => by cases h))) (fun h => qbif h (fun hc => (fun h => qmc h (fun e => by subst e; exact ⟨⟨by rw [Nat.eq_of_beq_eq_true hc]; rfl, qn143, ackq_of qk143_e (qapp (qapp qk143_0 qk143_1) qk143_2)⟩, by decide +kernel⟩) (fun h => by cases h))) (fun h => by cases h)))))) (fun h => qbif h (fun _ => (fun h => qbif h (fun _ => (fun h => qbif h (fun _ => (fun h => qbif h (fun _ => (fun h => qbif h (fun hc => (fun h => qmc h (fun e => by subst e; exact ⟨⟨by rw [Nat.eq_of_beq_eq_true hc]; rfl, qn55, ackq_of qk55_e qk55_0⟩, by decide +kernel⟩) (fun h => by cases h))) (fun h => by cases h))) (fun h => qbif h (fun hc => (fun h => qmc h (fun e => by subst e; exact ⟨⟨by rw [Nat.eq_of_beq_eq_true hc]; rfl, qn246, ackq_of qk246_e qk246_0⟩, by decide +kernel⟩) (fun h => by cases h))) (fun h => by cases h)))) (fun h => qbif h (fun hc => (fun h => qmc h (fun e => by subst e; exact ⟨⟨by rw [Nat.eq_of_beq_eq_true hc]; rfl, qn54, ackq_of qk54_e rfl⟩, by decide +kernel⟩) (fun h => by cases h))) (fun h => by cases h)))) (fun h => qbif h (fun _ => (fun h => qbif h (fun hc => (fun h => qmc h (fun e => by subst e; exact ⟨⟨by rw [Nat.eq_of_beq_eq_true hc]; rfl, qn53, ackq_of qk53_e rfl⟩, by decide +kernel⟩) (fun h => by cases h))) (fun h => by cases h))) (fun h => qbif h (fun hc => (fun h => qmc h (fun e => by subst e; exact ⟨⟨by rw [Nat.eq_of_beq_eq_true hc]; rfl, qn52, ackq_of qk52_e rfl⟩, by decide +kernel⟩) (fun h => by cases h))) (fun h => by cases h))))) (fun h => qbif h (fun _ => (fun h => qbif h (fun _ => (fun h => qbif h (fun _ => (fun h => qbif h (fun hc => (fun h => qmc h (fun e => by subst e; exact ⟨⟨by rw [Nat.eq_of_beq_eq_true hc]; rfl, qn51, ackq_of qk51_e qk51_0⟩, by decide +kernel⟩) (fun h => by cases h))) (fun h => by cases h))) (fun h => qbif h (fun hc => (fun h => qmc h (fun e => by subst e; exact ⟨⟨by rw [Nat.eq_of_beq_eq_true hc]; rfl, qn231, ackq_of qk231_e rfl⟩, by decide +kernel⟩) (fun h => by cases h))) (fun h => by cases h)))) (fun h => qbif h (fun hc => (fun h => qmc h (fun e => by subst e; exact ⟨⟨by rw [Nat.eq_of_beq_eq_true hc]; rfl, qn245, ackq_of qk245_e qk245_0⟩, by decide +kernel⟩) (fun h => by cases h))) (fun h => by cases h)))) (fun h => qbif h (fun _ => (fun h => qbif h (fun hc => (fun h => qmc h (fun e => by subst e; exact ⟨⟨by rw [Nat.eq_of_beq_eq_true hc]; rfl, qn263, ackq_of qk263_e qk263_0⟩, by decide +kernel⟩) (fun h => by cases h))) (fun h => by cases h))) (fun h => qbif h (fun hc => (fun h => qmc h (fun e => by subst e; exact ⟨⟨by rw [Nat.eq_of_beq_eq_true hc]; rfl, qn262, ackq_of qk262_e qk262_0⟩, by decide +kernel⟩) (fun h => by cases h))) (fun h => by cases h))))))))) (fun h => qbif h (fun _ => (fun h => qbif h (fun _ => (fun h => qbif h (fun _ => (fun h => qbif h (fun _ => (fun h => qbif h (fun _ => (fun h => qbif h (fun _ => (fun h => qbif h (fun _ => (fun h => qbif h (fun hc => (fun h => qmc h (fun e => by subst e; exact ⟨⟨by rw [Nat.eq_of_beq_eq_true hc]; rfl, qn261, ackq_of qk261_e qk261_0⟩, by decide +kernel⟩) (fun h => by cases h))) (fun h => by cases h))) (fun h => qbif h (fun hc => (fun h => qmc h (fun e => by subst e; exact ⟨⟨by rw [Nat.eq_of_beq_eq_true hc]; rfl, qn260, ackq_of qk260_e qk260_0⟩, by decide +kernel⟩) (fun h => by cases h))) (fun h => by cases h)))) (fun h => qbif h (fun hc => (fun h => qmc h (fun e => by subst e; exact ⟨⟨by rw [Nat.eq_of_beq_eq_true hc]; rfl, qn259, ackq_of qk259_e qk259_0⟩, by decide +kernel⟩) (fun h => by cases h))) (fun h => by cases h)))) (fun h => qbif h (fun _ => (fun h => qbif h (fun _ => (fun h => qbif h (fun hc => (fun h => qmc h (fun e => by subst e; exact ⟨⟨by rw [Nat.eq_of_beq_eq_true hc]; rfl, qn244, ackq_of qk244_e rfl⟩, by decide +kernel⟩) (fun h => by cases h))) (fun h => by cases h))) (fun h => qbif h (fun hc => (fun h => qmc h (fun e => by subst e; exact ⟨⟨by rw [Nat.eq_of_beq_eq_true hc]; rfl, qn258, ackq_of qk258_e qk258_0⟩, by decide +kernel⟩) (fun h => by cases h))) (fun h => by cases h)))) (fun h => qbif h (fun hc => (fun h => qmc h (fun e => by subst e; exact ⟨⟨by rw [Nat.eq_of_beq_eq_true hc]; rfl, qn243, ackq_of qk243_e qk243_0⟩, by decide +kernel⟩) (fun h => by cases h))) (fun h => by cases h))))) (fun h => qbif h (fun _ => (fun h => qbif h (fun _ => (fun h => qbif h (fun _ => (fun h => qbif h (fun hc => (fun h => qmc h (fun e => by subst e; exact ⟨⟨by rw [Nat.eq_of_beq_eq_true hc]; rfl, qn50, ackq_of qk50_e qk50_0⟩, by decide +kernel⟩) (fun h => by cases h))) (fun h => by cases h))) (fun h => qbif h (fun hc => (fun h => qmc h (fun e => by subst e; exact ⟨⟨by rw [Nat.eq_of_beq_eq_true hc]; rfl, qn257, ackq_of qk257_e qk257_0⟩, by decide +kernel⟩) (fun h => by cases h))) (fun h => by cases h)))) (fun h => qbif h (fun hc => (fun h => qmc h (fun e => by subst e; exact ⟨⟨by rw [Nat.eq_of_beq_eq_true hc]; rfl, qn256, ackq_of qk256_e qk256_0⟩, by decide +kernel⟩) (fun h => by cases h))) (fun h => by cases h)))) (fun h => qbif h (fun _ => (fun h => qbif h (fun hc => (fun h => qmc h (fun e => by subst e; exact ⟨⟨by rw [Nat.eq_of_beq_eq_true hc]; rfl, qn255, ackq_of qk255_e qk255_0⟩, by decide +kernel⟩) (fun h => by cases h))) (fun h => by cases h))) (fun h => qbif h (fun hc => (fun h => qmc h (fun e => by subst e; exact ⟨⟨by rw [Nat.eq_of_beq_eq_true hc]; rfl, qn242, ackq_of qk242_e rfl⟩, by decide +kernel⟩) (fun h => by cases h))) (fun h => by cases h)))))) (fun h => qbif h (fun _ => (fun h => qbif h (fun _ => (fun h => qbif h (fun _ => (fun h => qbif h (fun _ => (fun h => qbif h (fun hc => (fun h => qmc h (fun e => by subst e; exact ⟨⟨by rw [Nat.eq_of_beq_eq_true hc]; rfl, qn254, ackq_of qk254_e qk254_0⟩, by decide +kernel⟩) (fun h => by cases h))) (fun h => by cases h))) (fun h => qbif h (fun hc => (fun h => qmc h (fun e => by subst e; exact ⟨⟨by rw [Nat.eq_of_beq_eq_true hc]; rfl, qn241, ackq_of qk241_e rfl⟩, by decide +kernel⟩) (fun h => by cases h))) (fun h => by cases h)))) (fun h => qbif h (fun hc => (fun h => qmc h (fun e => by subst e; exact ⟨⟨by rw [Nat.eq_of_beq_eq_true hc]; rfl, qn230, ackq_of qk230_e qk230_0⟩, by decide +kernel⟩) (fun h => by cases h))) (fun h => by cases h)))) (fun h => qbif h (fun _ => (fun h => qbif h (fun _ => (fun h => qbif h (fun hc => (fun h => qmc h (fun e => by subst e; exact ⟨⟨by rw [Nat.eq_of_beq_eq_true hc]; rfl, qn240, ackq_of qk240_e rfl⟩, by decide +kernel⟩) (fun h => by cases h))) (fun h => by cases h))) (fun h => qbif h (fun hc => (fun h => qmc h (fun e => by subst e; exact ⟨⟨by rw [Nat.eq_of_beq_eq_true hc]; rfl, qn253, ackq_of qk253_e rfl⟩, by decide +kernel⟩) (fun h => by cases h))) (fun h => by cases h)))) (fun h => qbif h (fun hc => (fun h => qmc h (fun e => by subst e; exact ⟨⟨by rw [Nat.eq_of_beq_eq_true hc]; rfl, qn239, ackq_of qk239_e rfl⟩, by decide +kernel⟩) (fun h => by cases h))) (fun h => by cases h))))) (fun h => qbif h (fun _ => (fun h => qbif h (fun _ => (fun h => qbif h (fun _ => (fun h => qbif h (fun hc => (fun h => qmc h (fun e => by subst e; exact ⟨⟨by rw [Nat.eq_of_beq_eq_true hc]; rfl, qn238, ackq_of qk238_e rfl⟩, by decide +kernel⟩) (fun h => by cases h))) (fun h => by cases h))) (fun h => qbif h (fun hc => (fun h => qmc h (fun e => by subst e; exact ⟨⟨by rw [Nat.eq_of_beq_eq_true hc]; rfl, qn187, ackq_of qk187_e rfl⟩, by decide +kernel⟩) (fun h => by cases h))) (fun h => by cases h)))) (fun h => qbif h (fun hc => (fun h => qmc h (fun e => by subst e; exact ⟨⟨by rw [Nat.eq_of_beq_eq_true hc]; rfl, qn186, ackq_of qk186_e rfl⟩, by decide +kernel⟩) (fun h => by cases h))) (fun h => by cases h)))) (fun h => qbif h (fun _ => (fun h => qbif h (fun hc => (fun h => qmc h (fun e => by subst e; exact ⟨⟨by rw [Nat.eq_of_beq_eq_true hc]; rfl, qn49, ackq_of qk49_e rfl⟩, by decide +kernel⟩) (fun h => by cases h))) (fun h => by cases h))) (fun h => qbif h (fun hc => (fun h => qmc h (fun e => by subst e; exact ⟨⟨by rw [Nat.eq_of_beq_eq_true hc]; rfl, qn185, ackq_of qk185_e rfl⟩, by decide +kernel⟩) (fun h => by cases h))) (fun h => by cases h))))))) (fun h => qbif h (fun _ => (fun h => qbif h (fun _ => (fun h => qbif h (fun _ => (fun h => qbif h (fun _ => (fun h => qbif h (fun _ => (fun h => qbif h (fun hc => (fun h => qmc h (fun e => by subst e; exact ⟨⟨by rw [Nat.eq_of_beq_eq_true hc]; rfl, qn184, ackq_of qk184_e rfl⟩, by decide +kernel⟩) (fun h => by cases h))) (fun h => by cases h))) (fun h => qbif h (fun hc => (fun h => qmc h (fun e => by subst e; exact ⟨⟨by rw [Nat.eq_of_beq_eq_true hc]; rfl, qn183, ackq_of qk183_e rfl⟩, by decide +kernel⟩) (fun h => by cases h))) (fun h => by cases h)))) (fun h => qbif h (fun hc => (fun h => qmc h (fun e => by subst e; exact ⟨⟨by rw [Nat.eq_of_beq_eq_true hc]; rfl, qn142, ackq_of qk142_e rfl⟩, by decide +kernel⟩) (fun h => by cases h))) (fun h => by cases h)))) (fun h => qbif h (fun _ => (fun h => qbif h (fun _ => (fun h => qbif h (fun hc => (fun h => qmc h (fun e => by subst e; exact ⟨⟨by rw [Nat.eq_of_beq_eq_true hc]; rfl, qn182, ackq_of qk182_e rfl⟩, by decide +kernel⟩) (fun h => by cases h))) (fun h => by cases h))) (fun h => qbif h (fun hc => (fun h => qmc h (fun e => by subst e; exact ⟨⟨by rw [Nat.eq_of_beq_eq_true hc]; rfl, qn181, ackq_of qk181_e rfl⟩, by decide +kernel⟩) (fun h => by cases h))) (fun h => by cases h)))) (fun h => qbif h (fun hc => (fun h => qmc h (fun e => by subst e; exact ⟨⟨by rw [Nat.eq_of_beq_eq_true hc]; rfl, qn48, ackq_of qk48_e rfl⟩, by decide +kernel⟩) (fun h => by cases h))) (fun h => by cases h))))) (fun h => qbif h (fun _ => (fun h => qbif h (fun _ => (fun h => qbif h (fun _ => (fun h => qbif h (fun hc => (fun h => qmc h (fun e => by subst e; exact ⟨⟨by rw [Nat.eq_of_beq_eq_true hc]; rfl, qn47, ackq_of qk47_e rfl⟩, by decide +kernel⟩) (fun h => by cases h))) (fun h => by cases h))) (fun h => qbif h (fun hc => (fun h => qmc h (fun e => by subst e; exact ⟨⟨by rw [Nat.eq_of_beq_eq_true hc]; rfl, qn46, ackq_of qk46_e rfl⟩, by decide +kernel⟩) (fun h => by cases h))) (fun h => by cases h)))) (fun h => qbif h (fun hc => (fun h => qmc h (fun e => by subst e; exact ⟨⟨by rw [Nat.eq_of_beq_eq_true hc]; rfl, qn45, ackq_of qk45_e rfl⟩, by decide +kernel⟩) (fun h => by cases h))) (fun h => by cases h)))) (fun h => qbif h (fun _ => (fun h => qbif h (fun hc => (fun h => qmc h (fun e => by subst e; exact ⟨⟨by rw [Nat.eq_of_beq_eq_true hc]; rfl, qn141, ackq_of qk141_e rfl⟩, by decide +kernel⟩) (fun h => by cases h))) (fun h => by cases h))) (fun h => qbif h (fun hc => (fun h => qmc h (fun e => by subst e; exact ⟨⟨by rw [Nat.eq_of_beq_eq_true hc]; rfl, qn44, ackq_of qk44_e rfl⟩, by decide +kernel⟩) (fun h => by cases h))) (fun h => by cases h)))))) (fun h => qbif h (fun _ => (fun h => qbif h (fun _ => (fun h => qbif h (fun _ => (fun h => qbif h (fun _ => (fun h => qbif h (fun hc => (fun h => qmc h (fun e => by subst e; exact ⟨⟨by rw [Nat.eq_of_beq_eq_true hc]; rfl, qn237, ackq_of qk237_e rfl⟩, by decide +kernel⟩) (fun h => by cases h))) (fun h => by cases h))) (fun h => qbif h (fun hc => (fun h => qmc h (fun e => by subst e; exact ⟨⟨by rw [Nat.eq_of_beq_eq_true hc]; rfl, qn43, ackq_of qk43_e rfl⟩, by decide +kernel⟩) (fun h => by cases h))) (fun h => by cases h)))) (fun h => qbif h (fun hc => (fun h => qmc h (fun e => by subst e; exact ⟨⟨by rw [Nat.eq_of_beq_eq_true hc]; rfl, qn140, ackq_of qk140_e rfl⟩, by decide +kernel⟩) (fun h => by cases h))) (fun h => by cases h)))) (fun h => qbif h (fun _ => (fun h => qbif h (fun hc => (fun h => qmc h (fun e => by subst e; exact ⟨⟨by rw [Nat.eq_of_beq_eq_true hc]; rfl, qn42, ackq_of qk42_e qk42_0⟩, by decide +kernel⟩) (fun h => by cases h))) (fun h => by cases h))) (fun h => qbif h (fun hc => (fun h => qmc h (fun e => by subst e; exact ⟨⟨by rw [Nat.eq_of_beq_eq_true hc]; rfl, qn139, ackq_of qk139_e rfl⟩, by decide +kernel⟩) (fun h => by cases h))) (fun h => by cases h))))) (fun h => qbif h (fun _ => (fun h => qbif h (fun _ => (fun h => qbif h (fun _ => (fun h => qbif h (fun hc => (fun h => qmc h (fun e => by subst e; exact ⟨⟨by rw [Nat.eq_of_beq_eq_true hc]; rfl, qn39, ackq_of qk39_e qk39_0⟩, by decide +kernel⟩) (fun h => qmc h (fun e => by subst e; exact ⟨⟨by rw [Nat.eq_of_beq_eq_true hc]; rfl, qn40, ackq_of qk40_e qk40_0⟩, by decide +kernel⟩) (fun h => qmc h (fun e => by subst e; exact ⟨⟨by rw [Nat.eq_of_beq_eq_true hc]; rfl, qn41, ackq_of qk41_e qk41_0⟩, by decide +kernel⟩) (fun h => by cases h))))) (fun h => by cases h))) (fun h => qbif h (fun hc => (fun h => qmc h (fun e => by subst e; exact ⟨⟨by rw [Nat.eq_of_beq_eq_true hc]; rfl, qn38, ackq_of qk38_e qk38_0⟩, by decide +kernel⟩) (fun h => by cases h))) (fun h => by cases h)))) (fun h => qbif h (fun hc => (fun h => qmc h (fun e => by subst e; exact ⟨⟨by rw [Nat.eq_of_beq_eq_true hc]; rfl, qn37, ackq_of qk37_e qk37_0⟩, by decide +kernel⟩) (fun h => by cases h))) (fun h => by cases h)))) (fun h => qbif h (fun _ => (fun h => qbif h (fun hc => (fun h => qmc h (fun e => by subst e; exact ⟨⟨by rw [Nat.eq_of_beq_eq_true hc]; rfl, qn138, ackq_of qk138_e qk138_0⟩, by decide +kernel⟩) (fun h => by cases h))) (fun h => by cases h))) (fun h => qbif h (fun hc => (fun h => qmc h (fun e => by subst e; exact ⟨⟨by rw [Nat.eq_of_beq_eq_true hc]; rfl, qn180, ackq_of qk180_e rfl⟩, by decide +kernel⟩) (fun h => by cases h))) (fun h => by cases h)))))))) (fun h => qbif h (fun _ => (fun h => qbif h (fun _ => (fun h => qbif h (fun _ => (fun h => qbif h (fun _ => (fun h => qbif h (fun _ => (fun h => qbif h (fun _ => (fun h => qbif h (fun hc => (fun h => qmc h (fun e => by subst e; exact ⟨⟨by rw [Nat.eq_of_beq_eq_true hc]; rfl, qn34, ackq_of qk34_e qk34_0⟩, by decide +kernel⟩) (fun h => qmc h (fun e => by subst e; exact ⟨⟨by rw [Nat.eq_of_beq_eq_true hc]; rfl, qn35, ackq_of qk35_e qk35_0⟩, by decide +kernel⟩) (fun h => qmc h (fun e => by subst e; exact ⟨⟨by rw [Nat.eq_of_beq_eq_true hc]; rfl, qn36, ackq_of qk36_e qk36_0⟩, by decide +kernel⟩) (fun h => by cases h))))) (fun h => by cases h))) (fun h => qbif h (fun hc => (fun h => qmc h (fun e => by subst e; exact ⟨⟨by rw [Nat.eq_of_beq_eq_true hc]; rfl, qn177, ackq_of qk177_e rfl⟩, by decide +kernel⟩) (fun h => qmc h (fun e => by subst e; exact ⟨⟨by rw [Nat.eq_of_beq_eq_true hc]; rfl, qn178, ackq_of qk178_e rfl⟩, by decide +kernel⟩) (fun h => qmc h (fun e => by subst e; exact ⟨⟨by rw [Nat.eq_of_beq_eq_true hc]; rfl, qn179, ackq_of qk179_e rfl⟩, by decide +kernel⟩) (fun h => by cases h))))) (fun h => by cases h)))) (fun h => qbif h (fun hc => (fun h => qmc h (fun e => by subst e; exact ⟨⟨by rw [Nat.eq_of_beq_eq_true hc]; rfl, qn212, ackq_of qk212_e qk212_0⟩, by decide +kernel⟩) (fun h => qmc h (fun e => by subst e; exact ⟨⟨by rw [Nat.eq_of_beq_eq_true hc]; rfl, qn213, ackq_of qk213_e qk213_0⟩, by decide +kernel⟩) (fun h => qmc h (fun e => by subst e; exact ⟨⟨by rw [Nat.eq_of_beq_eq_true hc]; rfl, qn214, ackq_of qk214_e qk214_0⟩, by decide +kernel⟩) (fun h => by cases h))))) (fun h => by cases h)))) (fun h => qbif h (fun _ => (fun h => qbif h (fun _ => (fun h => qbif h (fun hc => (fun h => qmc h (fun e => by subst e; exact ⟨⟨by rw [Nat.eq_of_beq_eq_true hc]; rfl, qn31, ackq_of qk31_e qk31_0⟩, by decide +kernel⟩) (fun h => qmc h (fun e => by subst e; exact ⟨⟨by rw [Nat.eq_of_beq_eq_true hc]; rfl, qn32, ackq_of qk32_e qk32_0⟩, by decide +kernel⟩) (fun h => qmc h (fun e => by subst e; exact ⟨⟨by rw [Nat.eq_of_beq_eq_true hc]; rfl, qn33, ackq_of qk33_e qk33_0⟩, by decide +kernel⟩) (fun h => by cases h))))) (fun h => by cases h))) (fun h => qbif h (fun hc => (fun h => qmc h (fun e => by subst e; exact ⟨⟨by rw [Nat.eq_of_beq_eq_true hc]; rfl, qn28, ackq_of qk28_e qk28_0⟩, by decide +kernel⟩) (fun h => qmc h (fun e => by subst e; exact ⟨⟨by rw [Nat.eq_of_beq_eq_true hc]; rfl, qn29, ackq_of qk29_e qk29_0⟩, by decide +kernel⟩) (fun h => qmc h (fun e => by subst e; exact ⟨⟨by rw [Nat.eq_of_beq_eq_true hc]; rfl, qn30, ackq_of qk30_e qk30_0⟩, by decide +kernel⟩) (fun h => by cases h))))) (fun h => by cases h)))) (fun h => qbif h (fun hc => (fun h => qmc h (fun e => by subst e; exact ⟨⟨by rw [Nat.eq_of_beq_eq_true hc]; rfl, qn174, ackq_of qk174_e rfl⟩, by decide +kernel⟩) (fun h => qmc h (fun e => by subst e; exact ⟨⟨by rw [Nat.eq_of_beq_eq_true hc]; rfl, qn175, ackq_of qk175_e rfl⟩, by decide +kernel⟩) (fun h => qmc h (fun e => by subst e; exact ⟨⟨by rw [Nat.eq_of_beq_eq_true hc]; rfl, qn176, ackq_of qk176_e rfl⟩, by decide +kernel⟩) (fun h => by cases h))))) (fun h => by cases h))))) (fun h => qbif h (fun _ => (fun h => qbif h (fun _ => (fun h => qbif h (fun _ => (fun h => qbif h (fun hc => (fun h => qmc h (fun e => by subst e; exact ⟨⟨by rw [Nat.eq_of_beq_eq_true hc]; rfl, qn209, ackq_of qk209_e qk209_0⟩, by decide +kernel⟩) (fun h => qmc h (fun e => by subst e; exact ⟨⟨by rw [Nat.eq_of_beq_eq_true hc]; rfl, qn210, ackq_of qk210_e qk210_0⟩, by decide +kernel⟩) (fun h => qmc h (fun e => by subst e; exact ⟨⟨by rw [Nat.eq_of_beq_eq_true hc]; rfl, qn211, ackq_of qk211_e qk211_0⟩, by decide +kernel⟩) (fun h => by cases h))))) (fun h => by cases h))) (fun h => qbif h (fun hc => (fun h => qmc h (fun e => by subst e; exact ⟨⟨by rw [Nat.eq_of_beq_eq_true hc]; rfl, qn25, ackq_of qk25_e rfl⟩, by decide +kernel⟩) (fun h => qmc h (fun e => by subst e; exact ⟨⟨by rw [Nat.eq_of_beq_eq_true hc]; rfl, qn26, ackq_of qk26_e rfl⟩, by decide +kernel⟩) (fun h => qmc h (fun e => by subst e; exact ⟨⟨by rw [Nat.eq_of_beq_eq_true hc]; rfl, qn27, ackq_of qk27_e rfl⟩, by decide +kernel⟩) (fun h => by cases h))))) (fun h => by cases h)))) (fun h => qbif h (fun hc => (fun h => qmc h (fun e => by subst e; exact ⟨⟨by rw [Nat.eq_of_beq_eq_true hc]; rfl, qn171, ackq_of qk171_e rfl⟩, by decide +kernel⟩) (fun h => qmc h (fun e => by subst e; exact ⟨⟨by rw [Nat.eq_of_beq_eq_true hc]; rfl, qn172, ackq_of qk172_e rfl⟩, by decide +kernel⟩) (fun h => qmc h (fun e => by subst e; exact ⟨⟨by rw [Nat.eq_of_beq_eq_true hc]; rfl, qn173, ackq_of qk173_e rfl⟩, by decide +kernel⟩) (fun h => by cases h))))) (fun h => by cases h)))) (fun h => qbif h (fun _ => (fun h => qbif h (fun hc => (fun h => qmc h (fun e => by subst e; exact ⟨⟨by rw [Nat.eq_of_beq_eq_true hc]; rfl, qn206, ackq_of qk206_e qk206_0⟩, by decide +kernel⟩) (fun h => qmc h (fun e => by subst e; exact ⟨⟨by rw [Nat.eq_of_beq_eq_true hc]; rfl, qn207, ackq_of qk207_e qk207_0⟩, by decide +kernel⟩) (fun h => qmc h (fun e => by subst e; exact ⟨⟨by rw [Nat.eq_of_beq_eq_true hc]; rfl, qn208, ackq_of qk208_e qk208_0⟩, by decide +kernel⟩) (fun h => by cases h))))) (fun h => by cases h))) (fun h => qbif h (fun hc => (fun h => qmc h (fun e => by subst e; exact ⟨⟨by rw [Nat.eq_of_beq_eq_true hc]; rfl, qn219, ackq_of qk219_e qk219_0⟩, by decide +kernel⟩) (fun h => qmc h (fun e => by subst e; exact ⟨⟨by rw [Nat.eq_of_beq_eq_true hc]; rfl, qn220, ackq_of qk220_e qk220_0⟩, by decide +kernel⟩) (fun h => qmc h (fun e => by subst e; exact ⟨⟨by rw [Nat.eq_of_beq_eq_true hc]; rfl, qn221, ackq_of qk221_e qk221_0⟩, by decide +kernel⟩) (fun h => by cases h))))) (fun h => by cases h)))))) (fun h => qbif h (fun _ => (fun h => qbif h (fun _ => (fun h => qbif h (fun _ => (fun h => qbif h (fun _ => (fun h => qbif h (fun hc => (fun h => qmc h (fun e => by subst e; exact ⟨⟨by rw [Nat.eq_of_beq_eq_true hc]; rfl, qn229, ackq_of qk229_e qk229_0⟩, by decide +kernel⟩) (fun h => by cases h))) (fun h => by cases h))) (fun h => qbif h (fun hc => (fun h => qmc h (fun e => by subst e; exact ⟨⟨by rw [Nat.eq_of_beq_eq_true hc]; rfl, qn228, ackq_of qk228_e qk228_0⟩, by decide +kernel⟩) (fun h => by cases h))) (fun h => by cases h)))) (fun h => qbif h (fun hc => (fun h => qmc h (fun e => by subst e; exact ⟨⟨by rw [Nat.eq_of_beq_eq_true hc]; rfl, qn227, ackq_of qk227_e qk227_0⟩, by decide +kernel⟩) (fun h => qmc h (fun e => by subst e; exact ⟨⟨by rw [Nat.eq_of_beq_eq_true hc]; rfl, qn226, ackq_of qk226_e qk226_0⟩, by decide +kernel⟩) (fun h => by cases h)))) (fun h => by cases h)))) (fun h => qbif h (fun _ => (fun h => qbif h (fun _ => (fun h => qbif h (fun hc => (fun h => qmc h (fun e => by subst e; exact ⟨⟨by rw [Nat.eq_of_beq_eq_true hc]; rfl, qn24, ackq_of qk24_e qk24_0⟩, by decide +kernel⟩) (fun h => by cases h))) (fun h => by cases h))) (fun h => qbif h (fun hc => (fun h => qmc h (fun e => by subst e; exact ⟨⟨by rw [Nat.eq_of_beq_eq_true hc]; rfl, qn23, ackq_of qk23_e qk23_0⟩, by decide +kernel⟩) (fun h => by cases h))) (fun h => by cases h)))) (fun h => qbif h (fun hc => (fun h => qmc h (fun e => by subst e; exact ⟨⟨by rw [Nat.eq_of_beq_eq_true hc]; rfl, qn22, ackq_of qk22_e qk22_0⟩, by decide +kernel⟩) (fun h => by cases h))) (fun h => by cases h))))) (fun h => qbif h (fun _ => (fun h => qbif h (fun _ => (fun h => qbif h (fun _ => (fun h => qbif h (fun hc => (fun h => qmc h (fun e => by subst e; exact ⟨⟨by rw [Nat.eq_of_beq_eq_true hc]; rfl, qn20, ackq_of qk20_e qk20_0⟩, by decide +kernel⟩) (fun h => qmc h (fun e => by subst e; exact ⟨⟨by rw [Nat.eq_of_beq_eq_true hc]; rfl, qn21, ackq_of qk21_e qk21_0⟩, by decide +kernel⟩) (fun h => by cases h)))) (fun h => by cases h))) (fun h => qbif h (fun hc => (fun h => qmc h (fun e => by subst e; exact ⟨⟨by rw [Nat.eq_of_beq_eq_true hc]; rfl, qn19, ackq_of qk19_e qk19_0⟩, by decide +kernel⟩) (fun h => by cases h))) (fun h => by cases h)))) (fun h => qbif h (fun hc => (fun h => qmc h (fun e => by subst e; exact ⟨⟨by rw [Nat.eq_of_beq_eq_true hc]; rfl, qn133, ackq_of qk133_e qk133_0⟩, by decide +kernel⟩) (fun h => qmc h (fun e => by subst e; exact ⟨⟨by rw [Nat.eq_of_beq_eq_true hc]; rfl, qn134, ackq_of qk134_e qk134_0⟩, by decide +kernel⟩) (fun h => qmc h (fun e => by subst e; exact ⟨⟨by rw [Nat.eq_of_beq_eq_true hc]; rfl, qn135, ackq_of qk135_e qk135_0⟩, by decide +kernel⟩) (fun h => qmc h (fun e => by subst e; exact ⟨⟨by rw [Nat.eq_of_beq_eq_true hc]; rfl, qn136, ackq_of qk136_e qk136_0⟩, by decide +kernel⟩) (fun h => qmc h (fun e => by subst e; exact ⟨⟨by rw [Nat.eq_of_beq_eq_true hc]; rfl, qn137, ackq_of qk137_e qk137_0⟩, by decide +kernel⟩) (fun h => by cases h))))))) (fun h => by cases h)))) (fun h => qbif h (fun _ => (fun h => qbif h (fun hc => (fun h => qmc h (fun e => by subst e; exact ⟨⟨by rw [Nat.eq_of_beq_eq_true hc]; rfl, qn131, ackq_of qk131_e qk131_0⟩, by decide +kernel⟩) (fun h => qmc h (fun e => by subst e; exact ⟨⟨by rw [Nat.eq_of_beq_eq_true hc]; rfl, qn132, ackq_of qk132_e qk132_0⟩, by decide +kernel⟩) (fun h => by cases h)))) (fun h => by cases h))) (fun h => qbif h (fun hc => (fun h => qmc h (fun e => by subst e; exact ⟨⟨by rw [Nat.eq_of_beq_eq_true hc]; rfl, qn18, ackq_of qk18_e qk18_0⟩, by decide +kernel⟩) (fun h => qmc h (fun e => by subst e; exact ⟨⟨by rw [Nat.eq_of_beq_eq_true hc]; rfl, qn17, ackq_of qk17_e qk17_0⟩, by decide +kernel⟩) (fun h => by cases h)))) (fun h => by cases h))))))) (fun h => qbif h (fun _ => (fun h => qbif h (fun _ => (fun h => qbif h (fun _ => (fun h => qbif h (fun _ => (fun h => qbif h (fun _ => (fun h => qbif h (fun hc => (fun h => qmc h (fun e => by subst e; exact ⟨⟨by rw [Nat.eq_of_beq_eq_true hc]; rfl, qn14, ackq_of qk14_e rfl⟩, by decide +kernel⟩) (fun h => qmc h (fun e => by subst e; exact ⟨⟨by rw [Nat.eq_of_beq_eq_true hc]; rfl, qn13, ackq_of qk13_e rfl⟩, by decide +kernel⟩) (fun h => by cases h)))) (fun h => by cases h))) (fun h => qbif h (fun hc => (fun h => qmc h (fun e => by subst e; exact ⟨⟨by rw [Nat.eq_of_beq_eq_true hc]; rfl, qn130, ackq_of qk130_e rfl⟩, by decide +kernel⟩) (fun h => by cases h))) (fun h => by cases h)))) (fun h => qbif h (fun hc => (fun h => qmc h (fun e => by subst e; exact ⟨⟨by rw [Nat.eq_of_beq_eq_true hc]; rfl, qn129, ackq_of qk129_e rfl⟩, by decide +kernel⟩) (fun h => by cases h))) (fun h => by cases h)))) (fun h => qbif h (fun _ => (fun h => qbif h (fun _ => (fun h => qbif h (fun hc => (fun h => qmc h (fun e => by subst e; exact ⟨⟨by rw [Nat.eq_of_beq_eq_true hc]; rfl, qn170, ackq_of qk170_e qk170_0⟩, by decide +kernel⟩) (fun h => by cases h))) (fun h => by cases h))) (fun h => qbif h (fun hc => (fun h => qmc h (fun e => by subst e; exact ⟨⟨by rw [Nat.eq_of_beq_eq_true hc]; rfl, qn205, ackq_of qk205_e rfl⟩, by decide +kernel⟩) (fun h => by cases h))) (fun h => by cases h)))) (fun h => qbif h (fun hc => (fun h => qmc h (fun e => by subst e; exact ⟨⟨by rw [Nat.eq_of_beq_eq_true hc]; rfl, qn12, ackq_of qk12_e qk12_0⟩, by decide +kernel⟩) (fun h => by cases h))) (fun h => by cases h))))) (fun h => qbif h (fun _ => (fun h => qbif h (fun _ => (fun h => qbif h (fun _ => (fun h => qbif h (fun hc => (fun h => qmc h (fun e => by subst e; exact ⟨⟨by rw [Nat.eq_of_beq_eq_true hc]; rfl, qn164, ackq_of qk164_e rfl⟩, by decide +kernel⟩) (fun h => qmc h (fun e => by subst e; exact ⟨⟨by rw [Nat.eq_of_beq_eq_true hc]; rfl, qn167, ackq_of qk167_e rfl⟩, by decide +kernel⟩) (fun h => qmc h (fun e => by subst e; exact ⟨⟨by rw [Nat.eq_of_beq_eq_true hc]; rfl, qn168, ackq_of qk168_e rfl⟩, by decide +kernel⟩) (fun h => qmc h (fun e => by subst e; exact ⟨⟨by rw [Nat.eq_of_beq_eq_true hc]; rfl, qn169, ackq_of qk169_e rfl⟩, by decide +kernel⟩) (fun h => qmc h (fun e => by subst e; exact ⟨⟨by rw [Nat.eq_of_beq_eq_true hc]; rfl, qn163, ackq_of qk163_e rfl⟩, by decide +kernel⟩) (fun h => qmc h (fun e => by subst e; exact ⟨⟨by rw [Nat.eq_of_beq_eq_true hc]; rfl, qn165, ackq_of qk165_e rfl⟩, by decide +kernel⟩) (fun h => qmc h (fun e => by subst e; exact ⟨⟨by rw [Nat.eq_of_beq_eq_true hc]; rfl, qn166, ackq_of qk166_e rfl⟩, by decide +kernel⟩) (fun h => qmc h (fun e => by subst e; exact ⟨⟨by rw [Nat.eq_of_beq_eq_true hc]; rfl, qn162, ackq_of qk162_e rfl⟩, by decide +kernel⟩) (fun h => by cases h)))))))))) (fun h => by cases h))) (fun h => qbif h (fun hc => (fun h => qmc h (fun e => by subst e; exact ⟨⟨by rw [Nat.eq_of_beq_eq_true hc]; rfl, qn161, ackq_of qk161_e rfl⟩, by decide +kernel⟩) (fun h => by cases h))) (fun h => by cases h)))) (fun h => qbif h (fun hc => (fun h => qmc h (fun e => by subst e; exact ⟨⟨by rw [Nat.eq_of_beq_eq_true hc]; rfl, qn160, ackq_of qk160_e rfl⟩, by decide +kernel⟩) (fun h => by cases h))) (fun h => by cases h)))) (fun h => qbif h (fun _ => (fun h => qbif h (fun hc => (fun h => qmc h (fun e => by subst e; exact ⟨⟨by rw [Nat.eq_of_beq_eq_true hc]; rfl, qn218, ackq_of qk218_e (qapp qk218_0 qk218_1)⟩, by decide +kernel⟩) (fun h => by cases h))) (fun h => by cases h))) (fun h => qbif h (fun hc => (fun h => qmc h (fun e => by subst e; exact ⟨⟨by rw [Nat.eq_of_beq_eq_true hc]; rfl, qn225, ackq_of qk225_e qk225_0⟩, by decide +kernel⟩) (fun h => by cases h))) (fun h => by cases h)))))) (fun h => qbif h (fun _ => (fun h => qbif h (fun _ => (fun h => qbif h (fun _ => (fun h => qbif h (fun _ => (fun h => qbif h (fun hc => (fun h => qmc h (fun e => by subst e; exact ⟨⟨by rw [Nat.eq_of_beq_eq_true hc]; rfl, qn128, ackq_of qk128_e qk128_0⟩, by decide +kernel⟩) (fun h => by cases h))) (fun h => by cases h))) (fun h => qbif h (fun hc => (fun h => qmc h (fun e => by subst e; exact ⟨⟨by rw [Nat.eq_of_beq_eq_true hc]; rfl, qn11, ackq_of qk11_e qk11_0⟩, by decide +kernel⟩) (fun h => by cases h))) (fun h => by cases h)))) (fun h => qbif h (fun hc => (fun h => qmc h (fun e => by subst e; exact ⟨⟨by rw [Nat.eq_of_beq_eq_true hc]; rfl, qn127, ackq_of qk127_e qk127_0⟩, by decide +kernel⟩) (fun h => by cases h))) (fun h => by cases h)))) (fun h => qbif h (fun _ => (fun h => qbif h (fun hc => (fun h => qmc h (fun e => by subst e; exact ⟨⟨by rw [Nat.eq_of_beq_eq_true hc]; rfl, qn6, ackq_of qk6_e qk6_0⟩, by decide +kernel⟩) (fun h => qmc h (fun e => by subst e; exact ⟨⟨by rw [Nat.eq_of_beq_eq_true hc]; rfl, qn7, ackq_of qk7_e qk7_0⟩, by decide +kernel⟩) (fun h => qmc h (fun e => by subst e; exact ⟨⟨by rw [Nat.eq_of_beq_eq_true hc]; rfl, qn8, ackq_of qk8_e qk8_0⟩, by decide +kernel⟩) (fun h => qmc h (fun e => by subst e; exact ⟨⟨by rw [Nat.eq_of_beq_eq_true hc]; rfl, qn9, ackq_of qk9_e qk9_0⟩, by decide +kernel⟩) (fun h => qmc h (fun e => by subst e; exact ⟨⟨by rw [Nat.eq_of_beq_eq_true hc]; rfl, qn10, ackq_of qk10_e qk10_0⟩, by decide +kernel⟩) (fun h => by cases h))))))) (fun h => by cases h))) (fun h => qbif h (fun hc => (fun h => qmc h (fun e => by subst e; exact ⟨⟨by rw [Nat.eq_of_beq_eq_true hc]; rfl, qn4, ackq_of qk4_e qk4_0⟩, by decide +kernel⟩) (fun h => qmc h (fun e => by subst e; exact ⟨⟨by rw [Nat.eq_of_beq_eq_true hc]; rfl, qn5, ackq_of qk5_e qk5_0⟩, by decide +kernel⟩) (fun h => by cases h)))) (fun h => by cases h))))) (fun h => qbif h (fun _ => (fun h => qbif h (fun _ => (fun h => qbif h (fun _ => (fun h => qbif h (fun hc => (fun h => qmc h (fun e => by subst e; exact ⟨⟨by rw [Nat.eq_of_beq_eq_true hc]; rfl, qn3, ackq_of qk3_e qk3_0⟩, by decide +kernel⟩) (fun h => by cases h))) (fun h => by cases h))) (fun h => qbif h (fun hc => (fun h => qmc h (fun e => by subst e; exact ⟨⟨by rw [Nat.eq_of_beq_eq_true hc]; rfl, qn2, ackq_of qk2_e qk2_0⟩, by decide +kernel⟩) (fun h => by cases h))) (fun h => by cases h)))) (fun h => qbif h (fun hc => (fun h => qmc h (fun e => by subst e; exact ⟨⟨by rw [Nat.eq_of_beq_eq_true hc]; rfl, qn1, ackq_of qk1_e rfl⟩, by decide +kernel⟩) (fun h => by cases h))) (fun h => by cases h)))) (fun h => qbif h (fun _ => (fun h => qbif h (fun hc => (fun h => qmc h (fun e => by subst e; exact ⟨⟨by rw [Nat.eq_of_beq_eq_true hc]; rfl, qn126, ackq_of qk126_e qk126_0⟩, by decide +kernel⟩) (fun h => by cases h))) (fun h => by cases h))) (fun h => qbif h (fun hc => (fun h => qmc h (fun e => by subst e; exact ⟨⟨by rw [Nat.eq_of_beq_eq_true hc]; rfl, qn0, ackq_of qk0_e qk0_0⟩, by decide +kernel⟩) (fun h => by cases h))) (fun h => by cases h))))))))) h
theorem qA_ok (nf : Bool) (xs : List Int32) (k : Nat) (q : aQ) (h : q ∈ qKA k) : q.1 = k ∧ aCon qW qG (zEv (zXt nf xs) zIT zmcl zMt 70) q (fun _ => True) := ⟨(qA_ck k q h).1.1, (agroup_dp (B := 0) (qXX nf xs) qGok qL (K := qK0) (Kn := qKA) (fun _ _ h => by cases h) (fun k q h => (qA_ck k q h).1) 10 k q h).all (qA_ck k q h).2⟩
theorem qH_ok (nf : Bool) (xs : List Int32) (k : Nat) (q : aQ) (h : q ∈ qKH k) : q.1 = k ∧ aCon qW qG (zEv (zXt nf xs) zIT zmcl zMt 77) q (fun _ => True) := by
  have hX := qXX nf xs
  have hA := qA_ok nf xs
  have up : ∀ {q : aQ}, aCon qW qG (zEv (zXt nf xs) zIT zmcl zMt 70) q (fun _ => True) → aCon qW qG (zEv (zXt nf xs) zIT zmcl zMt 77) q (fun _ => True) := fun h => h.mono (fun _ _ _ _ _ z => zEv_le (by decide) z)
  exact (fun h => qbif h (fun _ => (fun h => qbif h (fun _ => (fun h => qbif h (fun hc => (fun h => qmc h (fun e => by subst e; exact ⟨by rw [Nat.eq_of_beq_eq_true hc]; rfl, qhandG (B := 70) hX hA⟩) (fun h => by cases h))) (fun h => by cases h))) (fun h => qbif h (fun hc => (fun h => qmc h (fun e => by subst e; exact ⟨by rw [Nat.eq_of_beq_eq_true hc]; rfl, up (qhandM (hA 172 qc84 (show qc84 ∈ qKA 172 from List.Mem.tail _ (List.Mem.head _))).2)⟩) (fun h => qmc h (fun e => by subst e; exact ⟨by rw [Nat.eq_of_beq_eq_true hc]; rfl, up (qhandT (hA 172 qc88 (show qc88 ∈ qKA 172 from List.Mem.head _)).2)⟩) (fun h => qmc h (fun e => by subst e; exact ⟨by rw [Nat.eq_of_beq_eq_true hc]; rfl, up (qhandB (hA 172 qc79 (show qc79 ∈ qKA 172 from List.Mem.tail _ (List.Mem.tail _ (List.Mem.head _)))).2)⟩) (fun h => qmc h (fun e => by subst e; exact ⟨by rw [Nat.eq_of_beq_eq_true hc]; rfl, up (qhandC (hA 172 qc81 (show qc81 ∈ qKA 172 from List.Mem.tail _ (List.Mem.tail _ (List.Mem.tail _ (List.Mem.head _))))).2)⟩) (fun h => qmc h (fun e => by subst e; exact ⟨by rw [Nat.eq_of_beq_eq_true hc]; rfl, up (qhandN (hA 172 qc86 (show qc86 ∈ qKA 172 from List.Mem.tail _ (List.Mem.tail _ (List.Mem.tail _ (List.Mem.tail _ (List.Mem.head _)))))).2)⟩) (fun h => by cases h))))))) (fun h => by cases h)))) (fun h => qbif h (fun hc => (fun h => qmc h (fun e => by subst e; exact ⟨by rw [Nat.eq_of_beq_eq_true hc]; rfl, up (qhandO (hA 43 qc16 (show qc16 ∈ qKA 43 from List.Mem.head _)).2)⟩) (fun h => by cases h))) (fun h => by cases h))) h
theorem qB_ok (nf : Bool) (xs : List Int32) (k : Nat) (q : aQ) (h : q ∈ qKB k) : q.1 = k ∧ aCon qW qG (zEv (zXt nf xs) zIT zmcl zMt 952) q (fun _ => True) := ⟨(qB_ck k q h).1.1, (agroup_dp (B := 77) (qXX nf xs) qGok qL (K := qKH) (Kn := qKB) (qH_ok nf xs) (fun k q h => (qB_ck k q h).1) 125 k q h).all (qB_ck k q h).2⟩
end
section
/-! One mile, exactly: day and mile (by program: wip/eng2/t20.py). -/
def qcx2 : aQ := (71, [(2, 31, 31), (2, 36, 36)], ([(0, (-2147483648), 2147483647), (0, 0, 60)], [((1, 0, 4), .inl (3, 0)), ((1, 0, 5), .inl (4, 0))]), [([(0, 0, 0), (2, 31, 31), (2, 36, 36), (0, (-2147483648), 2147483647), (0, 0, 60), (0, 0, 0)], none, [((1, 0, 4), .inl (3, 1)), ((1, 0, 5), .inl (5, 0))])], [(34, 0, 0, 8, 8), (31, 0, 0, 11, 11), (34, 0, 0, 3, 3), (34, 0, 0, 0, 0), (31, 0, 0, 4, 4), (31, 0, 0, 5, 5), (31, 0, 0, 8, 8)], (0, []))
def qnx2_0 : List aN := [(2, [(0, 0, 0), (2, 31, 31), (2, 36, 36), (0, (-2147483648), 2147483647), (0, 0, 60), (0, 0, 0)], [(0, .inr (.inr (.inl 1))), (1, .inr (.inr (.inl 2))), (2, .inl (5, 0))], [], [((1, 0, 4), .inl (3, 0)), ((1, 0, 5), .inl (4, 0))], (4833285426819294037545058304, [(5, (-1099511627776))])), (2, [(0, 0, 0), (2, 31, 31), (2, 36, 36), (0, (-2147483648), 2147483647), (0, 0, 60), (0, 1, 6), (2, 34, 34), (0, 1, 6)], [(0, .inr (.inr (.inl 1))), (1, .inr (.inr (.inl 2))), (2, .inl (5, 0)), (3, .inr (.inr (.inl 6)))], [], [((1, 0, 4), .inl (3, 0)), ((1, 0, 5), .inl (4, 0)), ((1, 0, 3), .inl (7, 0))], (4833285426819294037545058304, [(5, (-1099511627776))]))]
def qnx2 : List aN := qnx2_0
def qcx0 : aQ := (59, [(2, 31, 31), (2, 36, 36)], ([(2, 7, 7), (0, 0, 60), (0, (-2147483648), 2147483647), (0, 0, 60)], [((1, 0, 2), .inr (.inr (.inl 3))), ((3, 0, 10), .inl (4, 0)), ((1, 0, 4), .inl (5, 0)), ((1, 0, 5), .inl (6, 0))]), [([(0, 0, 0), (2, 31, 31), (2, 36, 36), (2, 7, 7), (0, 1, 60), (0, (-2147483648), 2147483647), (0, 0, 59), (10, 4, 1)], none, [((1, 0, 4), .inl (5, 0)), ((1, 0, 5), .inl (6, 1))]), ([(0, 0, 0), (2, 31, 31), (2, 36, 36), (2, 7, 7), (0, 0, 60), (0, (-2147483648), 2147483647), (0, 0, 60), (0, 0, 0), (8, 6, 0)], none, [((1, 0, 4), .inl (5, 1)), ((1, 0, 5), .inl (7, 0))])], [(36, 0, 0, 5, 5), (31, 0, 0, 6, 6), (31, 0, 0, 5, 5), (34, 0, 0, 8, 8), (31, 0, 0, 11, 11), (34, 0, 0, 3, 3), (34, 0, 0, 0, 0), (31, 0, 0, 4, 4), (31, 0, 0, 8, 8), (29, 0, 0, 0, 6), (24, 0, 0, 7, 7), (30, 0, 0, 0, 63), (34, 0, 0, 7, 7), (31, 0, 0, 9, 9), (31, 0, 0, 7, 7), (34, 0, 0, 5, 5), (34, 0, 0, 6, 6), (31, 0, 0, 10, 10), (35, 0, 0, 0, 5)], (1, []))
def qnx0_0 : List aN := [(29, [(0, 0, 0), (2, 31, 31), (2, 36, 36), (2, 7, 7), (0, 0, 60), (0, (-2147483648), 2147483647), (0, 0, 60), (0, 0, 1), (0, 0, 5)], [(0, .inr (.inr (.inl 1))), (1, .inr (.inr (.inl 2))), (2, .inl (7, 0)), (3, .inl (8, 0))], [], [((1, 0, 2), .inr (.inr (.inl 3))), ((3, 0, 10), .inl (4, 0)), ((1, 0, 4), .inl (5, 0)), ((1, 0, 5), .inl (6, 0))], (4800644429689697950316363776, [(8, (-1099511627776))])), (97, [(0, 0, 0), (2, 31, 31), (2, 36, 36), (2, 7, 7), (0, 0, 60), (0, (-2147483648), 2147483647), (0, 0, 60), (0, 0, 1), (0, 0, 6)], [(0, .inr (.inr (.inl 1))), (1, .inr (.inr (.inl 2))), (2, .inl (7, 0)), (3, .inl (8, 0))], [], [((1, 0, 2), .inr (.inr (.inl 3))), ((3, 0, 10), .inl (4, 0)), ((1, 0, 4), .inl (5, 0)), ((1, 0, 5), .inl (6, 0))], (4718437473955904265947971584, [(8, (-1099511627776))]))]
def qnx0 : List aN := qnx0_0
def qcx1 : aQ := (210, [(2, 49, 49), (0, 0, 0)], ([(2, 72, 72), (2, 71, 71), (0, 0, 60), (0, (-2147483648), 2147483647), (2, 51, 51), (0, 1, 60)], [((1, 0, 38), .inr (.inr (.inl 3))), ((1, 0, 37), .inr (.inr (.inl 4))), ((3, 0, 0), .inl (5, 0)), ((4, 0, 0), .inl (6, 0)), ((1, 0, 3), .inr (.inr (.inl 7))), ((7, 0, 0), .inl (8, 0))]), [([(0, 0, 0), (2, 49, 49), (0, 0, 0), (2, 72, 72), (2, 71, 71), (0, 1, 60), (0, (-2147483648), 2147483647), (2, 51, 51), (0, 1, 60), (0, 0, 0), (12, 5, 0)], none, [((3, 0, 0), .inl (9, 0)), ((4, 0, 0), .inl (6, 1))]), ([(0, 0, 0), (2, 49, 49), (0, 0, 0), (2, 72, 72), (2, 71, 71), (0, 0, 59), (0, (-2147483648), 2147483647), (2, 51, 51), (0, 1, 60), (9, 8, 1)], none, [((3, 0, 0), .inl (5, 1)), ((4, 0, 0), .inl (6, 0))])], [(49, 0, 0, 60, 60), (69, 0, 0, 0, 6), (49, 0, 0, 52, 52), (49, 0, 0, 36, 36), (70, 0, 0, 0, 63), (82, 0, 0, 0, 5), (78, 0, 0, 0, 5), (84, 0, 0, 0, 35), (74, 0, 0, 0, 0), (75, 0, 0, 0, 0), (79, 0, 0, 0, 5), (80, 0, 0, 0, 5), (81, 0, 0, 0, 5), (73, 0, 0, 0, 0), (72, 0, 0, 0, 0), (83, 0, 0, 0, 11), (79, 0, 0, 0, 11), (78, 0, 0, 0, 11), (71, 0, 0, 0, 0), (75, 0, 0, 0, 1)], (1, []))
def qnx1_0 : List aN := [(12, [(0, 0, 0), (2, 49, 49), (0, 0, 0), (2, 72, 72), (2, 71, 71), (0, 0, 60), (0, (-2147483648), 2147483647), (2, 51, 51), (0, 1, 60), (0, 0, 6)], [(0, .inr (.inr (.inl 1))), (1, .inl (2, 0)), (2, .inl (9, 0))], [], [((1, 0, 38), .inr (.inr (.inl 3))), ((1, 0, 37), .inr (.inr (.inl 4))), ((3, 0, 0), .inl (5, 0)), ((4, 0, 0), .inl (6, 0)), ((1, 0, 3), .inr (.inr (.inl 7))), ((7, 0, 0), .inl (8, 0))], (4821196168623147745797996544, [(9, (-1099511627776))])), (66, [(0, 0, 0), (2, 49, 49), (0, 0, 0), (2, 72, 72), (2, 71, 71), (0, 0, 60), (0, (-2147483648), 2147483647), (2, 51, 51), (0, 1, 60), (0, 0, 6)], [(0, .inr (.inr (.inl 1))), (1, .inl (2, 0)), (2, .inl (9, 0))], [], [((1, 0, 38), .inr (.inr (.inl 3))), ((1, 0, 37), .inr (.inr (.inl 4))), ((3, 0, 0), .inl (5, 0)), ((4, 0, 0), .inl (6, 0)), ((1, 0, 3), .inr (.inr (.inl 7))), ((7, 0, 0), .inl (8, 0))], (4755914174363957770363863040, [(9, (-1099511627776))]))]
def qnx1 : List aN := qnx1_0
def qKX (k : Nat) : List aQ := (bif Nat.beq k 59 then [qcx0] else (bif Nat.beq k 210 then [qcx1] else (bif Nat.beq k 71 then [qcx2] else [])))
def qKE (k : Nat) : List aQ := bif Nat.beq k 71 then [] else qKB k
theorem qkx2_e : ack0 qY zIT zmcl qW qPt zMt qKE qKX qcx2 qnx2 6 3000 = true := by decide +kernel
theorem qkx2_0 : qnx2_0.all (ackN qY zIT zmcl qW qPt zMt qKE qKX qcx2 qnx2 6 3000) = true := by decide +kernel
theorem qkx0_e : ack0 qY zIT zmcl qW qPt zMt qKE qKX qcx0 qnx0 6 3000 = true := by decide +kernel
theorem qkx0_0 : qnx0_0.all (ackN qY zIT zmcl qW qPt zMt qKE qKX qcx0 qnx0 6 3000) = true := by decide +kernel
theorem qkx1_e : ack0 qY zIT zmcl qW qPt zMt qKE qKX qcx1 qnx1 6 3000 = true := by decide +kernel
theorem qkx1_0 : qnx1_0.all (ackN qY zIT zmcl qW qPt zMt qKE qKX qcx1 qnx1 6 3000) = true := by decide +kernel
end
section
/-! The exact contracts of one mile hold (by program: wip/x/gG1.py). -/
theorem qX_ck (k : Nat) (q : aQ) (h : q ∈ qKX k) : (q.1 = k ∧ ∃ NS : List aN, ackq qY zIT zmcl qW qPt zMt qKE qKX q NS 6 3000 = true) ∧ amb q 2 = true := (fun h => qbif h (fun hc => (fun h => qmc h (fun e => by subst e; exact ⟨⟨by rw [Nat.eq_of_beq_eq_true hc]; rfl, qnx0, ackq_of qkx0_e qkx0_0⟩, by decide +kernel⟩) (fun h => by cases h))) (fun h => qbif h (fun hc => (fun h => qmc h (fun e => by subst e; exact ⟨⟨by rw [Nat.eq_of_beq_eq_true hc]; rfl, qnx1, ackq_of qkx1_e qkx1_0⟩, by decide +kernel⟩) (fun h => by cases h))) (fun h => qbif h (fun hc => (fun h => qmc h (fun e => by subst e; exact ⟨⟨by rw [Nat.eq_of_beq_eq_true hc]; rfl, qnx2, ackq_of qkx2_e qkx2_0⟩, by decide +kernel⟩) (fun h => by cases h))) (fun h => by cases h)))) h
theorem qE_ok (nf : Bool) (xs : List Int32) (k : Nat) (q : aQ) (h : q ∈ qKE k) : q.1 = k ∧ aCon qW qG (zEv (zXt nf xs) zIT zmcl zMt 952) q (fun _ => True) := by
  unfold qKE at h
  cases hb : Nat.beq k 71 with
  | true => rw [hb] at h; cases h
  | false => rw [hb] at h; exact qB_ok nf xs k q h
theorem qX_ok (nf : Bool) (xs : List Int32) (k : Nat) (q : aQ) (h : q ∈ qKX k) : aCon qW qG (zEv (zXt nf xs) zIT zmcl zMt 966) q (fun _ => True) := (agroup_dp (B := 952) (qXX nf xs) qGok qL (K := qKE) (Kn := qKX) (qE_ok nf xs) (fun k q h => (qX_ck k q h).1) 2 k q h).all (qX_ck k q h).2
end
section
/-! SYMBOLS: one run for all values of some ints and longs. `.float k` stands for the int number k, `.double k` for the long number k. A cell of tag 100 with fields is a row of ints in which symbols may stand; one of tag 1000 + k with references is the k-th of some cells that aren't looked at. -/
abbrev yR : Type := List Int32 × List Int64 × List zE
def ysym (a : Value) : Bool := match a with
  | .float _ => true
  | .double _ => true
  | _ => false
def yv (ρ : yR) (a v : Value) : Prop := match a with
  | .float k => ∃ x : Int32, ρ.1[k.toNat]? = some x ∧ v = .int x
  | .double k => ∃ x : Int64, ρ.2.1[k.toNat]? = some x ∧ v = .long x
  | .int x => v = .int x
  | .long x => v = .long x
  | .null => v = .null
  | .ref a => v = .ref a
  | .retAddr a => v = .retAddr a
def yA {α β : Type} (R : α → β → Prop) : List α → List β → Prop
  | [], l => l = []
  | a :: as, l => ∃ (b : β) (bs : List β), l = b :: bs ∧ R a b ∧ yA R as bs
theorem yA.len {α β : Type} {R : α → β → Prop} : ∀ {as : List α} {bs : List β}, yA R as bs → bs.length = as.length
  | [], _, h => by rw [show _ = [] from h]; rfl
  | a :: as, _, ⟨b, bs, e, _, h⟩ => by rw [e, List.length_cons, List.length_cons, yA.len h]
theorem yA.get {α β : Type} {R : α → β → Prop} : ∀ {as : List α} {bs : List β} {i : Nat} {a : α}, yA R as bs → as[i]? = some a → ∃ b, bs[i]? = some b ∧ R a b
  | [], _, _, _, _, h => by simp at h
  | a :: as, _, 0, x, ⟨b, bs, e, hr, _⟩, h => by
    simp at h
    subst h
    exact ⟨b, by rw [e]; rfl, hr⟩
  | a :: as, _, i + 1, x, ⟨b, bs, e, _, hs⟩, h => by
    have h1 : as[i]? = some x := by simpa using h
    obtain ⟨b', g, hr⟩ := yA.get hs h1
    exact ⟨b', by rw [e]; simpa using g, hr⟩
theorem yA.set {α β : Type} {R : α → β → Prop} {x : α} {z : β} (hx : R x z) : ∀ {as : List α} {bs : List β} {i : Nat}, yA R as bs → yA R (as.set i x) (bs.set i z)
  | [], _, _, h => by rw [show _ = [] from h]; exact rfl
  | a :: as, _, 0, ⟨b, bs, e, _, h⟩ => by rw [e]; exact ⟨z, bs, rfl, hx, h⟩
  | a :: as, _, i + 1, ⟨b, bs, e, hr, h⟩ => by rw [e]; exact ⟨b, bs.set i z, rfl, hr, yA.set hx h⟩
theorem yA.app {α β : Type} {R : α → β → Prop} {cs : List α} {ds : List β} (hc : yA R cs ds) : ∀ {as : List α} {bs : List β}, yA R as bs → yA R (as ++ cs) (bs ++ ds)
  | [], _, h => by rw [show _ = [] from h]; exact hc
  | a :: as, _, ⟨b, bs, e, hr, h⟩ => by rw [e]; exact ⟨b, bs ++ ds, rfl, hr, yA.app hc h⟩
theorem yA.mono {α β : Type} {R S : α → β → Prop} (hRS : ∀ a b, R a b → S a b) : ∀ {as : List α} {bs : List β}, yA R as bs → yA S as bs
  | [], _, h => h
  | a :: as, _, ⟨b, bs, e, hr, h⟩ => ⟨b, bs, e, hRS _ _ hr, yA.mono hRS h⟩
theorem yA.drop {α β : Type} {R : α → β → Prop} : ∀ {as : List α} {bs : List β} (n : Nat), yA R as bs → yA R (as.drop n) (bs.drop n)
  | [], _, _, h => by rw [show _ = [] from h]; simp; exact rfl
  | a :: as, _, 0, h => h
  | a :: as, _, n + 1, ⟨b, bs, e, _, h⟩ => by rw [e]; exact yA.drop n h
theorem yA.take {α β : Type} {R : α → β → Prop} : ∀ {as : List α} {bs : List β} (n : Nat), yA R as bs → yA R (as.take n) (bs.take n)
  | [], _, _, h => by rw [show _ = [] from h]; simp; exact rfl
  | a :: as, _, 0, h => rfl
  | a :: as, _, n + 1, ⟨b, bs, e, hr, h⟩ => by rw [e]; exact ⟨b, bs.take n, rfl, hr, yA.take n h⟩
theorem yA.rev {α β : Type} {R : α → β → Prop} : ∀ {as : List α} {bs : List β}, yA R as bs → yA R as.reverse bs.reverse
  | [], _, h => by rw [show _ = [] from h]; exact rfl
  | a :: as, _, ⟨b, bs, e, hr, h⟩ => by
    rw [e, List.reverse_cons, List.reverse_cons]
    have h0 : yA R [a] [b] := ⟨b, [], rfl, hr, rfl⟩
    exact yA.app h0 (yA.rev h)
theorem yA.filter {α β : Type} {R : α → β → Prop} {p : α → Bool} {q : β → Bool} (hpq : ∀ a b, R a b → q b = p a) : ∀ {as : List α} {bs : List β}, yA R as bs → yA R (as.filter p) (bs.filter q)
  | [], _, h => by rw [show _ = [] from h]; exact rfl
  | a :: as, _, ⟨b, bs, e, hr, h⟩ => by
    rw [e, List.filter_cons, List.filter_cons, hpq a b hr]
    split
    · exact ⟨b, _, rfl, hr, yA.filter hpq h⟩
    · exact yA.filter hpq h
theorem yA.find {α β : Type} {R : α → β → Prop} {p : α → Bool} {q : β → Bool} (hpq : ∀ a b, R a b → q b = p a) : ∀ {as : List α} {bs : List β} {x : α}, yA R as bs → as.find? p = some x → ∃ z, bs.find? q = some z ∧ R x z
  | [], _, _, _, h => by simp at h
  | a :: as, _, x, ⟨b, bs, e, hr, h⟩, hf => by
    rw [e, List.find?_cons, hpq a b hr]
    rw [List.find?_cons] at hf
    split at hf
    · cases hf
      exact ⟨b, rfl, hr⟩
    · exact yA.find hpq h hf
def yvs (ρ : yR) : List Value → List Value → Prop := yA (yv ρ)
def yls (ρ : yR) : zL → zL → Prop := yA (fun a b => b.1 = a.1 ∧ yv ρ a.2 b.2)
def yce (ρ : yR) (a c : zE) : Prop := match a with
  | (t, .inr (.inr (.inr fs))) => if t < 100 then ∃ gs : List Value, c = (t, .inr (.inr (.inr gs))) ∧ yvs ρ fs gs else t = 100 ∧ ∃ l : List Int32, c = (0, .inl l) ∧ yvs ρ fs (l.map .int)
  | (t, .inl l) => c = (t, .inl l)
  | (t, .inr (.inl l)) => c = (t, .inr (.inl l))
  | (t, .inr (.inr (.inl l))) => if 1000 ≤ t then ρ.2.2[t - 1000]? = some c else c = (t, .inr (.inr (.inl l)))
def yhs (ρ : yR) : zH → zH → Prop := yA (yce ρ)
def yext (ρ ρ' : yR) : Prop := (∃ a : List Int32, ρ'.1 = ρ.1 ++ a) ∧ (∃ b : List Int64, ρ'.2.1 = ρ.2.1 ++ b) ∧ ρ'.2.2 = ρ.2.2
theorem yext.rf {ρ : yR} : yext ρ ρ := ⟨⟨[], by simp⟩, ⟨[], by simp⟩, rfl⟩
theorem yext.trans {a b c : yR} : yext a b → yext b c → yext a c
  | ⟨⟨x, hx⟩, ⟨y, hy⟩, hz⟩, ⟨⟨u, hu⟩, ⟨v, hv⟩, hw⟩ => ⟨⟨x ++ u, by rw [hu, hx, List.append_assoc]⟩, ⟨y ++ v, by rw [hv, hy, List.append_assoc]⟩, hw.trans hz⟩
theorem ylook {α : Type} {l a : List α} {k : Nat} {x : α} (h : l[k]? = some x) : (l ++ a)[k]? = some x := by
  rw [List.getElem?_append_left (List.getElem?_eq_some_iff.mp h).1]
  exact h
theorem yv.ext {ρ ρ' : yR} {a v : Value} (hx : yext ρ ρ') (h : yv ρ a v) : yv ρ' a v := by
  obtain ⟨⟨p, hp⟩, ⟨q, hq⟩, -⟩ := hx
  cases a with
  | float k =>
    obtain ⟨x, h1, h2⟩ := h
    exact ⟨x, by rw [hp]; exact ylook h1, h2⟩
  | double k =>
    obtain ⟨x, h1, h2⟩ := h
    exact ⟨x, by rw [hq]; exact ylook h1, h2⟩
  | _ => exact h
theorem yvs.ext {ρ ρ' : yR} {a v : List Value} (hx : yext ρ ρ') (h : yvs ρ a v) : yvs ρ' a v := yA.mono (fun _ _ q => yv.ext hx q) h
theorem yls.ext {ρ ρ' : yR} {a v : zL} (hx : yext ρ ρ') (h : yls ρ a v) : yls ρ' a v := yA.mono (fun _ _ q => ⟨q.1, yv.ext hx q.2⟩) h
theorem yce.ext {ρ ρ' : yR} {a c : zE} (hx : yext ρ ρ') (h : yce ρ a c) : yce ρ' a c := by
  obtain ⟨t, a⟩ := a
  rcases a with l | l | l | fs
  · exact h
  · exact h
  · have h' : if 1000 ≤ t then ρ.2.2[t - 1000]? = some c else c = (t, .inr (.inr (.inl l))) := h
    show if 1000 ≤ t then ρ'.2.2[t - 1000]? = some c else c = (t, .inr (.inr (.inl l)))
    rw [hx.2.2]
    exact h'
  · show if t < 100 then _ else _
    have h' : if t < 100 then ∃ gs : List Value, c = (t, .inr (.inr (.inr gs))) ∧ yvs ρ fs gs else t = 100 ∧ ∃ l : List Int32, c = (0, .inl l) ∧ yvs ρ fs (l.map .int) := h
    split
    · next q =>
      rw [if_pos q] at h'
      obtain ⟨gs, e, hg⟩ := h'
      exact ⟨gs, e, hg.ext hx⟩
    · next q =>
      rw [if_neg q] at h'
      obtain ⟨t0, l, e, hg⟩ := h'
      exact ⟨t0, l, e, hg.ext hx⟩
theorem yhs.ext {ρ ρ' : yR} {a v : zH} (hx : yext ρ ρ') (h : yhs ρ a v) : yhs ρ' a v := yA.mono (fun _ _ q => yce.ext hx q) h
theorem yv_c {ρ : yR} {a v : Value} (h : yv ρ a v) (hs : ysym a = false) : v = a := by
  cases a with
  | float k => cases hs
  | double k => cases hs
  | _ => exact h
theorem yv_r {ρ : yR} {a : Value} (hs : ysym a = false) : yv ρ a a := by
  cases a with
  | float k => cases hs
  | double k => cases hs
  | _ => exact rfl
theorem yvs_r {ρ : yR} : ∀ {as : List Value}, (∀ v ∈ as, ysym v = false) → yvs ρ as as
  | [], _ => rfl
  | a :: as, h => ⟨a, as, rfl, yv_r (h a List.mem_cons_self), yvs_r (fun v hv => h v (List.mem_cons_of_mem _ hv))⟩
theorem yv_cat {ρ : yR} {a v : Value} (h : yv ρ a v) : v.category = a.category := by
  cases a with
  | float k =>
    obtain ⟨x, -, e⟩ := h
    rw [e]; rfl
  | double k =>
    obtain ⟨x, -, e⟩ := h
    rw [e]; rfl
  | int x => rw [show v = .int x from h]
  | long x => rw [show v = .long x from h]
  | null => rw [show v = .null from h]
  | ref x => rw [show v = .ref x from h]
  | retAddr x => rw [show v = .retAddr x from h]
theorem yce_obj {ρ : yR} {t : Nat} {fs : List Value} {c : zE} (h : yce ρ (t, .inr (.inr (.inr fs))) c) (ht : t < 100) : ∃ gs : List Value, c = (t, .inr (.inr (.inr gs))) ∧ yvs ρ fs gs := by
  have h' : if t < 100 then ∃ gs : List Value, c = (t, .inr (.inr (.inr gs))) ∧ yvs ρ fs gs else t = 100 ∧ ∃ l : List Int32, c = (0, .inl l) ∧ yvs ρ fs (l.map .int) := h
  rw [if_pos ht] at h'
  exact h'
theorem yce_mk {ρ : yR} {t : Nat} {fs gs : List Value} (ht : t < 100) (h : yvs ρ fs gs) : yce ρ (t, .inr (.inr (.inr fs))) (t, .inr (.inr (.inr gs))) := by
  show if t < 100 then _ else _
  rw [if_pos ht]
  exact ⟨gs, rfl, h⟩
theorem yce_ints {ρ : yR} {t : Nat} {l : List Int32} {c : zE} (h : yce ρ (t, .inl l) c) : c = (t, .inl l) := h
theorem yce_im {ρ : yR} {t : Nat} {l : List Int32} : yce ρ (t, .inl l) (t, .inl l) := rfl
theorem yce_refs {ρ : yR} {t : Nat} {l : List (Option Nat)} {c : zE} (h : yce ρ (t, .inr (.inr (.inl l))) c) (ht : t < 1000) : c = (t, .inr (.inr (.inl l))) := by
  have h' : if 1000 ≤ t then ρ.2.2[t - 1000]? = some c else c = (t, .inr (.inr (.inl l))) := h
  rw [if_neg (by omega)] at h'
  exact h'
theorem yce_rm {ρ : yR} {t : Nat} {l : List (Option Nat)} (ht : t < 1000) : yce ρ (t, .inr (.inr (.inl l))) (t, .inr (.inr (.inl l))) := by
  show if 1000 ≤ t then ρ.2.2[t - 1000]? = some _ else (t, .inr (.inr (.inl l))) = ((t, .inr (.inr (.inl l))) : zE)
  rw [if_neg (by omega)]
theorem yce_var {ρ : yR} {k : Nat} {l : List (Option Nat)} {c : zE} : yce ρ (1000 + k, .inr (.inr (.inl l))) c ↔ ρ.2.2[k]? = some c := by
  show (if 1000 ≤ 1000 + k then ρ.2.2[1000 + k - 1000]? = some c else c = (1000 + k, .inr (.inr (.inl l)))) ↔ _
  rw [if_pos (by omega), Nat.add_sub_cancel_left]
theorem yget {ρ : yR} {ls cs : zL} {i : Nat} {a : Value} (h : yls ρ ls cs) (hg : zget ls i = some a) : ∃ v, zget cs i = some v ∧ yv ρ a v := by
  unfold zget at hg
  obtain ⟨q, hq, e⟩ := Option.map_eq_some_iff.mp hg
  obtain ⟨z, hz, hr⟩ := yA.find (q := fun q => q.1 == i) (fun a b h => by rw [h.1]) h hq
  subst e
  exact ⟨z.2, by unfold zget; rw [hz]; rfl, hr.2⟩
theorem yset1 {ρ : yR} {ls cs : zL} {i : Nat} {a v : Value} (h : yls ρ ls cs) (hv : yv ρ a v) : yls ρ (zset1 ls i a) (zset1 cs i v) :=
  ⟨(i, v), _, rfl, ⟨rfl, hv⟩, yA.filter (fun a b h => by rw [h.1, yv_cat h.2]) h⟩
theorem yset2 {ρ : yR} {ls cs : zL} {i : Nat} {a v : Value} (h : yls ρ ls cs) (hv : yv ρ a v) : yls ρ (zset2 ls i a) (zset2 cs i v) :=
  ⟨(i, v), _, rfl, ⟨rfl, hv⟩, yA.filter (fun a b h => by rw [h.1, yv_cat h.2]) h⟩
theorem yargs {ρ : yR} : ∀ {as cs : List Value} (i : Nat), yvs ρ as cs → yls ρ (lv_args i as) (lv_args i cs)
  | [], _, _, h => by rw [show _ = [] from h]; exact rfl
  | a :: as, _, i, ⟨b, bs, e, hr, h⟩ => by
    rw [e]
    refine ⟨(i, b), _, rfl, ⟨rfl, hr⟩, ?_⟩
    rw [yv_cat hr]
    exact yargs _ h
theorem ysl_len {ρ : yR} : ∀ {as cs : List Value}, yvs ρ as cs → (lg_sl cs).length = (lg_sl as).length
  | [], _, h => by rw [show _ = [] from h]
  | a :: as, _, ⟨b, bs, e, hr, h⟩ => by
    have h1 := ysl_len h
    rw [e]
    simp only [lg_sl, List.flatMap_cons, List.length_append] at h1 ⊢
    rw [h1, yv_cat hr]
    split <;> rfl
theorem yw8 {ρ : yR} {r cr : List Value} (h : yvs ρ r cr) : zw8 cr = zw8 r := by
  have : ∀ {as cs : List Value}, yvs ρ as cs → (cs.map fun v => v.category).sum = (as.map fun v => v.category).sum := by
    intro as
    induction as with
    | nil => intro cs h; rw [show cs = [] from h]
    | cons a as ih =>
      intro cs h
      obtain ⟨b, bs, e, hr, h⟩ := h
      rw [e, List.map_cons, List.map_cons, List.sum_cons, List.sum_cons, ih h, yv_cat hr]
  unfold zw8
  rw [this h]
theorem y1 {ρ : yR} {a : Value} {r cst : List Value} (h : yvs ρ (a :: r) cst) (ha : ∀ v, yv ρ a v → v = a) : ∃ cr, cst = a :: cr ∧ yvs ρ r cr := by
  obtain ⟨b, bs, e, hr, h⟩ := h
  rw [ha b hr] at e
  exact ⟨bs, e, h⟩
theorem y0 {ρ : yR} {a v : Value} {r cr : List Value} (ha : yv ρ a v) (h : yvs ρ r cr) : yvs ρ (a :: r) (v :: cr) := ⟨v, cr, rfl, ha, h⟩
theorem yjump_s {pc : Nat} {off : Int} {ls : zL} {st : List Value} {h : zH} {pc' : Nat} {ls' : zL} {st' : List Value} {h' : zH} (e : zjump pc off ls st h = some (pc', ls', st', h')) : ls' = ls ∧ st' = st ∧ h' = h ∧ ∀ (cl : zL) (cs : List Value) (ch : zH), zjump pc off cl cs ch = some (pc', cl, cs, ch) := by
  unfold zjump at e
  split at e
  · next q =>
    cases e
    exact ⟨rfl, rfl, rfl, fun _ _ _ => by unfold zjump; rw [if_pos q]⟩
  · cases e
theorem ybr_s {b : Bool} {pc : Nat} {off : Int} {ls : zL} {st : List Value} {h : zH} {pc' : Nat} {ls' : zL} {st' : List Value} {h' : zH} (e : zbr b pc off ls st h = some (pc', ls', st', h')) : ls' = ls ∧ st' = st ∧ h' = h ∧ ∀ (cl : zL) (cs : List Value) (ch : zH), zbr b pc off cl cs ch = some (pc', cl, cs, ch) := by
  unfold zbr at e
  split at e
  · next q =>
    split at e
    · next q2 =>
      cases e
      exact ⟨rfl, rfl, rfl, fun _ _ _ => by unfold zbr; rw [if_pos q, if_pos q2]⟩
    · next q2 =>
      cases e
      exact ⟨rfl, rfl, rfl, fun _ _ _ => by unfold zbr; rw [if_pos q, if_neg q2]⟩
  · cases e
set_option maxHeartbeats 8000000 in
theorem yzI {X0 X : zX} {ρ : yR} {i : Instr} {pc : Nat} {ls : zL} {st : List Value} {h : zH} {pc' : Nat} {ls' : zL} {st' : List Value} {h' : zH} {cst : List Value} (hs : zstI X0 i pc ls st h = some (pc', ls', st', h')) (hst : yvs ρ st cst) : ls' = ls ∧ h' = h ∧ ∃ cst' : List Value, yvs ρ st' cst' ∧ ∀ (cl : zL) (ch : zH), zstI X i pc cl cst ch = some (pc', cl, cst', ch) := by
  cases i with
  | iadd =>
    dsimp only [zstI] at hs
    split at hs
    · cases hs
      obtain ⟨c1, rfl, h1⟩ := y1 hst (fun _ h => h)
      obtain ⟨c2, rfl, h2⟩ := y1 h1 (fun _ h => h)
      exact ⟨rfl, rfl, _, y0 (yv_r rfl) h2, fun _ _ => rfl⟩
    · cases hs
  | isub =>
    dsimp only [zstI] at hs
    split at hs
    · cases hs
      obtain ⟨c1, rfl, h1⟩ := y1 hst (fun _ h => h)
      obtain ⟨c2, rfl, h2⟩ := y1 h1 (fun _ h => h)
      exact ⟨rfl, rfl, _, y0 (yv_r rfl) h2, fun _ _ => rfl⟩
    · cases hs
  | imul =>
    dsimp only [zstI] at hs
    split at hs
    · cases hs
      obtain ⟨c1, rfl, h1⟩ := y1 hst (fun _ h => h)
      obtain ⟨c2, rfl, h2⟩ := y1 h1 (fun _ h => h)
      exact ⟨rfl, rfl, _, y0 (yv_r rfl) h2, fun _ _ => rfl⟩
    · cases hs
  | iand =>
    dsimp only [zstI] at hs
    split at hs
    · cases hs
      obtain ⟨c1, rfl, h1⟩ := y1 hst (fun _ h => h)
      obtain ⟨c2, rfl, h2⟩ := y1 h1 (fun _ h => h)
      exact ⟨rfl, rfl, _, y0 (yv_r rfl) h2, fun _ _ => rfl⟩
    · cases hs
  | ior =>
    dsimp only [zstI] at hs
    split at hs
    · cases hs
      obtain ⟨c1, rfl, h1⟩ := y1 hst (fun _ h => h)
      obtain ⟨c2, rfl, h2⟩ := y1 h1 (fun _ h => h)
      exact ⟨rfl, rfl, _, y0 (yv_r rfl) h2, fun _ _ => rfl⟩
    · cases hs
  | ixor =>
    dsimp only [zstI] at hs
    split at hs
    · cases hs
      obtain ⟨c1, rfl, h1⟩ := y1 hst (fun _ h => h)
      obtain ⟨c2, rfl, h2⟩ := y1 h1 (fun _ h => h)
      exact ⟨rfl, rfl, _, y0 (yv_r rfl) h2, fun _ _ => rfl⟩
    · cases hs
  | ishl =>
    dsimp only [zstI] at hs
    split at hs
    · cases hs
      obtain ⟨c1, rfl, h1⟩ := y1 hst (fun _ h => h)
      obtain ⟨c2, rfl, h2⟩ := y1 h1 (fun _ h => h)
      exact ⟨rfl, rfl, _, y0 (yv_r rfl) h2, fun _ _ => rfl⟩
    · cases hs
  | ishr =>
    dsimp only [zstI] at hs
    split at hs
    · cases hs
      obtain ⟨c1, rfl, h1⟩ := y1 hst (fun _ h => h)
      obtain ⟨c2, rfl, h2⟩ := y1 h1 (fun _ h => h)
      exact ⟨rfl, rfl, _, y0 (yv_r rfl) h2, fun _ _ => rfl⟩
    · cases hs
  | iushr =>
    dsimp only [zstI] at hs
    split at hs
    · cases hs
      obtain ⟨c1, rfl, h1⟩ := y1 hst (fun _ h => h)
      obtain ⟨c2, rfl, h2⟩ := y1 h1 (fun _ h => h)
      exact ⟨rfl, rfl, _, y0 (yv_r rfl) h2, fun _ _ => rfl⟩
    · cases hs
  | ladd =>
    dsimp only [zstI] at hs
    split at hs
    · cases hs
      obtain ⟨c1, rfl, h1⟩ := y1 hst (fun _ h => h)
      obtain ⟨c2, rfl, h2⟩ := y1 h1 (fun _ h => h)
      exact ⟨rfl, rfl, _, y0 (yv_r rfl) h2, fun _ _ => rfl⟩
    · cases hs
  | lsub =>
    dsimp only [zstI] at hs
    split at hs
    · cases hs
      obtain ⟨c1, rfl, h1⟩ := y1 hst (fun _ h => h)
      obtain ⟨c2, rfl, h2⟩ := y1 h1 (fun _ h => h)
      exact ⟨rfl, rfl, _, y0 (yv_r rfl) h2, fun _ _ => rfl⟩
    · cases hs
  | lmul =>
    dsimp only [zstI] at hs
    split at hs
    · cases hs
      obtain ⟨c1, rfl, h1⟩ := y1 hst (fun _ h => h)
      obtain ⟨c2, rfl, h2⟩ := y1 h1 (fun _ h => h)
      exact ⟨rfl, rfl, _, y0 (yv_r rfl) h2, fun _ _ => rfl⟩
    · cases hs
  | land =>
    dsimp only [zstI] at hs
    split at hs
    · cases hs
      obtain ⟨c1, rfl, h1⟩ := y1 hst (fun _ h => h)
      obtain ⟨c2, rfl, h2⟩ := y1 h1 (fun _ h => h)
      exact ⟨rfl, rfl, _, y0 (yv_r rfl) h2, fun _ _ => rfl⟩
    · cases hs
  | lor =>
    dsimp only [zstI] at hs
    split at hs
    · cases hs
      obtain ⟨c1, rfl, h1⟩ := y1 hst (fun _ h => h)
      obtain ⟨c2, rfl, h2⟩ := y1 h1 (fun _ h => h)
      exact ⟨rfl, rfl, _, y0 (yv_r rfl) h2, fun _ _ => rfl⟩
    · cases hs
  | lxor =>
    dsimp only [zstI] at hs
    split at hs
    · cases hs
      obtain ⟨c1, rfl, h1⟩ := y1 hst (fun _ h => h)
      obtain ⟨c2, rfl, h2⟩ := y1 h1 (fun _ h => h)
      exact ⟨rfl, rfl, _, y0 (yv_r rfl) h2, fun _ _ => rfl⟩
    · cases hs
  | lshl =>
    dsimp only [zstI] at hs
    split at hs
    · cases hs
      obtain ⟨c1, rfl, h1⟩ := y1 hst (fun _ h => h)
      obtain ⟨c2, rfl, h2⟩ := y1 h1 (fun _ h => h)
      exact ⟨rfl, rfl, _, y0 (yv_r rfl) h2, fun _ _ => rfl⟩
    · cases hs
  | lshr =>
    dsimp only [zstI] at hs
    split at hs
    · cases hs
      obtain ⟨c1, rfl, h1⟩ := y1 hst (fun _ h => h)
      obtain ⟨c2, rfl, h2⟩ := y1 h1 (fun _ h => h)
      exact ⟨rfl, rfl, _, y0 (yv_r rfl) h2, fun _ _ => rfl⟩
    · cases hs
  | lushr =>
    dsimp only [zstI] at hs
    split at hs
    · cases hs
      obtain ⟨c1, rfl, h1⟩ := y1 hst (fun _ h => h)
      obtain ⟨c2, rfl, h2⟩ := y1 h1 (fun _ h => h)
      exact ⟨rfl, rfl, _, y0 (yv_r rfl) h2, fun _ _ => rfl⟩
    · cases hs
  | lcmp =>
    dsimp only [zstI] at hs
    split at hs
    · cases hs
      obtain ⟨c1, rfl, h1⟩ := y1 hst (fun _ h => h)
      obtain ⟨c2, rfl, h2⟩ := y1 h1 (fun _ h => h)
      exact ⟨rfl, rfl, _, y0 (yv_r rfl) h2, fun _ _ => rfl⟩
    · cases hs
  | idiv =>
    dsimp only [zstI] at hs
    split at hs
    · split at hs
      · cases hs
      · next hn =>
        cases hs
        obtain ⟨c1, rfl, h1⟩ := y1 hst (fun _ h => h)
        obtain ⟨c2, rfl, h2⟩ := y1 h1 (fun _ h => h)
        exact ⟨rfl, rfl, _, y0 (yv_r rfl) h2, fun _ _ => by dsimp only [zstI]; rw [if_neg hn]⟩
    · cases hs
  | irem =>
    dsimp only [zstI] at hs
    split at hs
    · split at hs
      · cases hs
      · next hn =>
        cases hs
        obtain ⟨c1, rfl, h1⟩ := y1 hst (fun _ h => h)
        obtain ⟨c2, rfl, h2⟩ := y1 h1 (fun _ h => h)
        exact ⟨rfl, rfl, _, y0 (yv_r rfl) h2, fun _ _ => by dsimp only [zstI]; rw [if_neg hn]⟩
    · cases hs
  | ldiv =>
    dsimp only [zstI] at hs
    split at hs
    · split at hs
      · cases hs
      · next hn =>
        cases hs
        obtain ⟨c1, rfl, h1⟩ := y1 hst (fun _ h => h)
        obtain ⟨c2, rfl, h2⟩ := y1 h1 (fun _ h => h)
        exact ⟨rfl, rfl, _, y0 (yv_r rfl) h2, fun _ _ => by dsimp only [zstI]; rw [if_neg hn]⟩
    · cases hs
  | lrem =>
    dsimp only [zstI] at hs
    split at hs
    · split at hs
      · cases hs
      · next hn =>
        cases hs
        obtain ⟨c1, rfl, h1⟩ := y1 hst (fun _ h => h)
        obtain ⟨c2, rfl, h2⟩ := y1 h1 (fun _ h => h)
        exact ⟨rfl, rfl, _, y0 (yv_r rfl) h2, fun _ _ => by dsimp only [zstI]; rw [if_neg hn]⟩
    · cases hs
  | ineg =>
    dsimp only [zstI] at hs
    split at hs
    · cases hs
      obtain ⟨c1, rfl, h1⟩ := y1 hst (fun _ h => h)
      exact ⟨rfl, rfl, _, y0 (yv_r rfl) h1, fun _ _ => rfl⟩
    · cases hs
  | lneg =>
    dsimp only [zstI] at hs
    split at hs
    · cases hs
      obtain ⟨c1, rfl, h1⟩ := y1 hst (fun _ h => h)
      exact ⟨rfl, rfl, _, y0 (yv_r rfl) h1, fun _ _ => rfl⟩
    · cases hs
  | i2l =>
    dsimp only [zstI] at hs
    split at hs
    · cases hs
      obtain ⟨c1, rfl, h1⟩ := y1 hst (fun _ h => h)
      exact ⟨rfl, rfl, _, y0 (yv_r rfl) h1, fun _ _ => rfl⟩
    · cases hs
  | l2i =>
    dsimp only [zstI] at hs
    split at hs
    · cases hs
      obtain ⟨c1, rfl, h1⟩ := y1 hst (fun _ h => h)
      exact ⟨rfl, rfl, _, y0 (yv_r rfl) h1, fun _ _ => rfl⟩
    · cases hs
  | i2c =>
    dsimp only [zstI] at hs
    split at hs
    · cases hs
      obtain ⟨c1, rfl, h1⟩ := y1 hst (fun _ h => h)
      exact ⟨rfl, rfl, _, y0 (yv_r rfl) h1, fun _ _ => rfl⟩
    · cases hs
  | dup =>
    dsimp only [zstI] at hs
    split at hs
    · cases hs
      obtain ⟨c1, rfl, h1⟩ := y1 hst (fun _ h => h)
      exact ⟨rfl, rfl, _, y0 (yv_r rfl) (y0 (yv_r rfl) h1), fun _ _ => rfl⟩
    · cases hs
      obtain ⟨c1, rfl, h1⟩ := y1 hst (fun _ h => h)
      exact ⟨rfl, rfl, _, y0 (yv_r rfl) (y0 (yv_r rfl) h1), fun _ _ => rfl⟩
    · cases hs
  | dup2 =>
    dsimp only [zstI] at hs
    split at hs
    · cases hs
      obtain ⟨c1, rfl, h1⟩ := y1 hst (fun _ h => h)
      obtain ⟨c2, rfl, h2⟩ := y1 h1 (fun _ h => h)
      exact ⟨rfl, rfl, _, y0 (yv_r rfl) (y0 (yv_r rfl) (y0 (yv_r rfl) (y0 (yv_r rfl) h2))), fun _ _ => rfl⟩
    · cases hs
  | pop =>
    dsimp only [zstI] at hs
    split at hs
    · cases hs
      obtain ⟨c1, rfl, h1⟩ := y1 hst (fun _ h => h)
      exact ⟨rfl, rfl, _, h1, fun _ _ => rfl⟩
    · cases hs
      obtain ⟨c1, rfl, h1⟩ := y1 hst (fun _ h => h)
      exact ⟨rfl, rfl, _, h1, fun _ _ => rfl⟩
    · cases hs
  | ifCond cd off =>
    dsimp only [zstI] at hs
    split at hs
    · obtain ⟨c1, rfl, h1⟩ := y1 hst (fun _ h => h)
      obtain ⟨e1, e2, e3, e4⟩ := ybr_s hs
      subst e1 e2 e3
      exact ⟨rfl, rfl, _, h1, fun _ _ => e4 _ _ _⟩
    · cases hs
  | if_icmp cd off =>
    dsimp only [zstI] at hs
    split at hs
    · obtain ⟨c1, rfl, h1⟩ := y1 hst (fun _ h => h)
      obtain ⟨c2, rfl, h2⟩ := y1 h1 (fun _ h => h)
      obtain ⟨e1, e2, e3, e4⟩ := ybr_s hs
      subst e1 e2 e3
      exact ⟨rfl, rfl, _, h2, fun _ _ => e4 _ _ _⟩
    · cases hs
  | goto off =>
    obtain ⟨e1, e2, e3, e4⟩ := yjump_s hs
    subst e1 e2 e3
    exact ⟨rfl, rfl, _, hst, fun _ _ => e4 _ _ _⟩
  | tableswitch d lo hi offs =>
    dsimp only [zstI] at hs
    split at hs
    · obtain ⟨c1, rfl, h1⟩ := y1 hst (fun _ h => h)
      split at hs
      · next q =>
        obtain ⟨e1, e2, e3, e4⟩ := yjump_s hs
        subst e1 e2 e3
        exact ⟨rfl, rfl, _, h1, fun _ _ => by dsimp only [zstI]; rw [if_pos q]; exact e4 _ _ _⟩
      · next q =>
        split at hs
        · next q2 =>
          obtain ⟨e1, e2, e3, e4⟩ := yjump_s hs
          subst e1 e2 e3
          exact ⟨rfl, rfl, _, h1, fun _ _ => by dsimp only [zstI]; rw [if_neg q, q2]; exact e4 _ _ _⟩
        · cases hs
    · cases hs
  | lookupswitch d ps =>
    dsimp only [zstI] at hs
    split at hs
    · obtain ⟨c1, rfl, h1⟩ := y1 hst (fun _ h => h)
      split at hs
      · next q =>
        obtain ⟨e1, e2, e3, e4⟩ := yjump_s hs
        subst e1 e2 e3
        exact ⟨rfl, rfl, _, h1, fun _ _ => by dsimp only [zstI]; rw [if_pos q]; exact e4 _ _ _⟩
      · cases hs
    · cases hs
  | _ => exact nomatch (show (none : Option (Nat × zL × List Value × zH)) = some _ from hs)
set_option maxHeartbeats 8000000 in
theorem yzL {nL : Nat} {ρ : yR} {i : Instr} {pc : Nat} {ls : zL} {st : List Value} {h : zH} {pc' : Nat} {ls' : zL} {st' : List Value} {h' : zH} {cl : zL} {cst : List Value} (hs : zstL nL i pc ls st h = some (pc', ls', st', h')) (hl : yls ρ ls cl) (hst : yvs ρ st cst) : h' = h ∧ ∃ (cl' : zL) (cst' : List Value), yls ρ ls' cl' ∧ yvs ρ st' cst' ∧ ∀ ch : zH, zstL nL i pc cl cst ch = some (pc', cl', cst', ch) := by
  cases i with
  | iconst n =>
    dsimp only [zstL] at hs
    cases hs
    exact ⟨rfl, _, _, hl, y0 (yv_r rfl) hst, fun _ => rfl⟩
  | bipush n =>
    dsimp only [zstL] at hs
    cases hs
    exact ⟨rfl, _, _, hl, y0 (yv_r rfl) hst, fun _ => rfl⟩
  | sipush n =>
    dsimp only [zstL] at hs
    cases hs
    exact ⟨rfl, _, _, hl, y0 (yv_r rfl) hst, fun _ => rfl⟩
  | lconst n =>
    dsimp only [zstL] at hs
    cases hs
    exact ⟨rfl, _, _, hl, y0 (yv_r rfl) hst, fun _ => rfl⟩
  | iload_n k =>
    dsimp only [zstL] at hs
    split at hs
    · next hg =>
      cases hs
      obtain ⟨v, g, e⟩ := yget hl hg
      rw [yv_c e rfl] at g
      exact ⟨rfl, _, _, hl, y0 (yv_r rfl) hst, fun _ => by dsimp only [zstL]; rw [g]⟩
    · cases hs
  | iload k =>
    dsimp only [zstL] at hs
    split at hs
    · next hg =>
      cases hs
      obtain ⟨v, g, e⟩ := yget hl hg
      rw [yv_c e rfl] at g
      exact ⟨rfl, _, _, hl, y0 (yv_r rfl) hst, fun _ => by dsimp only [zstL]; rw [g]⟩
    · cases hs
  | lload_n k =>
    dsimp only [zstL] at hs
    split at hs
    · next hg =>
      cases hs
      obtain ⟨v, g, e⟩ := yget hl hg
      rw [yv_c e rfl] at g
      exact ⟨rfl, _, _, hl, y0 (yv_r rfl) hst, fun _ => by dsimp only [zstL]; rw [g]⟩
    · cases hs
  | lload k =>
    dsimp only [zstL] at hs
    split at hs
    · next hg =>
      cases hs
      obtain ⟨v, g, e⟩ := yget hl hg
      rw [yv_c e rfl] at g
      exact ⟨rfl, _, _, hl, y0 (yv_r rfl) hst, fun _ => by dsimp only [zstL]; rw [g]⟩
    · cases hs
  | aload_n k =>
    dsimp only [zstL] at hs
    split at hs
    · next hg =>
      cases hs
      obtain ⟨v, g, e⟩ := yget hl hg
      rw [yv_c e rfl] at g
      exact ⟨rfl, _, _, hl, y0 (yv_r rfl) hst, fun _ => by dsimp only [zstL]; rw [g]⟩
    · next hg =>
      cases hs
      obtain ⟨v, g, e⟩ := yget hl hg
      rw [yv_c e rfl] at g
      exact ⟨rfl, _, _, hl, y0 (yv_r rfl) hst, fun _ => by dsimp only [zstL]; rw [g]⟩
    · next hg =>
      cases hs
      obtain ⟨v, g, e⟩ := yget hl hg
      rw [yv_c e rfl] at g
      exact ⟨rfl, _, _, hl, y0 (yv_r rfl) hst, fun _ => by dsimp only [zstL]; rw [g]⟩
    · cases hs
  | aload k =>
    dsimp only [zstL] at hs
    split at hs
    · next hg =>
      cases hs
      obtain ⟨v, g, e⟩ := yget hl hg
      rw [yv_c e rfl] at g
      exact ⟨rfl, _, _, hl, y0 (yv_r rfl) hst, fun _ => by dsimp only [zstL]; rw [g]⟩
    · next hg =>
      cases hs
      obtain ⟨v, g, e⟩ := yget hl hg
      rw [yv_c e rfl] at g
      exact ⟨rfl, _, _, hl, y0 (yv_r rfl) hst, fun _ => by dsimp only [zstL]; rw [g]⟩
    · next hg =>
      cases hs
      obtain ⟨v, g, e⟩ := yget hl hg
      rw [yv_c e rfl] at g
      exact ⟨rfl, _, _, hl, y0 (yv_r rfl) hst, fun _ => by dsimp only [zstL]; rw [g]⟩
    · cases hs
  | istore_n k =>
    dsimp only [zstL] at hs
    split at hs
    · obtain ⟨c1, rfl, h1⟩ := y1 hst (fun _ h => h)
      split at hs
      · next q =>
        cases hs
        exact ⟨rfl, _, _, yset1 hl (yv_r rfl), h1, fun _ => by dsimp only [zstL]; rw [if_pos q]⟩
      · cases hs
    · cases hs
  | istore k =>
    dsimp only [zstL] at hs
    split at hs
    · obtain ⟨c1, rfl, h1⟩ := y1 hst (fun _ h => h)
      split at hs
      · next q =>
        cases hs
        exact ⟨rfl, _, _, yset1 hl (yv_r rfl), h1, fun _ => by dsimp only [zstL]; rw [if_pos q]⟩
      · cases hs
    · cases hs
  | lstore_n k =>
    dsimp only [zstL] at hs
    split at hs
    · obtain ⟨c1, rfl, h1⟩ := y1 hst (fun _ h => h)
      split at hs
      · next q =>
        cases hs
        exact ⟨rfl, _, _, yset2 hl (yv_r rfl), h1, fun _ => by dsimp only [zstL]; rw [if_pos q]⟩
      · cases hs
    · cases hs
  | lstore k =>
    dsimp only [zstL] at hs
    split at hs
    · obtain ⟨c1, rfl, h1⟩ := y1 hst (fun _ h => h)
      split at hs
      · next q =>
        cases hs
        exact ⟨rfl, _, _, yset2 hl (yv_r rfl), h1, fun _ => by dsimp only [zstL]; rw [if_pos q]⟩
      · cases hs
    · cases hs
  | astore_n k =>
    dsimp only [zstL] at hs
    split at hs
    · obtain ⟨c1, rfl, h1⟩ := y1 hst (fun _ h => h)
      split at hs
      · next q =>
        cases hs
        exact ⟨rfl, _, _, yset1 hl (yv_r rfl), h1, fun _ => by dsimp only [zstL]; rw [if_pos q]⟩
      · cases hs
    · cases hs
  | astore k =>
    dsimp only [zstL] at hs
    split at hs
    · obtain ⟨c1, rfl, h1⟩ := y1 hst (fun _ h => h)
      split at hs
      · next q =>
        cases hs
        exact ⟨rfl, _, _, yset1 hl (yv_r rfl), h1, fun _ => by dsimp only [zstL]; rw [if_pos q]⟩
      · cases hs
    · cases hs
  | iinc k n =>
    dsimp only [zstL] at hs
    split at hs
    · next hg =>
      obtain ⟨v, g, e⟩ := yget hl hg
      rw [yv_c e rfl] at g
      split at hs
      · next q =>
        cases hs
        exact ⟨rfl, _, _, yset1 hl (yv_r rfl), hst, fun _ => by dsimp only [zstL]; rw [g]; dsimp only; rw [if_pos q]⟩
      · cases hs
    · cases hs
  | _ => exact nomatch (show (none : Option (Nat × zL × List Value × zH)) = some _ from hs)
end
