/-! All rules are right. -/
theorem qsA {a c s : Nat} (hs : ieq (asrt qW a : Int) (s : Int) = true) (ha : a < qW.1.length) (hu : ∀ a : Nat, a < qW.1.length → (asrt qW a : Int) = (s : Int) → a = c) : a = c := hu a ha (ieq_ok hs)
theorem qkey {W : aW} {E : List aY} {ρ : List Int} {q : aK} {a k j : Nat} (hE : aE W E ρ) (hd : aden ρ q a k) (hj : j < 1000) (hb : (Nat.beq q.2.1 0 && ieq q.2.2 (j : Int)) = true) : k = j := by
  rw [Bool.and_eq_true] at hb
  obtain ⟨x, x1, x2⟩ := hd.2
  rw [Nat.eq_of_beq_eq_true hb.1, ieq_ok hb.2] at x1
  have := qidx hE hj x1
  omega
theorem qUok : aUok qW qG qU := by
  intro E m q b ρ h h' a k w o hU hE hH ha hk hd hv hS hw hr
  unfold qU at hU
  cases c6 : ieq (asrt qW a : Int) 6 with
  | true =>
    rw [c6] at hU
    have e := qsA (s := 6) c6 ha (fun a => qun6)
    subst e
    have hk : k < 72 := hk
    exact qUw_ok hU hE hH hd.2 (qv_wr (by unfold qpr; simp [Nat.ble_eq]; omega) hr)
  | false =>
    rw [c6] at hU
    cases c2 : ieq (asrt qW a : Int) 2 with
    | true =>
      rw [c2] at hU
      have e := qsA (s := 2) c2 ha (fun a => qun2)
      subst e
      cases c4 : (Nat.beq q.2.1 0 && ieq q.2.2 4) with
      | true =>
        rw [c4] at hU
        have e := qkey (j := 4) hE hd (by decide) c4
        subst e
        exact qUk_ok hU hE hH hd.1 hv hw (qv_wr (by decide) hr)
      | false =>
        rw [c4] at hU
        cases c3 : (Nat.beq q.2.1 0 && ieq q.2.2 2) with
        | true =>
          rw [c3] at hU
          have e := qkey (j := 2) hE hd (by decide) c3
          subst e
          exact qUs_ok hU hE hH hd.1 hv hw (qv_wr (by decide) hr)
        | false => rw [c3] at hU; cases hU
    | false =>
      rw [c2] at hU
      cases c49 : ieq (asrt qW a : Int) 49 with
      | true =>
        rw [c49] at hU
        have e := qsA (s := 49) c49 ha (fun a => qun49)
        subst e
        cases c4 : (Nat.beq q.2.1 0 && ieq q.2.2 33) with
        | true =>
          rw [c4] at hU
          have e := qkey (j := 33) hE hd (by decide) c4
          subst e
          exact qUco_ok hU hE hH hd.1 hv hw (qv_wr (by decide) hr)
        | false =>
          rw [c4] at hU
          cases c5 : (Nat.beq q.2.1 0 && ieq q.2.2 26) with
          | true =>
            rw [c5] at hU
            have e := qkey (j := 26) hE hd (by decide) c5
            subst e
            exact qUso_ok hU hE hH hd.1 hv hw (qv_wr (by decide) hr)
          | false =>
            rw [c5] at hU
            cases c7 : (Nat.beq q.2.1 0 && ieq q.2.2 27) with
            | true =>
              rw [c7] at hU
              have e := qkey (j := 27) hE hd (by decide) c7
              subst e
              exact qUva_ok hU hE hH hd.1 hv hw (qv_wr (by decide) hr)
            | false => rw [c7] at hU; cases hU
      | false =>
        rw [c49] at hU
        cases c51 : ieq (asrt qW a : Int) 51 with
        | true =>
          rw [c51] at hU
          have e := qsA (s := 51) c51 ha (fun a => qun51)
          subst e
          cases c4 : (Nat.beq q.2.1 0 && ieq q.2.2 17) with
          | true =>
            rw [c4] at hU
            have e := qkey (j := 17) hE hd (by decide) c4
            subst e
            exact qUn_ok hU hE hH hv hw (qv_wr (by decide) hr)
          | false => rw [c4] at hU; cases hU
        | false =>
          rw [c51] at hU
          obtain ⟨x, x1, x2⟩ := hd.2
          cases hp : aiv E q.2.1 q.2.2 with
          | none => rw [hp] at hU; cases hU
          | some p =>
            rw [hp] at hU
            dsimp only [cond_false] at hU
            have pb := aiv_in hE hp x1
            cases c65 : ieq (asrt qW a : Int) 65 with
            | true =>
              rw [c65] at hU
              have e := qsA (s := 65) c65 ha (fun a => qun65)
              subst e
              have hk : k < 6 := hk
              have hwr := qv_wr (h := h) (h' := h') (a := 144) (k := k) (by unfold qpr; simp [Nat.ble_eq]; omega) hr
              cases c3 : (ieq p.1 p.2 && !ile 3 p.1) with
              | true =>
                rw [c3] at hU
                rw [Bool.and_eq_true] at c3
                have e1 := ieq_ok c3.1
                have e2 := ile_f (a := 3) (b := p.1) (by simpa using c3.2)
                have e3 : p.1 = (k : Int) := by omega
                rw [e3] at hU
                exact qUh_ok (so := 65) (e := 0) (c := 144) (n := 3) (gk := 79) hU hE hH hv hw hwr (fun a => qun65) (by decide) (by decide) (by omega) (by decide) (by unfold qpr; simp [Nat.ble_eq]; omega) (by decide +kernel) (by decide +kernel) rfl (by decide) (fun F => qg79 F) (fun z a j q1 q2 => qd44a (by omega) a j q1 q2) (by decide) (Or.inl ⟨rfl, rfl, rfl, rfl⟩)
              | false =>
                rw [c3] at hU
                cases c4 : ile 3 p.1 with
                | true =>
                  rw [c4] at hU
                  have := ile_iff.mp c4
                  exact qUsf_ok hU hE hH hv hw hwr (by omega) (by omega)
                | false => rw [c4] at hU; cases hU
            | false =>
              rw [c65] at hU
              cases c66 : ieq (asrt qW a : Int) 66 with
              | true =>
                rw [c66] at hU
                have e := qsA (s := 66) c66 ha (fun a => qun66)
                subst e
                have hk : k < 6 := hk
                have hwr := qv_wr (h := h) (h' := h') (a := 145) (k := k) (by unfold qpr; simp [Nat.ble_eq]; omega) hr
                cases c3 : (ieq p.1 p.2 && !ile 3 p.1) with
                | true =>
                  rw [c3] at hU
                  rw [Bool.and_eq_true] at c3
                  have e1 := ieq_ok c3.1
                  have e2 := ile_f (a := 3) (b := p.1) (by simpa using c3.2)
                  have e3 : p.1 = (k : Int) := by omega
                  rw [e3] at hU
                  exact qUh_ok (so := 66) (e := 1) (c := 145) (n := 3) (gk := 80) hU hE hH hv hw hwr (fun a => qun66) (by decide) (by decide) (by omega) (by decide) (by unfold qpr; simp [Nat.ble_eq]; omega) (by decide +kernel) (by decide +kernel) rfl (by decide) (fun F => qg80 F) (fun z a j q1 q2 => qd45a (by omega) a j q1 q2) (by decide) (Or.inr (Or.inl ⟨rfl, rfl, rfl, rfl⟩))
                | false =>
                  rw [c3] at hU
                  cases c4 : ile 3 p.1 with
                  | true =>
                    rw [c4] at hU
                    have := ile_iff.mp c4
                    exact qUst_ok hU hE hH hv hw hwr x1 x2 (by omega) (by omega)
                  | false => rw [c4] at hU; cases hU
              | false =>
                rw [c66] at hU
                cases c67 : ieq (asrt qW a : Int) 67 with
                | true =>
                  rw [c67] at hU
                  have e := qsA (s := 67) c67 ha (fun a => qun67)
                  subst e
                  have hk : k < 128 := hk
                  have hwr := qv_wr (h := h) (h' := h') (a := 146) (k := k) (by unfold qpr; simp [Nat.ble_eq]; omega) hr
                  cases c3 : (ieq p.1 p.2 && !ile 64 p.1) with
                  | true =>
                    rw [c3] at hU
                    rw [Bool.and_eq_true] at c3
                    have e1 := ieq_ok c3.1
                    have e2 := ile_f (a := 64) (b := p.1) (by simpa using c3.2)
                    have e3 : p.1 = (k : Int) := by omega
                    rw [e3] at hU
                    exact qUh_ok (so := 67) (e := 2) (c := 146) (n := 64) (gk := 81) hU hE hH hv hw hwr (fun a => qun67) (by decide) (by decide) (by omega) (by decide) (by unfold qpr; simp [Nat.ble_eq]; omega) (by decide +kernel) (by decide +kernel) rfl (by decide) (fun F => qg81 F) (fun z a j q1 q2 => qd46a (by omega) a j q1 q2) (by decide) (Or.inr (Or.inr (Or.inl ⟨rfl, rfl, rfl, rfl⟩)))
                  | false =>
                    rw [c3] at hU
                    cases c4 : ile 64 p.1 with
                    | true =>
                      rw [c4] at hU
                      have := ile_iff.mp c4
                      exact qUks_ok (e := 2) (c := 146) (gk := 81) hU hE hH x1 x2 hwr (by omega) (by omega) (by decide +kernel) (by decide +kernel) rfl (by decide) (fun F => ⟨_, qg81 F⟩) (fun e z a j q2 => qd46b e (by omega) a j q2)
                    | false => rw [c4] at hU; cases hU
                | false =>
                  rw [c67] at hU
                  cases c68 : ieq (asrt qW a : Int) 68 with
                  | false => rw [c68] at hU; cases hU
                  | true =>
                    rw [c68] at hU
                    have e := qsA (s := 68) c68 ha (fun a => qun68)
                    subst e
                    have hk : k < 128 := hk
                    have hwr := qv_wr (h := h) (h' := h') (a := 147) (k := k) (by unfold qpr; simp [Nat.ble_eq]; omega) hr
                    cases c3 : (ieq p.1 p.2 && !ile 64 p.1) with
                    | true =>
                      rw [c3] at hU
                      rw [Bool.and_eq_true] at c3
                      have e1 := ieq_ok c3.1
                      have e2 := ile_f (a := 64) (b := p.1) (by simpa using c3.2)
                      have e3 : p.1 = (k : Int) := by omega
                      rw [e3] at hU
                      exact qUh_ok (so := 68) (e := 3) (c := 147) (n := 64) (gk := 82) hU hE hH hv hw hwr (fun a => qun68) (by decide) (by decide) (by omega) (by decide) (by unfold qpr; simp [Nat.ble_eq]; omega) (by decide +kernel) (by decide +kernel) rfl (by decide) (fun F => qg82 F) (fun z a j q1 q2 => qd47a (by omega) a j q1 q2) (by decide) (Or.inr (Or.inr (Or.inr ⟨rfl, rfl, rfl, rfl⟩)))
                    | false =>
                      rw [c3] at hU
                      cases c4 : ile 64 p.1 with
                      | true =>
                        rw [c4] at hU
                        have := ile_iff.mp c4
                        exact qUks_ok (e := 3) (c := 147) (gk := 82) hU hE hH x1 x2 hwr (by omega) (by omega) (by decide +kernel) (by decide +kernel) rfl (by decide) (fun F => ⟨_, qg82 F⟩) (fun e z a j q2 => qd47b e (by omega) a j q2)
                      | false => rw [c4] at hU; cases hU
theorem qGok : aGok qW qG qPt := ⟨qUok, fun _ _ _ ha hk => qG_real ha hk, fun _ _ _ _ _ hp hr b j => qG_plain hp hr b j⟩
