/-! The rules of the Reader are right. -/
theorem qallc {α : Type} {P : α → Prop} {a : α} {l : List α} (h : P a) (t : ∀ g ∈ l, P g) : ∀ g ∈ a :: l, P g := fun g hg => by
  rcases List.mem_cons.mp hg with rfl | q
  · exact h
  · exact t g q
theorem qall0 {α : Type} {P : α → Prop} : ∀ g ∈ ([] : List α), P g := fun g hg => by cases hg
theorem qmk {ρ : List Int} {h h' : zH} {E' : List aY} {m' : aM} {ks : List aK} (ρ' : List Int) (h1 : aext ρ ρ') (h2 : aE qW E' ρ') (h3 : ∀ g ∈ m', ∃ (a k : Nat) (x : Int32), aden ρ' g.1 a k ∧ a < qW.1.length ∧ k < apn (afm qW (asrt qW a)) ∧ (afm qW (asrt qW a)).2.2.1 ≤ k ∧ qG a k h' = some x ∧ av ρ' g.2 (.int x)) (h4 : ∀ g ∈ ks, ∃ (a k : Nat) (x : Int32), aden ρ' g a k ∧ a < qW.1.length ∧ (afm qW (asrt qW a)).2.2.1 ≤ k ∧ qG a k h' = some x ∧ avt qW (apl (afm qW (asrt qW a)) k) (.int x)) (h5 : ∀ a k : Nat, (∀ g ∈ m', ¬ aden ρ' g.1 a k) → (∀ g ∈ ks, ¬ aden ρ' g a k) → qgF (qv h') a k = qgF (qv h) a k) : aUout qW qG ρ h h' (some (E', m', ks)) := ⟨ρ', h1, h2, h3, h4, fun a k q1 q2 => qo3 (h5 a k q1 q2)⟩
theorem qnd {E : List aY} {ρ : List Int} {r c kk a k : Nat} (hE : aE qW E ρ) (hk : kk < 1000) (hr : ρ[r]? = some (c : Int)) (hn : ¬ aden ρ (r, 0, (kk : Int)) a k) : ¬ (a = c ∧ k = kk) := fun ⟨e1, e2⟩ => hn (by subst e1 e2; exact qden hE hk hr)
theorem qv_b (h : zH) (a k : Nat) : -2147483648 ≤ qv h a k ∧ qv h a k ≤ 2147483647 := by
  unfold qv
  cases qpr a k with
  | false =>
    show -2147483648 ≤ (0 : Int) ∧ (0 : Int) ≤ 2147483647
    exact ⟨by decide, by decide⟩
  | true =>
    show -2147483648 ≤ qi h a k ∧ qi h a k ≤ 2147483647
    unfold qi
    split
    · next x _ => exact ab x
    · exact ⟨by decide, by decide⟩
theorem qi_add {x y : Int32} {d : Int} (e : x = y + Int32.ofInt d) (h1 : -2147483648 ≤ y.toInt + d) (h2 : y.toInt + d ≤ 2147483647) : x.toInt = y.toInt + d := by
  have e' : x = Int32.ofInt (y.toInt + d) := by rw [e, Int32.ofInt_add, Int32.ofInt_toInt]
  rw [e', ai32 h1 h2]
theorem qi_up {x y : Int32} (e : x = y + Int32.ofInt 1) (h : 0 ≤ x.toInt) : x.toInt = y.toInt + 1 := by
  have hy := ab y
  by_cases q : y.toInt + 1 ≤ 2147483647
  · exact qi_add e (by omega) q
  · exfalso
    have e1 : y.toInt = 2147483647 := by omega
    have e2 : y = Int32.ofInt 2147483647 := by rw [← e1, Int32.ofInt_toInt]
    rw [e, e2] at h
    exact absurd h (by decide)
theorem apls_inv {ρ : List Int} {k : aV} {d : Int} {x : Int32} (h : av ρ (apls k d) (.int x)) : ∃ y : Int32, x = y + Int32.ofInt d ∧ av ρ k (.int y) ∧ ∀ w : Value, av ρ k w → w = .int y := by
  obtain ⟨s, c, e, hx⟩ := av_int h
  rcases k with ⟨s0, c0⟩ | s0 | s0 | s0
  · have e : (Sum.inl (s0, c0 + d) : aV) = .inl (s, c) := e
    cases e
    obtain ⟨z, z1, z2⟩ := hx
    refine ⟨Int32.ofInt (z + c0), by rw [z2, ← Int32.ofInt_add, Int.add_assoc], ⟨_, ⟨z, z1, rfl⟩, rfl⟩, fun w hw => ?_⟩
    obtain ⟨y, y1, y2⟩ := hw
    rw [y2, y1.inj ⟨z, z1, rfl⟩]
  · cases e
  · cases e
  · cases e
theorem qr22 (h : zH) : qG 2 2 h = none := rfl
theorem qr24 (h : zH) : qG 2 4 h = none := rfl
theorem qr33 (h : zH) : qG 128 33 h = none := rfl
theorem qUw_ok {E : List aY} {m : aM} {q : aK} {o : Option (List aY × aM × List aK)} {ρ : List Int} {h h' : zH} {k : Nat} {z : Int} (hU : qUw E m q = some o) (hE : aE qW E ρ) (hH : aH qW qG ρ m h) (hd : ∃ x : Int32, ai ρ q.2.1 q.2.2 x ∧ x.toInt = (k : Int)) (hF : qv h' = qud (qv h) 6 k z) : aUout qW qG ρ h h' o := by
  unfold qUw at hU
  split at hU
  · next w hw =>
    cases hb : aveq w (.inl q.2) with
    | false => rw [hb] at hU; cases hU
    | true =>
      rw [hb] at hU
      cases hU
      have e := aveq_ok hb
      subst e
      obtain ⟨j, w', x, x1, x2, -, g4, g5⟩ := qamf (so := 2) hE hH (fun a => qun2) (by decide) hw
      have hj : j = 2 := by have := qidx hE (k := 2) (by omega) x1; omega
      subst hj
      rw [qrdx (qr22 h)] at g4
      obtain ⟨y, y1, rfl⟩ := g5
      obtain ⟨x', p1, p2⟩ := hd
      have e2 := y1.inj p1
      subst e2
      have h22 : qv h 2 2 = k := by rw [qv_on (by decide), qi_int g4, p2]
      refine qmk ρ aext.rf hE qall0 qall0 (fun a j _ _ => ?_)
      rw [hF]
      exact qd6 (by rw [h22]; omega) a j
  · cases hU
theorem qk8 {E : List aY} {ρ : List Int} {h h' : zH} {r : Nat} {z : Int} (hE : aE qW E ρ) (hr : ρ[r]? = some ((2 : Nat) : Int)) (hF : qv h' = qud (qv h) 2 4 z) : aUout qW qG ρ h h' (some (E, [], [(r, 0, 8)])) := by
  refine qmk ρ aext.rf hE qall0 (qallc (qo2 (k := 8) hE (by decide +kernel) (by decide) hr (qg8 _) (by decide +kernel)) qall0) (fun a j _ q2 => ?_)
  rw [hF]
  exact qd24 a j (qnd (kk := 8) hE (by decide) hr (q2 _ List.mem_cons_self))
theorem qUk_ok {E : List aY} {m : aM} {r : Nat} {v : aV} {o : Option (List aY × aM × List aK)} {ρ : List Int} {h h' : zH} {w : Value} (hU : qUk E m r v = some o) (hE : aE qW E ρ) (hH : aH qW qG ρ m h) (hr : ρ[r]? = some ((2 : Nat) : Int)) (hv : av ρ v w) (hw : rd h' 2 4 = some w) (hF : qv h' = qud (qv h) 2 4 (qi h' 2 4)) : aUout qW qG ρ h h' o := by
  unfold qUk at hU
  split at hU
  · next k0 hk0 =>
    split at hU
    · next gs hgs =>
      cases hb : (aveq v (apls k0 1) && avb E v 0 64) with
      | false =>
        rw [hb] at hU
        cases hU
        exact qk8 hE hr hF
      | true =>
        rw [hb] at hU
        rw [Bool.and_eq_true] at hb
        obtain ⟨b1, b2⟩ := hb
        obtain ⟨x, rfl, x1, x2⟩ := avb_ok hE b2 hv
        rw [aveq_ok b1] at hv
        obtain ⟨y, y1, y2, y3⟩ := apls_inv hv
        obtain ⟨w0, w1, w2, w3⟩ := qamg_r (k := 4) hE hH (by decide) hr (qr24 h) (by decide) hk0
        have e4 := w3 y (y3 _ w2)
        have e5 := qi_up y1 x1
        have e6 : qi h' 2 4 = x.toInt := qi_int hw
        have hg := qamg_g (k := 8) hE hH (by decide) hr (qg8 _) hgs
        have c : qgc (qud (qv h) 2 4 (qi h' 2 4)) = qgc (qv h) := qgc_c (by simp [qud]) (fun i hi => by simp [qud])
        have hle := qgc_le (qv h)
        have hb2 := qv_b h 2 2
        obtain ⟨A, a1, a2, a3⟩ := qup_ok (g' := qv h 2 4 - (qv h 2 2).toNat + qgc (qv h) + 1) hE hg rfl (by omega) (by omega)
        have hU : (match qup E gs with
          | some A => some (some (A.1, [((r, 0, 8), A.2)], []))
          | none => some none) = some o := hU
        rw [a1] at hU
        cases hU
        refine qmk ρ aext.rf a2 (qallc (qo1 (k := 8) a2 (by decide +kernel) (by decide) hr (qg8 _) ?_) qall0) qall0 (fun a j q1 _ => ?_)
        · rw [hF, c]
          have e7 : qud (qv h) 2 4 (qi h' 2 4) 2 4 - ((qud (qv h) 2 4 (qi h' 2 4) 2 2).toNat : Int) + (qgc (qv h) : Int) = qv h 2 4 - (qv h 2 2).toNat + qgc (qv h) + 1 := by
            rw [qud_same, qud_k (by decide)]
            omega
          rw [e7]
          exact a3
        · rw [hF]
          exact qd24 a j (qnd (kk := 8) a2 (by decide) hr (q1 _ List.mem_cons_self))
    · cases hU
      exact qk8 hE hr hF
  · cases hU
    exact qk8 hE hr hF
/-! A sign, or none. -/
theorem qsg_ok {W : aW} {E : List aY} {ρ : List Int} {t : aV} {b : Bool} {w : Value} (hE : aE W E ρ) (h : qsg E t = some b) (hv : av ρ t w) : ∃ x : Int32, w = .int x ∧ qns x.toInt = !b := by
  unfold qsg at h
  cases h1 : (avb E t 10 19 || avb E t 44 46) with
  | true =>
    rw [h1] at h
    cases h
    rw [Bool.or_eq_true] at h1
    rcases h1 with h1 | h1
    · obtain ⟨x, rfl, x1, x2⟩ := avb_ok hE h1 hv
      refine ⟨x, rfl, ?_⟩
      unfold qns
      rw [ile_iff.mpr x1, ile_iff.mpr x2]
      rfl
    · obtain ⟨x, rfl, x1, x2⟩ := avb_ok hE h1 hv
      refine ⟨x, rfl, ?_⟩
      unfold qns
      rw [ile_iff.mpr x1, ile_iff.mpr x2]
      simp
  | false =>
    rw [h1] at h
    cases h2 : (avb E t (-2147483648) 9 || (avb E t 20 43 || avb E t 47 2147483647)) with
    | false => rw [h2] at h; cases h
    | true =>
      rw [h2] at h
      cases h
      have no : ∀ {x : Int32}, (x.toInt < 10 ∨ 19 < x.toInt) → (x.toInt < 44 ∨ 46 < x.toInt) → qns x.toInt = true := fun {x} q1 q2 => by
        unfold qns
        have n1 : (ile 10 x.toInt && ile x.toInt 19) = false := by
          cases hb : (ile 10 x.toInt && ile x.toInt 19) with
          | false => rfl
          | true =>
            rw [Bool.and_eq_true] at hb
            have := ile_iff.mp hb.1
            have := ile_iff.mp hb.2
            omega
        have n2 : (ile 44 x.toInt && ile x.toInt 46) = false := by
          cases hb : (ile 44 x.toInt && ile x.toInt 46) with
          | false => rfl
          | true =>
            rw [Bool.and_eq_true] at hb
            have := ile_iff.mp hb.1
            have := ile_iff.mp hb.2
            omega
        rw [n1, n2]
        rfl
      rw [Bool.or_eq_true, Bool.or_eq_true] at h2
      rcases h2 with h2 | h2 | h2
      · obtain ⟨x, rfl, x1, x2⟩ := avb_ok hE h2 hv
        exact ⟨x, rfl, no (by omega) (by omega)⟩
      · obtain ⟨x, rfl, x1, x2⟩ := avb_ok hE h2 hv
        exact ⟨x, rfl, no (by omega) (by omega)⟩
      · obtain ⟨x, rfl, x1, x2⟩ := avb_ok hE h2 hv
        exact ⟨x, rfl, no (by omega) (by omega)⟩
theorem qgc_s {F F' : qF} {j : Nat} (h1 : F 2 2 = (j : Int)) (h2 : F' 2 2 = (j : Int) + 1) (h6 : ∀ i : Nat, F' 6 i = F 6 i) : qgc F' = qgc F + (bif qns (F 6 j) then 1 else 0) := by
  unfold qgc
  have e1 : (F 2 2).toNat = j := by omega
  have e2 : (F' 2 2).toNat = j + 1 := by omega
  have e3 : (fun i => qns (F' 6 i)) = fun i => qns (F 6 i) := funext (fun i => by rw [h6])
  rw [e1, e2, e3, List.range_succ, List.countP_append, List.countP_singleton]
  cases qns (F 6 j) <;> rfl
