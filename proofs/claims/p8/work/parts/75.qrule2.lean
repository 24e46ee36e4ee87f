/-! The Reader: how much waits. -/
theorem qUpush_ok {E : List aY} {m : aM} {r : Nat} {w : Nat × Int} {gc gs gw : aV} {o : Option (List aY × aM × List aK)} {ρ : List Int} {h h' : zH} {x : Int32} (hU : qUpush E m r w gc gs gw = some o) (hE : aE qW E ρ) (hH : aH qW qG ρ m h) (hr : ρ[r]? = some ((2 : Nat) : Int)) (h2 : amg m (r, 0, 2) = some (.inl w)) (h7 : amg m (r, 0, 7) = some gc) (h8 : amg m (r, 0, 8) = some gs) (h9 : amg m (r, 0, 9) = some gw) (hv : ai ρ w.1 (w.2 + 1) x) (hw : rd h' 2 2 = some (.int x)) (hF : qv h' = qud (qv h) 2 2 (qi h' 2 2)) : aUout qW qG ρ h h' o := by
  obtain ⟨w0, w1, w2, w3⟩ := qamg_r (k := 2) hE hH (by decide) hr (qr22 h) (by decide) h2
  obtain ⟨y, y1, rfl⟩ := w2
  have e22 := w3 y rfl
  have g7 := qamg_g (k := 7) hE hH (by decide) hr (qg7 _) h7
  have g8 := qamg_g (k := 8) hE hH (by decide) hr (qg8 _) h8
  have g9 := qamg_g (k := 9) hE hH (by decide) hr (qg9 _) h9
  have hxy : x = y + Int32.ofInt 1 := hv.inj y1.add
  unfold qUpush at hU
  split at hU
  · cases hU
  · next t ht =>
    obtain ⟨j, wt, x', x1, x2, x3, x4, x5⟩ := qamf (so := 6) hE hH (fun a => qun6) (by decide) ht
    have e := x1.inj y1
    subst e
    have hj : j < 72 := x3
    rw [qrdx (qG_off (by decide) (by decide))] at x4
    have hx : x.toInt = x'.toInt + 1 := qi_add hxy (by omega) (by omega)
    have ez : qi h' 2 2 = (j : Int) + 1 := by rw [qi_int hw, hx, x2]
    have e22j : qv h 2 2 = (j : Int) := by rw [e22, x2]
    have f22 : qv h' 2 2 = (j : Int) + 1 := by rw [hF, qud_same, ez]
    have f24 : qv h' 2 4 = qv h 2 4 := by rw [hF, qud_k (by decide)]
    have hc := qgc_s (F := qv h) (F' := qv h') e22j f22 (fun i => by rw [hF, qud_a (by decide)])
    obtain ⟨B, b1, b2, b3⟩ := qgw_ok (g' := 72 - qv h' 2 2) (d := -1) hE g9 (by rw [f22, e22j]; omega) (by rw [f22]; omega) (by rw [f22]; omega)
    rw [b1] at hU
    have hU : (match qsg B.1 t with
      | some true => some (some (B.1, [((r, 0, 7), gc), ((r, 0, 8), apls gs (-1)), ((r, 0, 9), B.2)], []))
      | some false => some (some (B.1, [((r, 0, 7), apls gc 1), ((r, 0, 8), gs), ((r, 0, 9), B.2)], []))
      | none => none) = some o := hU
    have ho : ∀ (a k : Nat), ¬ aden ρ (r, 0, 7) a k → ¬ aden ρ (r, 0, 8) a k → ¬ aden ρ (r, 0, 9) a k → qgF (qv h') a k = qgF (qv h) a k := fun a k q1 q2 q3 => by
      rw [hF]
      exact qd22 a k (qnd (kk := 7) hE (by decide) hr q1) (qnd (kk := 8) hE (by decide) hr q2) (qnd (kk := 9) hE (by decide) hr q3)
    have hn : ∀ tx : Int32, wt = .int tx → qv h 6 j = tx.toInt := fun tx e => by
      subst e
      rw [qv_on (by unfold qpr; simp [Nat.ble_eq]; omega), qi_int x4]
    split at hU
    · next hs =>
      cases hU
      obtain ⟨tx, t1, t2⟩ := qsg_ok b2 hs x5
      rw [hn tx t1, t2] at hc
      have hc : qgc (qv h') = qgc (qv h) + 0 := hc
      refine qmk ρ aext.rf b2 (qallc (qo1 (k := 7) b2 (by decide +kernel) (by decide) hr (qg7 _) ?_) (qallc (qo1 (k := 8) b2 (by decide +kernel) (by decide) hr (qg8 _) ?_) (qallc (qo1 (k := 9) b2 (by decide +kernel) (by decide) hr (qg9 _) b3) qall0))) qall0 (fun a k q1 _ => ho a k (q1 _ (List.Mem.head _)) (q1 _ (List.Mem.tail _ (List.Mem.head _))) (q1 _ (List.Mem.tail _ (List.Mem.tail _ (List.Mem.head _)))))
      · rw [hc]
        exact g7
      · exact apls_g (-1) g8 (by rw [hc, f22, f24, e22j]; omega)
    · next hs =>
      cases hU
      obtain ⟨tx, t1, t2⟩ := qsg_ok b2 hs x5
      rw [hn tx t1, t2] at hc
      have hc : qgc (qv h') = qgc (qv h) + 1 := hc
      refine qmk ρ aext.rf b2 (qallc (qo1 (k := 7) b2 (by decide +kernel) (by decide) hr (qg7 _) ?_) (qallc (qo1 (k := 8) b2 (by decide +kernel) (by decide) hr (qg8 _) ?_) (qallc (qo1 (k := 9) b2 (by decide +kernel) (by decide) hr (qg9 _) b3) qall0))) qall0 (fun a k q1 _ => ho a k (q1 _ (List.Mem.head _)) (q1 _ (List.Mem.tail _ (List.Mem.head _))) (q1 _ (List.Mem.tail _ (List.Mem.tail _ (List.Mem.head _)))))
      · exact apls_g 1 g7 (by rw [hc]; omega)
      · have e : qv h' 2 4 - ((qv h' 2 2).toNat : Int) + (qgc (qv h') : Int) = qv h 2 4 - (qv h 2 2).toNat + qgc (qv h) := by rw [hc, f22, f24, e22j]; omega
        rw [e]
        exact g8
    · cases hU
theorem qUpop_ok {E : List aY} {m : aM} {r : Nat} {w : Nat × Int} {gc gs gw : aV} {o : Option (List aY × aM × List aK)} {ρ : List Int} {h h' : zH} {x : Int32} (hU : qUpop E m r w gc gs gw = some o) (hE : aE qW E ρ) (hH : aH qW qG ρ m h) (hr : ρ[r]? = some ((2 : Nat) : Int)) (h2 : amg m (r, 0, 2) = some (.inl w)) (h7 : amg m (r, 0, 7) = some gc) (h8 : amg m (r, 0, 8) = some gs) (h9 : amg m (r, 0, 9) = some gw) (hv : ai ρ w.1 (w.2 + -1) x) (hw : rd h' 2 2 = some (.int x)) (hF : qv h' = qud (qv h) 2 2 (qi h' 2 2)) : aUout qW qG ρ h h' o := by
  obtain ⟨w0, w1, w2, w3⟩ := qamg_r (k := 2) hE hH (by decide) hr (qr22 h) (by decide) h2
  obtain ⟨y, y1, rfl⟩ := w2
  have e22 := w3 y rfl
  have g7 := qamg_g (k := 7) hE hH (by decide) hr (qg7 _) h7
  have g8 := qamg_g (k := 8) hE hH (by decide) hr (qg8 _) h8
  have g9 := qamg_g (k := 9) hE hH (by decide) hr (qg9 _) h9
  have hxy : x = y + Int32.ofInt (-1) := hv.inj y1.add
  have hyx : y = x + Int32.ofInt 1 := by
    have e1 : x = Int32.ofInt (y.toInt + -1) := by rw [hxy, Int32.ofInt_add, Int32.ofInt_toInt]
    rw [e1, ← Int32.ofInt_add, show y.toInt + -1 + 1 = y.toInt by omega, Int32.ofInt_toInt]
  unfold qUpop at hU
  cases hb : ((avb E (.inl w) (-2147483648) 0 || avb E gw 72 2147483647) && avb E gc 1 2147483647) with
  | true =>
    exfalso
    rw [Bool.and_eq_true, Bool.or_eq_true] at hb
    obtain ⟨b1, b2⟩ := hb
    have q2 := avb_i hE b2 g7
    have hle := qgc_le (qv h)
    have hy := ab y
    have n0 : qv h 2 2 ≤ 0 := by
      rcases b1 with b1 | b1
      · have := avb_i hE b1 (show av ρ (.inl w) (.int y) from ⟨y, y1, rfl⟩)
        omega
      · have q := avb_i hE b1 g9
        by_cases q0 : qv h 2 2 ≤ 0
        · exact q0
        · rw [ai32 (by omega) (by omega)] at q
          omega
    have c0 : qgc (qv h) = 0 := by omega
    rw [c0] at q2
    exact absurd q2.1 (by decide)
  | false =>
    rw [hb] at hU
    have hU : (match amf E 6 w.1 (w.2 + -1) m with
      | none => none
      | some t => match qgw E gw 1 with
        | none => some none
        | some B => match qsg B.1 t with
          | some true => bif avb' B.1 (amg m (r, 0, 4)) 0 64 then (match qup B.1 gs with
            | some A => some (some (A.1, [((r, 0, 7), gc), ((r, 0, 8), A.2), ((r, 0, 9), B.2)], []))
            | none => some none) else none
          | some false => some (some (B.1, [((r, 0, 7), apls gc (-1)), ((r, 0, 8), gs), ((r, 0, 9), B.2)], []))
          | none => none) = some o := hU
    split at hU
    · cases hU
    · next t ht =>
      obtain ⟨j, wt, x', x1, x2, x3, x4, x5⟩ := qamf (so := 6) hE hH (fun a => qun6) (by decide) ht
      have e := x1.inj hv
      subst e
      have hj : j < 72 := x3
      rw [qrdx (qG_off (by decide) (by decide))] at x4
      have hx : y.toInt = x'.toInt + 1 := qi_add hyx (by omega) (by omega)
      have f22 : qv h' 2 2 = (j : Int) := by rw [hF, qud_same, qi_int hw, x2]
      have e22j : qv h 2 2 = (j : Int) + 1 := by rw [e22, hx, x2]
      have f24 : qv h' 2 4 = qv h 2 4 := by rw [hF, qud_k (by decide)]
      have f6 : ∀ i : Nat, qv h 6 i = qv h' 6 i := fun i => by rw [hF, qud_a (by decide)]
      have hc := qgc_s (F := qv h') (F' := qv h) f22 e22j f6
      rw [← f6 j] at hc
      obtain ⟨B, b1, b2, b3⟩ := qgw_ok (g' := 72 - qv h' 2 2) (d := 1) hE g9 (by rw [f22, e22j]; omega) (by rw [f22]; omega) (by rw [f22]; omega)
      rw [b1] at hU
      have hU : (match qsg B.1 t with
        | some true => bif avb' B.1 (amg m (r, 0, 4)) 0 64 then (match qup B.1 gs with
          | some A => some (some (A.1, [((r, 0, 7), gc), ((r, 0, 8), A.2), ((r, 0, 9), B.2)], []))
          | none => some none) else none
        | some false => some (some (B.1, [((r, 0, 7), apls gc (-1)), ((r, 0, 8), gs), ((r, 0, 9), B.2)], []))
        | none => none) = some o := hU
      have ho : ∀ (a k : Nat), ¬ aden ρ (r, 0, 7) a k → ¬ aden ρ (r, 0, 8) a k → ¬ aden ρ (r, 0, 9) a k → qgF (qv h') a k = qgF (qv h) a k := fun a k q1 q2 q3 => by
        rw [hF]
        exact qd22 a k (qnd (kk := 7) hE (by decide) hr q1) (qnd (kk := 8) hE (by decide) hr q2) (qnd (kk := 9) hE (by decide) hr q3)
      have hn : ∀ tx : Int32, wt = .int tx → qv h 6 j = tx.toInt := fun tx e => by
        subst e
        rw [qv_on (by unfold qpr; simp [Nat.ble_eq]; omega), qi_int x4]
      split at hU
      · next hs =>
        obtain ⟨tx, t1, t2⟩ := qsg_ok b2 hs x5
        rw [hn tx t1, t2] at hc
        have hc : qgc (qv h) = qgc (qv h') + 0 := hc
        cases hb4 : avb' B.1 (amg m (r, 0, 4)) 0 64 with
        | false => rw [hb4] at hU; cases hU
        | true =>
          rw [hb4] at hU
          unfold avb' at hb4
          split at hb4
          · next k0 hk0 =>
            obtain ⟨w0, p1, p2, p3⟩ := qamg_r (k := 4) hE hH (by decide) hr (qr24 h) (by decide) hk0
            obtain ⟨kx, rfl, k1, k2⟩ := avb_ok b2 hb4 p2
            have e24 := p3 kx rfl
            have hle := qgc_le (qv h')
            rw [f22] at hle
            obtain ⟨A, a1, a2, a3⟩ := qup_ok (g' := qv h' 2 4 - (qv h' 2 2).toNat + qgc (qv h')) b2 g8 (by rw [hc, f22, f24, e22j]; omega) (by rw [f22, f24]; omega) (by rw [f22, f24]; omega)
            have hU : (match qup B.1 gs with
              | some A => some (some (A.1, [((r, 0, 7), gc), ((r, 0, 8), A.2), ((r, 0, 9), B.2)], []))
              | none => some none) = some o := hU
            rw [a1] at hU
            cases hU
            refine qmk ρ aext.rf a2 (qallc (qo1 (k := 7) a2 (by decide +kernel) (by decide) hr (qg7 _) ?_) (qallc (qo1 (k := 8) a2 (by decide +kernel) (by decide) hr (qg8 _) a3) (qallc (qo1 (k := 9) a2 (by decide +kernel) (by decide) hr (qg9 _) b3) qall0))) qall0 (fun a k q1 _ => ho a k (q1 _ (List.Mem.head _)) (q1 _ (List.Mem.tail _ (List.Mem.head _))) (q1 _ (List.Mem.tail _ (List.Mem.tail _ (List.Mem.head _)))))
            have hc' : qgc (qv h') = qgc (qv h) := by omega
            rw [hc']
            exact g7
          · cases hb4
      · next hs =>
        cases hU
        obtain ⟨tx, t1, t2⟩ := qsg_ok b2 hs x5
        rw [hn tx t1, t2] at hc
        have hc : qgc (qv h) = qgc (qv h') + 1 := hc
        refine qmk ρ aext.rf b2 (qallc (qo1 (k := 7) b2 (by decide +kernel) (by decide) hr (qg7 _) ?_) (qallc (qo1 (k := 8) b2 (by decide +kernel) (by decide) hr (qg8 _) ?_) (qallc (qo1 (k := 9) b2 (by decide +kernel) (by decide) hr (qg9 _) b3) qall0))) qall0 (fun a k q1 _ => ho a k (q1 _ (List.Mem.head _)) (q1 _ (List.Mem.tail _ (List.Mem.head _))) (q1 _ (List.Mem.tail _ (List.Mem.tail _ (List.Mem.head _)))))
        · exact apls_g (-1) g7 (by rw [hc]; omega)
        · have e : qv h' 2 4 - ((qv h' 2 2).toNat : Int) + (qgc (qv h') : Int) = qv h 2 4 - (qv h 2 2).toNat + qgc (qv h) := by rw [hc, f22, f24, e22j]; omega
          rw [e]
          exact g8
      · cases hU
theorem qUs_ok {E : List aY} {m : aM} {r : Nat} {v : aV} {o : Option (List aY × aM × List aK)} {ρ : List Int} {h h' : zH} {w : Value} (hU : qUs E m r v = some o) (hE : aE qW E ρ) (hH : aH qW qG ρ m h) (hr : ρ[r]? = some ((2 : Nat) : Int)) (hv : av ρ v w) (hw : rd h' 2 2 = some w) (hF : qv h' = qud (qv h) 2 2 (qi h' 2 2)) : aUout qW qG ρ h h' o := by
  unfold qUs at hU
  cases hb : aveq v (.inl (0, 0)) with
  | true =>
    rw [hb] at hU
    rw [aveq_ok hb] at hv
    obtain ⟨x, x1, rfl⟩ := hv
    have hx : x.toInt = 0 := qidx (k := 0) hE (by decide) x1
    have f22 : qv h' 2 2 = 0 := by rw [hF, qud_same, qi_int hw, hx]
    have f24 : qv h' 2 4 = qv h 2 4 := by rw [hF, qud_k (by decide)]
    have c0 : qgc (qv h') = 0 := by
      have := qgc_le (qv h')
      rw [f22] at this
      exact Nat.le_zero.mp this
    have ho : ∀ (a k : Nat), ¬ aden ρ (r, 0, 7) a k → ¬ aden ρ (r, 0, 8) a k → ¬ aden ρ (r, 0, 9) a k → qgF (qv h') a k = qgF (qv h) a k := fun a k q1 q2 q3 => by
      rw [hF]
      exact qd22 a k (qnd (kk := 7) hE (by decide) hr q1) (qnd (kk := 8) hE (by decide) hr q2) (qnd (kk := 9) hE (by decide) hr q3)
    have a7 : av ρ (.inl (0, 0)) (.int (Int32.ofInt (qgc (qv h')))) := by
      rw [c0]
      exact ⟨_, ai_c hE 0, rfl⟩
    have a9 : av ρ (.inl (0, 72)) (.int (Int32.ofInt (72 - qv h' 2 2))) := by
      rw [f22]
      exact ⟨_, ai_c hE 72, rfl⟩
    have hU : (match amg m (r, 0, 4) with
      | some (.inl k) => some (some (E, [((r, 0, 7), .inl (0, 0)), ((r, 0, 8), .inl k), ((r, 0, 9), .inl (0, 72))], []))
      | _ => some (some (E, [((r, 0, 7), .inl (0, 0)), ((r, 0, 9), .inl (0, 72))], [(r, 0, 8)]))) = some o := hU
    split at hU
    · next k0 hk0 =>
      cases hU
      obtain ⟨w0, p1, p2, p3⟩ := qamg_r (k := 4) hE hH (by decide) hr (qr24 h) (by decide) hk0
      obtain ⟨kx, k1, rfl⟩ := p2
      have e24 := p3 kx rfl
      refine qmk ρ aext.rf hE (qallc (qo1 (k := 7) hE (by decide +kernel) (by decide) hr (qg7 _) a7) (qallc (qo1 (k := 8) hE (by decide +kernel) (by decide) hr (qg8 _) ?_) (qallc (qo1 (k := 9) hE (by decide +kernel) (by decide) hr (qg9 _) a9) qall0))) qall0 (fun a k q1 _ => ho a k (q1 _ (List.Mem.head _)) (q1 _ (List.Mem.tail _ (List.Mem.head _))) (q1 _ (List.Mem.tail _ (List.Mem.tail _ (List.Mem.head _)))))
      have e : qv h' 2 4 - ((qv h' 2 2).toNat : Int) + (qgc (qv h') : Int) = kx.toInt := by rw [c0, f22, f24, e24]; simp
      rw [e, Int32.ofInt_toInt]
      exact ⟨kx, k1, rfl⟩
    · cases hU
      exact qmk ρ aext.rf hE (qallc (qo1 (k := 7) hE (by decide +kernel) (by decide) hr (qg7 _) a7) (qallc (qo1 (k := 9) hE (by decide +kernel) (by decide) hr (qg9 _) a9) qall0)) (qallc (qo2 (k := 8) hE (by decide +kernel) (by decide) hr (qg8 _) (by decide +kernel)) qall0) (fun a k q1 q2 => ho a k (q1 _ (List.Mem.head _)) (q2 _ (List.Mem.head _)) (q1 _ (List.Mem.tail _ (List.Mem.head _))))
  | false =>
    rw [hb] at hU
    have hU : (match amg m (r, 0, 2), amg m (r, 0, 7), amg m (r, 0, 8), amg m (r, 0, 9) with
      | some (.inl w), some gc, some gs, some gw => bif aveq v (.inl (w.1, w.2 + 1)) then qUpush E m r w gc gs gw else (bif aveq v (.inl (w.1, w.2 + -1)) then qUpop E m r w gc gs gw else none)
      | _, _, _, _ => none) = some o := hU
    split at hU
    · next w0 gc gs gw h2 h7 h8 h9 =>
      cases hb1 : aveq v (.inl (w0.1, w0.2 + 1)) with
      | true =>
        rw [hb1] at hU
        rw [aveq_ok hb1] at hv
        obtain ⟨x, x1, rfl⟩ := hv
        exact qUpush_ok hU hE hH hr h2 h7 h8 h9 x1 hw hF
      | false =>
        rw [hb1] at hU
        cases hb2 : aveq v (.inl (w0.1, w0.2 + -1)) with
        | true =>
          rw [hb2] at hU
          rw [aveq_ok hb2] at hv
          obtain ⟨x, x1, rfl⟩ := hv
          exact qUpop_ok hU hE hH hr h2 h7 h8 h9 x1 hw hF
        | false =>
          rw [hb2] at hU
          cases hU
    · cases hU
