/-! The rules of the reference are right: how many knots are counted, how many are laid. -/
theorem qi_sub {x y : Int32} {d : Int} (e : x = y + Int32.ofInt d) : y = x + Int32.ofInt (-d) := by
  have e1 : x = Int32.ofInt (y.toInt + d) := by rw [e, Int32.ofInt_add, Int32.ofInt_toInt]
  rw [e1, ← Int32.ofInt_add, show y.toInt + d + -d = y.toInt by omega, Int32.ofInt_toInt]
theorem qamf_c {E : List aY} {ρ : List Int} {m : aM} {h : zH} {so c0 k0 : Nat} {v : aV} (hE : aE qW E ρ) (hH : aH qW qG ρ m h) (hu : ∀ a : Nat, a < qW.1.length → (asrt qW a : Int) = (so : Int) → a = c0) (h128 : ¬ c0 = 128) (h2 : ¬ c0 = 2) (hk : k0 < 1000) (hp : qpr c0 k0 = true) (hs : amf E (so : Int) 0 (k0 : Int) m = some v) : ∃ w : Value, rd h c0 k0 = some w ∧ av ρ v w ∧ ∀ x : Int32, w = .int x → qv h c0 k0 = x.toInt := by
  obtain ⟨j, w, x, x1, x2, -, g4, g5⟩ := qamf hE hH hu h128 hs
  have hj : j = k0 := by have := qidx hE hk x1; omega
  subst hj
  rw [qrdx (qG_off h2 h128)] at g4
  exact ⟨w, g4, g5, fun y e => by subst e; rw [qv_on hp, qi_int g4]⟩
theorem qz0 {E : List aY} {ρ : List Int} {m : aM} {h : zH} {so c0 k0 : Nat} {l u : Int} (hE : aE qW E ρ) (hH : aH qW qG ρ m h) (hu : ∀ a : Nat, a < qW.1.length → (asrt qW a : Int) = (so : Int) → a = c0) (h128 : ¬ c0 = 128) (h2 : ¬ c0 = 2) (hk : k0 < 1000) (hp : qpr c0 k0 = true) (hb : avb' E (amf E (so : Int) 0 (k0 : Int) m) l u = true) : l ≤ qv h c0 k0 ∧ qv h c0 k0 ≤ u := by
  unfold avb' at hb
  split at hb
  · next v hv =>
    obtain ⟨w, h1, h2', h3⟩ := qamf_c hE hH hu h128 h2 hk hp hv
    obtain ⟨x, rfl, x1, x2⟩ := avb_ok hE hb h2'
    rw [h3 x rfl]
    exact ⟨x1, x2⟩
  · cases hb
theorem qk74 {E : List aY} {ρ : List Int} {h h' : zH} {r : Nat} {z : Int} (hE : aE qW E ρ) (hr : ρ[r]? = some ((128 : Nat) : Int)) (hF : qv h' = qud (qv h) 128 33 z) : aUout qW qG ρ h h' (some (E, [], [(r, 0, 74)])) := by
  refine qmk ρ aext.rf hE qall0 (qallc (qo2 (k := 74) hE (by decide +kernel) (by decide) hr (qg74 _) (by decide +kernel)) qall0) (fun a j _ q2 => ?_)
  rw [hF]
  exact qd33 a j (qnd (kk := 74) hE (by decide) hr (q2 _ List.mem_cons_self))
theorem qUco_ok {E : List aY} {m : aM} {r : Nat} {v : aV} {o : Option (List aY × aM × List aK)} {ρ : List Int} {h h' : zH} {w : Value} (hU : qUco E m r v = some o) (hE : aE qW E ρ) (hH : aH qW qG ρ m h) (hr : ρ[r]? = some ((128 : Nat) : Int)) (hv : av ρ v w) (hw : rd h' 128 33 = some w) (hF : qv h' = qud (qv h) 128 33 (qi h' 128 33)) : aUout qW qG ρ h h' o := by
  unfold qUco at hU
  cases hb : (avb E v 0 0 && (avb' E (amf E 51 0 17 m) 0 0 && ((qz E m 65 3 && (qz E m 65 4 && qz E m 65 5)) && (qz E m 66 3 && (qz E m 66 4 && qz E m 66 5))))) with
  | true =>
    rw [hb] at hU
    cases hU
    simp only [Bool.and_eq_true] at hb
    obtain ⟨b0, bN, ⟨s3, s4, s5⟩, t3, t4, t5⟩ := hb
    obtain ⟨x, rfl, x1, x2⟩ := avb_ok hE b0 hv
    have z0 : qi h' 128 33 = 0 := by rw [qi_int hw]; omega
    have f33 : qv h' 128 33 = 0 := by rw [hF, qud_same, z0]
    have n0 := qz0 (so := 51) (k0 := 17) hE hH (fun a => qun51) (by decide) (by decide) (by decide) (by decide) bN
    have a3 := qz0 (so := 65) (k0 := 3) hE hH (fun a => qun65) (by decide) (by decide) (by decide) (by decide) s3
    have a4 := qz0 (so := 65) (k0 := 4) hE hH (fun a => qun65) (by decide) (by decide) (by decide) (by decide) s4
    have a5 := qz0 (so := 65) (k0 := 5) hE hH (fun a => qun65) (by decide) (by decide) (by decide) (by decide) s5
    have c3 := qz0 (so := 66) (k0 := 3) hE hH (fun a => qun66) (by decide) (by decide) (by decide) (by decide) t3
    have c4 := qz0 (so := 66) (k0 := 4) hE hH (fun a => qun66) (by decide) (by decide) (by decide) (by decide) t4
    have c5 := qz0 (so := 66) (k0 := 5) hE hH (fun a => qun66) (by decide) (by decide) (by decide) (by decide) t5
    have fo : ∀ b j : Nat, ¬ b = 128 → qv h' b j = qv h b j := fun b j hb => by rw [hF, qud_a hb]
    have m0 : qv h' 130 17 = 0 := by rw [fo _ _ (by decide)]; omega
    have e3 : qv h' 144 3 = 0 := by rw [fo _ _ (by decide)]; omega
    have e4 : qv h' 144 4 = 0 := by rw [fo _ _ (by decide)]; omega
    have e5 : qv h' 144 5 = 0 := by rw [fo _ _ (by decide)]; omega
    have g3 : qv h' 145 3 = 0 := by rw [fo _ _ (by decide)]; omega
    have g4 : qv h' 145 4 = 0 := by rw [fo _ _ (by decide)]; omega
    have g5 : qv h' 145 5 = 0 := by rw [fo _ _ (by decide)]; omega
    have hb0 : qba (qv h') = 0 := by unfold qba; rw [e3, e4, e5]; decide
    have hh0 : qhb (qv h') = 0 := by unfold qhb; rw [hb0, m0]; rfl
    have hp2 : qp2 (qv h') := by
      unfold qp2
      rw [m0, e3, e4, e5, g3, g4, g5]
      have q : qlw (qv h') 64 0 0 0 := ⟨by decide, by decide, by decide, fun q => by omega⟩
      exact ⟨by decide, q, q, q⟩
    refine qmk ρ aext.rf hE (qallc (qo1 (k := 74) hE (by decide +kernel) (by decide) hr (qg74 _) ?_) (qallc (qo1 (k := 75) hE (by decide +kernel) (by decide) hr (qg75 _) ?_) (qallc (qo1 (k := 76) hE (by decide +kernel) (by decide) hr (qg76 _) ?_) (qallc (qo1 (k := 77) hE (by decide +kernel) (by decide) hr (qg77 _) ?_) qall0)))) qall0 (fun a j q1 _ => ?_)
    · rw [f33, m0]
      exact ⟨_, ai_c hE 0, rfl⟩
    · rw [hh0]
      exact ⟨_, ai_c hE 0, rfl⟩
    · rw [hb0]
      exact ⟨_, ai_c hE 0, rfl⟩
    · rw [qbo_t hp2]
      exact ⟨_, ai_c hE 1, rfl⟩
    · rw [hF]
      exact qd33 a j (qnd (kk := 74) hE (by decide) hr (q1 _ List.mem_cons_self))
  | false =>
    rw [hb] at hU
    have hU : (match amg m (r, 0, 33), amg m (r, 0, 74) with
      | some c, some d => bif aveq v (apls c 1) && avb E v 0 64 then (match qup E d with
        | some A => some (some (A.1, [((r, 0, 74), A.2)], []))
        | none => some none) else some (some (E, [], [(r, 0, 74)]))
      | _, _ => some (some (E, [], [(r, 0, 74)]))) = some o := hU
    split at hU
    · next c d hc hd =>
      cases hb2 : (aveq v (apls c 1) && avb E v 0 64) with
      | false =>
        rw [hb2] at hU
        cases hU
        exact qk74 hE hr hF
      | true =>
        rw [hb2] at hU
        rw [Bool.and_eq_true] at hb2
        obtain ⟨b1, b2⟩ := hb2
        obtain ⟨x, rfl, x1, x2⟩ := avb_ok hE b2 hv
        rw [aveq_ok b1] at hv
        obtain ⟨y, y1, y2, y3⟩ := apls_inv hv
        obtain ⟨w0, w1, w2, w3⟩ := qamg_r (k := 33) hE hH (by decide) hr (qr33 h) (by decide) hc
        have e4 := w3 y (y3 _ w2)
        have e5 := qi_up y1 x1
        have f33 : qv h' 128 33 = qv h 128 33 + 1 := by rw [hF, qud_same, qi_int hw, e5, e4]
        have f17 : qv h' 130 17 = qv h 130 17 := by rw [hF, qud_a (by decide)]
        have hg := qamg_g (k := 74) hE hH (by decide) hr (qg74 _) hd
        have hb2 := qv_b h 130 17
        obtain ⟨A, a1, a2, a3⟩ := qup_ok (g' := qv h' 128 33 - (qv h' 130 17).toNat) hE hg (by rw [f33, f17]; omega) (by rw [f33, f17]; omega) (by rw [f33, f17]; omega)
        have hU : (match qup E d with
          | some A => some (some (A.1, [((r, 0, 74), A.2)], []))
          | none => some none) = some o := hU
        rw [a1] at hU
        cases hU
        refine qmk ρ aext.rf a2 (qallc (qo1 (k := 74) a2 (by decide +kernel) (by decide) hr (qg74 _) a3) qall0) qall0 (fun a j q1 _ => ?_)
        rw [hF]
        exact qd33 a j (qnd (kk := 74) a2 (by decide) hr (q1 _ List.mem_cons_self))
    · cases hU
      exact qk74 hE hr hF
theorem qhn_le {F : qF} {o b : Nat} : ∀ (n H : Nat), qhn F o b n = some H → H ≤ n
  | 0, H, h => by
    cases h
    exact Nat.le_refl _
  | n + 1, H, h => by
    unfold qhn at h
    split at h
    · next H0 h0 =>
      have ih := qhn_le n H0 h0
      unfold qst at h
      cases h1 : ieq (F 146 (o + (b + n))) 0 with
      | true => rw [h1] at h; cases h; omega
      | false =>
        rw [h1] at h
        cases h2 : ieq (F 146 (o + (b + n))) 1 with
        | true =>
          rw [h2] at h
          cases h3 : (ile 0 (F 147 (o + (b + n))) && ile (F 147 (o + (b + n))) 6) with
          | true => rw [h3] at h; cases h; omega
          | false => rw [h3] at h; cases h
        | false =>
          rw [h2] at h
          cases h3 : ieq (F 146 (o + (b + n))) 2 with
          | false => rw [h3] at h; cases h
          | true =>
            rw [h3] at h
            cases h4 : ieq (F 147 (o + (b + n))) 260 with
            | true =>
              rw [h4] at h
              cases h5 : Nat.ble 1 H0 with
              | true => rw [h5] at h; cases h; omega
              | false => rw [h5] at h; cases h
            | false =>
              rw [h4] at h
              cases h5 : Nat.ble 2 H0 with
              | true => rw [h5] at h; cases h; omega
              | false => rw [h5] at h; cases h
    · cases h
/-- height behind a knot -/
theorem qht_ok {E : List aY} {ρ : List Int} {a b hv : aV} {wa wb : Value} {F1 F2 : Int} {H : Nat} {oA : Option (List aY × aV)} (hq : qht E a b hv = some oA) (hE : aE qW E ρ) (ha : av ρ a wa) (hb : av ρ b wb) (h1 : ∀ x : Int32, wa = .int x → F1 = x.toInt) (h2 : ∀ x : Int32, wb = .int x → F2 = x.toInt) (hh : av ρ hv (.int (Int32.ofInt H))) (hH : H ≤ 63) : ∃ A : List aY × aV, oA = some A ∧ aE qW A.1 ρ ∧ ∃ H' : Nat, qst F1 F2 H = some H' ∧ av ρ A.2 (.int (Int32.ofInt H')) := by
  have e0 : (Int32.ofInt (H : Int)).toInt = H := ai32 (by omega) (by omega)
  have up : ∃ A : List aY × aV, qup E hv = some A ∧ aE qW A.1 ρ ∧ av ρ A.2 (.int (Int32.ofInt ((H + 1 : Nat) : Int))) := qup_ok hE hh (by omega) (by omega) (by omega)
  unfold qht at hq
  cases c0 : avb E hv 0 64 with
  | false => rw [c0] at hq; cases hq
  | true =>
    rw [c0] at hq
    cases c1 : (avb E a 0 0 || (avb E a 1 1 && avb E b 0 6)) with
    | true =>
      rw [c1] at hq
      have hq : some (qup E hv) = some oA := hq
      obtain ⟨A, a1, a2, a3⟩ := up
      rw [a1] at hq
      cases hq
      refine ⟨A, rfl, a2, H + 1, ?_, a3⟩
      rw [Bool.or_eq_true] at c1
      rcases c1 with c1 | c1
      · obtain ⟨x, q, x1, x2⟩ := avb_ok hE c1 ha
        have e1 : F1 = 0 := by rw [h1 x q]; omega
        rw [e1]
        rfl
      · rw [Bool.and_eq_true] at c1
        obtain ⟨x, q, x1, x2⟩ := avb_ok hE c1.1 ha
        obtain ⟨y, q', y1, y2⟩ := avb_ok hE c1.2 hb
        have e1 : F1 = 1 := by rw [h1 x q]; omega
        have e2 := h2 y q'
        rw [e1]
        unfold qst
        rw [e2, ile_iff.mpr y1, ile_iff.mpr y2]
        rfl
    | false =>
      rw [c1] at hq
      cases c2 : (avb E a 2 2 && (avb E b 260 260 && avb E hv 1 64)) with
      | true =>
        rw [c2] at hq
        cases hq
        refine ⟨_, rfl, hE, H, ?_, hh⟩
        rw [Bool.and_eq_true, Bool.and_eq_true] at c2
        obtain ⟨x, q, x1, x2⟩ := avb_ok hE c2.1 ha
        obtain ⟨y, q', y1, y2⟩ := avb_ok hE c2.2.1 hb
        have hl := avb_i hE c2.2.2 hh
        have e1 : F1 = 2 := by rw [h1 x q]; omega
        have e2 : F2 = 260 := by rw [h2 y q']; omega
        rw [e1, e2]
        show (bif Nat.ble 1 H then some H else none) = some H
        rw [Nat.ble_eq.mpr (by omega)]
        rfl
      | false =>
        rw [c2] at hq
        cases c3 : (avb E a 2 2 && ((avb E b (-2147483648) 259 || avb E b 261 2147483647) && avb E hv 2 64)) with
        | false => rw [c3] at hq; cases hq
        | true =>
          rw [c3] at hq
          cases hq
          rw [Bool.and_eq_true, Bool.and_eq_true, Bool.or_eq_true] at c3
          obtain ⟨x, q, x1, x2⟩ := avb_ok hE c3.1 ha
          have hl := avb_i hE c3.2.2 hh
          rw [e0] at hl
          have hl2 : 2 ≤ H := by omega
          have e1 : F1 = 2 := by rw [h1 x q]; omega
          have e2 : ieq F2 260 = false := by
            cases hb : ieq F2 260 with
            | false => rfl
            | true =>
              have := ieq_ok hb
              rcases c3.2.1 with c | c
              · obtain ⟨y, q', y1, y2⟩ := avb_ok hE c (by assumption)
                have := h2 y q'
                omega
              · obtain ⟨y, q', y1, y2⟩ := avb_ok hE c (by assumption)
                have := h2 y q'
                omega
          have e3 : ((H - 1 : Nat) : Int) = (H : Int) + -1 := by clear hl e0; omega
          refine ⟨_, rfl, hE, H - 1, ?_, apls_g (-1) hh e3⟩
          rw [e1]
          show (bif ieq F2 260 then (bif Nat.ble 1 H then some H else none) else (bif Nat.ble 2 H then some (H - 1) else none)) = some (H - 1)
          rw [e2, Nat.ble_eq.mpr hl2]
          rfl
theorem qk17 {E : List aY} {ρ : List Int} {h h' : zH} {r : Nat} {z : Int} (hE : aE qW E ρ) (hr : ρ[r]? = some ((128 : Nat) : Int)) (hF : qv h' = qud (qv h) 130 17 z) : aUout qW qG ρ h h' (some (E, [], [(r, 0, 74), (r, 0, 75), (r, 0, 77)])) := by
  refine qmk ρ aext.rf hE qall0 (qallc (qo2 (k := 74) hE (by decide +kernel) (by decide) hr (qg74 _) (by decide +kernel)) (qallc (qo2 (k := 75) hE (by decide +kernel) (by decide) hr (qg75 _) (by decide +kernel)) (qallc (qo2 (k := 77) hE (by decide +kernel) (by decide) hr (qg77 _) (by decide +kernel)) qall0))) (fun a j _ q2 => ?_)
  rw [hF]
  exact qd17 a j (qnd (kk := 74) hE (by decide) hr (q2 _ (List.Mem.head _))) (qnd (kk := 75) hE (by decide) hr (q2 _ (List.Mem.tail _ (List.Mem.head _)))) (qnd (kk := 77) hE (by decide) hr (q2 _ (List.Mem.tail _ (List.Mem.tail _ (List.Mem.head _)))))
theorem qp2_of {E : List aY} {ρ : List Int} {F : qF} {p : aV} (hE : aE qW E ρ) (h : av ρ p (.int (Int32.ofInt (qbo (qp2 F))))) (hb : avb E p 1 1 = true) : qp2 F := by
  have q := avb_i hE hb h
  have b := qbo_01 (qp2 F)
  rw [ai32 (by omega) (by omega)] at q
  exact qbo_1 (by omega)
/-- what whole laws say of the begin -/
theorem qp2_b {F : qF} (h : qp2 F) : 0 ≤ qba F ∧ qba F ≤ F 130 17 ∧ F 130 17 ≤ 64 := by
  obtain ⟨h0, h1, h2, h3⟩ := h
  have := h1.1
  have := h1.2.1
  have := h2.2.1
  have := h3.2.1
  unfold qba
  omega
theorem qUn_ok {E : List aY} {m : aM} {r : Nat} {v : aV} {o : Option (List aY × aM × List aK)} {ρ : List Int} {h h' : zH} {w : Value} (hU : qUn E m r v = some o) (hE : aE qW E ρ) (hH : aH qW qG ρ m h) (hv : av ρ v w) (hw : rd h' 130 17 = some w) (hF : qv h' = qud (qv h) 130 17 (qi h' 130 17)) : aUout qW qG ρ h h' o := by
  unfold qUn at hU
  split at hU
  · cases hU
  · next q hq =>
    have hr := qmo_ok hE hH m (fun e he => he) hq
    split at hU
    · next n d hh p2 hn hd hhh hp =>
      cases hb : (aveq v (.inl (n.1, n.2 + 1)) && (avb E (.inl n) 0 63 && avb E p2 1 1)) with
      | false =>
        rw [hb] at hU
        cases hU
        exact qk17 hE hr hF
      | true =>
        rw [hb] at hU
        rw [Bool.and_eq_true, Bool.and_eq_true] at hb
        obtain ⟨b1, b2, b3⟩ := hb
        obtain ⟨w0, n1, n2, n3⟩ := qamf_c (so := 51) (k0 := 17) hE hH (fun a => qun51) (by decide) (by decide) (by decide) (by decide) hn
        obtain ⟨y, y1, rfl⟩ := n2
        have e17 := n3 y rfl
        have yb := avb_i hE b2 (show av ρ (.inl n) (.int y) from ⟨y, y1, rfl⟩)
        rw [aveq_ok b1] at hv
        obtain ⟨x, x1, rfl⟩ := hv
        have hx : x.toInt = y.toInt + 1 := qi_add (x1.inj y1.add) (by omega) (by omega)
        have f17 : qv h' 130 17 = qv h 130 17 + 1 := by rw [hF, qud_same, qi_int hw, hx, e17]
        have fo : ∀ b j : Nat, ¬ b = 130 → qv h' b j = qv h b j := fun b j hb => by rw [hF, qud_a hb]
        have g74 := qamg_g (k := 74) hE hH (by decide) hr (qg74 _) hd
        have g75 := qamg_g (k := 75) hE hH (by decide) hr (qg75 _) hhh
        have g77 := qamg_g (k := 77) hE hH (by decide) hr (qg77 _) hp
        have P := qp2_of hE g77 b3
        have Pb := qp2_b P
        have P' : qp2 (qv h') := qp2_m (by omega) (by omega) (fun k _ _ => ⟨fo _ _ (by decide), fo _ _ (by decide)⟩) (fun i _ => ⟨fo _ _ (by decide), fo _ _ (by decide)⟩) P
        have hU : (match amf E 67 n.1 (n.2 + 64) m, amf E 68 n.1 (n.2 + 64) m with
          | some a, some b => match qht E a b hh with
            | some (some A) => some (some (A.1, [((q, 0, 74), apls d (-1)), ((q, 0, 75), A.2), ((q, 0, 77), p2)], []))
            | some none => some none
            | none => some (some (E, [], [(q, 0, 74), (q, 0, 75), (q, 0, 77)]))
          | _, _ => some (some (E, [], [(q, 0, 74), (q, 0, 75), (q, 0, 77)]))) = some o := hU
        split at hU
        · next a b hka hkb =>
          obtain ⟨j, wa, xa, xa1, xa2, -, xa4, xa5⟩ := qamf (so := 67) hE hH (fun a => qun67) (by decide) hka
          obtain ⟨j', wb, xb, xb1, xb2, -, xb4, xb5⟩ := qamf (so := 68) hE hH (fun a => qun68) (by decide) hkb
          have hj : xa.toInt = y.toInt + 64 := qi_add (xa1.inj y1.add) (by omega) (by omega)
          have hj' : xb.toInt = y.toInt + 64 := qi_add (xb1.inj y1.add) (by omega) (by omega)
          have ej' : j' = j := by omega
          subst ej'
          rw [qrdx (qG_off (by decide) (by decide))] at xa4 xb4
          have hpr1 : qpr 146 j' = true := by unfold qpr; simp [Nat.ble_eq]; omega
          have hpr2 : qpr 147 j' = true := by unfold qpr; simp [Nat.ble_eq]; omega
          cases hqt : qht E a b hh with
          | none =>
            rw [hqt] at hU
            cases hU
            exact qk17 hE hr hF
          | some oA =>
            have hH0 : ∃ H : Nat, qhn (qv h) 64 (qba (qv h)).toNat ((qv h 130 17).toNat - (qba (qv h)).toNat) = some H := by
              cases hz : qhn (qv h) 64 (qba (qv h)).toNat ((qv h 130 17).toNat - (qba (qv h)).toNat) with
              | some H => exact ⟨H, rfl⟩
              | none =>
                exfalso
                have e1 : qhb (qv h) = -1 := by unfold qhb; rw [hz]
                have c0 : avb E hh 0 64 = true := by
                  cases c : avb E hh 0 64 with
                  | true => rfl
                  | false => unfold qht at hqt; rw [c] at hqt; cases hqt
                rw [e1] at g75
                exact absurd (avb_i hE c0 g75).1 (by decide)
            obtain ⟨H, hHe⟩ := hH0
            have hbH : qhb (qv h) = (H : Int) := by unfold qhb; rw [hHe]
            have hHl := qhn_le _ _ hHe
            rw [hbH] at g75
            obtain ⟨A, rfl, A1, H', A2, A3⟩ := qht_ok (F1 := qv h 146 j') (F2 := qv h 147 j') hqt hE xa5 xb5 (fun x e => by subst e; rw [qv_on hpr1, qi_int xa4]) (fun x e => by subst e; rw [qv_on hpr2, qi_int xb4]) g75 (by omega)
            rw [hqt] at hU
            cases hU
            have ba' : qba (qv h') = qba (qv h) := qba_c (fun k _ _ => fo _ _ (by decide))
            have hb' : qhb (qv h') = (H' : Int) := by
              unfold qhb
              have e1 : (qv h' 130 17).toNat - (qba (qv h')).toNat = ((qv h 130 17).toNat - (qba (qv h)).toNat) + 1 := by rw [ba', f17]; omega
              have e2 : qhn (qv h') 64 (qba (qv h)).toNat (((qv h 130 17).toNat - (qba (qv h)).toNat) + 1) = some H' := by
                show (match qhn (qv h') 64 (qba (qv h)).toNat ((qv h 130 17).toNat - (qba (qv h)).toNat) with
                  | some H => qst (qv h' 146 (64 + ((qba (qv h)).toNat + ((qv h 130 17).toNat - (qba (qv h)).toNat)))) (qv h' 147 (64 + ((qba (qv h)).toNat + ((qv h 130 17).toNat - (qba (qv h)).toNat)))) H
                  | none => none) = some H'
                rw [qhn_c _ (fun i _ => ⟨fo _ _ (by decide), fo _ _ (by decide)⟩), hHe, fo _ _ (by decide), fo _ _ (by decide), show 64 + ((qba (qv h)).toNat + ((qv h 130 17).toNat - (qba (qv h)).toNat)) = j' by omega]
                exact A2
              rw [e1, ba', e2]
            refine qmk ρ aext.rf A1 (qallc (qo1 (k := 74) A1 (by decide +kernel) (by decide) hr (qg74 _) ?_) (qallc (qo1 (k := 75) A1 (by decide +kernel) (by decide) hr (qg75 _) ?_) (qallc (qo1 (k := 77) A1 (by decide +kernel) (by decide) hr (qg77 _) ?_) qall0))) qall0 (fun a j q1 _ => ?_)
            · exact apls_g (-1) g74 (by rw [f17, fo _ _ (by decide)]; omega)
            · rw [hb']
              exact A3
            · rw [qbo_t P']
              rw [qbo_t P] at g77
              exact g77
            · rw [hF]
              exact qd17 a j (qnd (kk := 74) hE (by decide) hr (q1 _ (List.Mem.head _))) (qnd (kk := 75) hE (by decide) hr (q1 _ (List.Mem.tail _ (List.Mem.head _)))) (qnd (kk := 77) hE (by decide) hr (q1 _ (List.Mem.tail _ (List.Mem.tail _ (List.Mem.head _)))))
        · cases hU
          exact qk17 hE hr hF
    · cases hU
      exact qk17 hE hr hF
