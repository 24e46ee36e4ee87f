/-! ears, seat, tell of both sides, between the passes. -/
theorem bj_0 (i : Nat) : bj 0 i = false := BitVec.getLsbD_zero
theorem bj_xor (x y : Int32) (i : Nat) : bj (x ^^^ y) i = Bool.xor (bj x i) (bj y i) := by unfold bj; rw [Int32.toBitVec_xor, BitVec.getLsbD_xor]
theorem bj_one {j k : Nat} (hj : j < 32) (hk : k < 32) : bj ((1 : Int32) <<< (Int32.ofNat j &&& 31)) k = decide (j = k) := by
  have h := bj_set (x := 0) hj hk
  rwa [bj_or, bj_0, Bool.false_or, Bool.false_or] at h
/-- bit p of x is the other one -/
def fjB (p : Nat) (x : Int32) : Int32 := x ^^^ ((1 : Int32) <<< (Int32.ofNat p &&& 31))
theorem bj_fj {x : Int32} {p q : Nat} (hp : p < 32) (hq : q < 32) : bj (fjB p x) q = if q = p then !bj x p else bj x q := by
  unfold fjB
  rw [bj_xor, bj_one hp hq]
  by_cases e : q = p
  · rw [if_pos e, e, decide_eq_true rfl]; cases bj x p <;> rfl
  · rw [if_neg e, decide_eq_false (fun z => e z.symm), Bool.xor_false]
theorem bl_fl {x : Int64} {p q : Nat} (hp : p < 64) (hq : q < 64) : bl (flB (Int32.ofNat p) x) q = if q = p then !bl x p else bl x q := by
  unfold flB
  rw [bl_xor, bl_one hp hq]
  by_cases e : q = p
  · rw [if_pos e, e, decide_eq_true rfl]; cases bl x p <;> rfl
  · rw [if_neg e, decide_eq_false (fun z => e z.symm), Bool.xor_false]
theorem fl_fl {x : Int64} {p : Nat} (hp : p < 64) : flB (Int32.ofNat p) (flB (Int32.ofNat p) x) = x := by
  refine bl_ext (fun i hi => ?_)
  rw [bl_fl hp hi]
  by_cases e : i = p
  · rw [if_pos e, bl_fl hp hp, if_pos rfl, e, Bool.not_not]
  · rw [if_neg e, bl_fl hp hi, if_neg e]
/-- not this 0 or 1: the other one -/
theorem bI_ne {b : Bool} {y : Int32} (hy : y = 0 ∨ y = 1) (h : ¬ bI b = y) : bI (!b) = y ∧ b = decide ((if y = 0 then (1 : Int32) else 0) = 1) := by
  rcases hy with rfl | rfl <;> cases b
  · exact absurd rfl h
  · exact ⟨rfl, rfl⟩
  · exact ⟨rfl, rfl⟩
  · exact absurd rfl h
theorem mlV_1 {v : Nat} (hv : v ≤ 60) : mlV (Int32.ofNat v) = 1 := by
  have qv : (Int32.ofNat v).toInt = (v : Int) := xn_int (by omega)
  unfold mlV
  rw [if_neg (by omega), if_neg (by omega)]
theorem gsX {h : zH} {a : Nat} (hS : aSh qW h) (hc : (Nat.blt a qW.1.length && (Nat.beq (afm qW (asrt qW a)).1 0 && Nat.beq ([0, 1, 1, 2, 3].getD (afm qW (asrt qW a)).2.1 9) 1)) = true) : ∃ L : Nat, gs h a = (0, 1, L) := by
  rw [Bool.and_eq_true, Bool.and_eq_true] at hc
  refine ⟨(afm qW (asrt qW a)).2.2.1, ?_⟩
  rw [gs_of hS (Nat.le_of_ble_eq_true hc.1 : a < qW.1.length), Nat.eq_of_beq_eq_true hc.2.1, Nat.eq_of_beq_eq_true hc.2.2]
def gsk (a : Nat) : Bool := Nat.blt a qW.1.length && (Nat.beq (afm qW (asrt qW a)).1 0 && Nat.beq ([0, 1, 1, 2, 3].getD (afm qW (asrt qW a)).2.1 9) 1)
theorem gsk_ok : (List.range 14).all (fun j => gsk (150 + j)) = true ∧ (List.range 3).all (fun j => gsk (117 + j)) = true := by decide +kernel
theorem gu_of {h : zH} (hS : aSh qW h) (hr : ∀ t ∈ rfs, rd h t.1 t.2.1 = some (.ref t.2.2)) : GU (gr h, gs h) := by
  refine ⟨rf_of hr (by decide +kernel), rf_of hr (by decide +kernel), rf_of hr (by decide +kernel), fun c c1 c2 => ?_⟩
  have z := List.all_eq_true.mp gsk_ok.2 (c - 117) (List.mem_range.mpr (by omega))
  rw [show 117 + (c - 117) = c by omega] at z
  exact gsX hS z
theorem gw_of {h : zH} (hS : aSh qW h) (hr : ∀ t ∈ rfs, rd h t.1 t.2.1 = some (.ref t.2.2)) : GW (gr h, gs h) := by
  refine ⟨fun k k1 k2 => (gt_of hS hr).2.1 k k1 k2, fun c c1 c2 => ?_⟩
  have z := List.all_eq_true.mp gsk_ok.1 (c - 150) (List.mem_range.mpr (by omega))
  rw [show 150 + (c - 150) = c by omega] at z
  exact gsX hS z
theorem pR0 {n : Nat} {rows : Nat → rRow} {w : rRow} : pR n rows w 0 = w := if_pos rfl
theorem pR3 {n : Nat} {rows : Nat → rRow} {w : rRow} : pR n rows w 3 = rows 3 := by
  unfold pR
  rw [if_neg (by decide), if_pos (by decide)]
theorem nw0 {m : xM} {g : xL} : NW m g (xu m 128 0 0) g := ⟨fun c hc => xu_row hc, fun k hk => xu_oth (by omega), rfl⟩
theorem ears_pair {nf : Bool} {xs : List Int32} {d : Nat} {h h1 h2 : zH} {r1 r2 : Option Value} {x y : Int32} {M1 M2 : List aD} (hI : lInq h) (hy : y = 0 ∨ y = 1) (e1 : zEv (zXt nf xs) zIT zmcl zMt d 114 [.ref 0, .int x, .int y] h r1 h1) (e2 : zEv (zXt nf xs) zIT zmcl zMt d 225 [.ref 128, .int x, .int y] h1 r2 h2) (S1 : aSh qW h1) (k1 : KP M1 h h1) (k2 : KP M2 h1 h2) (q1 : xk M1 = true) (q2 : xk M2 = true) (q3 : kBR M1 = true) (q4 : kBC M2 = true) : r1 = r2 ∧ lQ h2 := by
  obtain ⟨hJ, hX, P, R, J, n, E, rows, kp, nt, L, hP, hR, hJ6, hn, hC, hRr, hA⟩ := hI
  have t1 := zEv_KT _ _ _ _ _ _ e1 hX.1
  have t2 := zEv_KT _ _ _ _ _ _ e2 t1
  have y1 := lX_keep hX t1 k1 q1
  have y2 := lX_keep y1 t2 k2 q2
  have x2 := hX.2.1.2.1
  have hr1 := y1.2.1.2.1
  have R1 := hRr.st hn (k1.br q3)
  obtain ⟨n1, g1, hs1, eg, c1⟩ := ct_earsC (R := R) (n := n) (rf_of x2 (by decide +kernel)) (rf_of x2 (by decide +kernel)) (gq_of (Or.inl rfl) hJ.1.1 x2) (gu_of hJ.1.1 x2) hC.2.2.2.2.1 hR hn hC.2.2.2.2.2.1 h r1 h1 (HS_of hX.1) e1
  obtain ⟨n2, g2, hs2, c2⟩ := ct_earsR (R := R) (n := n) (gw_of S1 hr1) (rf_of hr1 (by decide +kernel)) (gsR S1 (by decide +kernel)) R1.2.1 hR hn R1.2.2.2.1 h1 r2 h2 (HS_of t1) e2
  have em1 : gi h1 = n1 := hs1.2.1
  have el1 : gl h1 = g1 := hs1.2.2.1
  have er1 : gr h1 = gr h := hs1.2.2.2.1
  have em2 : gi h2 = n2 := hs2.2.1
  have el2 : gl h2 = g2 := hs2.2.2.1
  have b0 : rowOf (gi h1) (gl h1) 0 = rows 0 := R1.2.2.2.2.2.2 0 (Or.inl rfl)
  have b155 : gi h1 155 0 = (rows 0).2.2.1 := congrArg (fun w => w.2.2.1) b0
  have hL := hC.2.2.2.2.2.2.2.2.1
  have same : n1 = gi h → NW (gi h1) (gl h1) n2 g2 → lB h2 := fun s u => lB_mk (h1 := h1) hP hR hJ6 hn (by rw [em1, s, el1, eg, er1]; exact hC) (k2.bc q4) (by rw [em2, el2]; exact R1.nw u) hA
  rcases c1 with ⟨z1, z2, z3⟩ | ⟨p, hp, hx, c1⟩
  · rcases c2 with ⟨w1, w2, w3⟩ | ⟨p, hp, hx, -⟩
    · exact ⟨z2.trans w2.symm, y2, same z3 w3⟩
    · rw [hx, rdV_1 hp hR] at z1
      exact absurd z1 (by decide)
  · rcases c2 with ⟨w1, -, -⟩ | ⟨p', hp', hx', c2⟩
    · rw [hx, rdV_1 hp hR] at w1
      exact absurd w1 (by decide)
    · have ep : p' = p := xn_inj (by omega) (by omega) (hx'.symm.trans hx)
      rw [ep] at c2
      have bit : gi h (55 + 3 + 2 * p) 4 = bI (bj (rows 0).2.2.1 p) := (hL.2.2.1 p hp).2
      rw [b155] at c2
      rcases c1 with ⟨s1, s2, s3⟩ | ⟨s1, s2, s3⟩
      · rcases c2 with ⟨u1, u2, u3⟩ | ⟨u1, -, -⟩
        · exact ⟨s2.trans u2.symm, y2, same s3 u3⟩
        · exact absurd (bit.symm.trans s1) u1
      · rcases c2 with ⟨u1, -, -⟩ | ⟨u1, u2, m1, u3, u4⟩
        · exact absurd (bit.trans u1) s1
        · obtain ⟨v1, v2⟩ := bI_ne hy u1
          let w : rRow := ((rows 0).1, (rows 0).2.1, fjB p (rows 0).2.2.1, (rows 0).2.2.2)
          have hS : ST R J (1, Int32.ofNat p, if y = 0 then 1 else 0) (rows 0) w := by
            refine ⟨rfl, rfl, Or.inl ⟨rfl, p, hp, rfl, rfl, rfl, fun q hq => ?_⟩⟩
            show bj (rows 0).2.2.1 q = if q = p then decide ((if y = 0 then (1 : Int32) else 0) = 1) else bj (fjB p (rows 0).2.2.1) q
            by_cases e : q = p
            · rw [if_pos e, e, ← v2]
            · rw [if_neg e, bj_fj (by omega) (by omega), if_neg e]
          have hl : CL R J n1 (gl h) 55 w := by
            obtain ⟨l1, l2, l3, l4⟩ := hL
            have f : ∀ c : Nat, c < 58 ∨ 70 ≤ c → c < 116 → n1 c = gi h c := fun c hc hc2 => (s3.1 c (Or.inl hc2)).trans (xu_row (by omega))
            refine ⟨by rw [f 55 (by decide) (by decide)]; exact l1, by rw [f 55 (by decide) (by decide)]; exact l2, fun q hq => ?_, l4⟩
            rw [s3.1 (55 + 3 + 2 * q) (Or.inl (by omega))]
            refine ⟨(xu_oth (by omega)).trans (l3 q hq).1, ?_⟩
            show _ = bI (bj (fjB p (rows 0).2.2.1) q)
            rw [bj_fj (by omega) (by omega)]
            by_cases e : q = p
            · rw [if_pos e, e, xu_same, v1]
            · rw [if_neg e, xu_oth (by omega)]
              exact (l3 q hq).2
          have C1 := hC.push (m0 := xu (gi h) (55 + 3 + 2 * p) 4 y) (m1 := n1) (m2 := n1) (g2 := gl h) hP hR hn (fun c hc => xu_row (by omega)) s3 (fun _ _ => rfl) rfl hl
          have R1x := R1.nw nw0
          have e0 : rowOf m1 g2 0 = rows 0 := (u3.2.2.2.2.2.2 0 (by decide)).trans (R1x.2.2.2.2.2.2 0 (Or.inl rfl))
          have e1x : m1 155 0 = (rows 0).2.2.1 := congrArg (fun w => w.2.2.1) e0
          have R2 := R1x.push (m2 := n2) (g2 := g2) (w := w) hn u3 ⟨by rw [u4]; exact xu_row (by decide), by rw [u4]; exact xu_row (by decide)⟩ (by rw [u4, row_ears, if_pos rfl, e0, e1x] <;> rfl) (fun r hr => by rw [u4, row_ears, if_neg hr])
          exact ⟨s2.trans u2.symm, y2, lB_mk (h1 := h1) (rows := pR n rows w) hP hR hJ6 (kNS hn).2.2 (by rw [pR0, pR3, em1, el1, eg, er1]; exact C1) (k2.bc q4) (by rw [em2, el2]; exact R2) (hA.push hn hS (HB.fw hS hA.1))⟩
theorem seat_pair {nf : Bool} {xs : List Int32} {d : Nat} {h h1 h2 : zH} {r1 r2 : Option Value} {x y : Int32} {M1 M2 : List aD} (hI : lInq h) (e1 : zEv (zXt nf xs) zIT zmcl zMt d 115 [.ref 0, .int x, .int y] h r1 h1) (e2 : zEv (zXt nf xs) zIT zmcl zMt d 226 [.ref 128, .int x, .int y] h1 r2 h2) (S1 : aSh qW h1) (k1 : KP M1 h h1) (k2 : KP M2 h1 h2) (q1 : xk M1 = true) (q2 : xk M2 = true) (q3 : kBR M1 = true) (q4 : kBC M2 = true) : r1 = r2 ∧ lQ h2 := by
  obtain ⟨hJ, hX, P, R, J, n, E, rows, kp, nt, L, hP, hR, hJ6, hn, hC, hRr, hA⟩ := hI
  have t1 := zEv_KT _ _ _ _ _ _ e1 hX.1
  have t2 := zEv_KT _ _ _ _ _ _ e2 t1
  have y1 := lX_keep hX t1 k1 q1
  have y2 := lX_keep y1 t2 k2 q2
  have x2 := hX.2.1.2.1
  have hr1 := y1.2.1.2.1
  have R1 := hRr.st hn (k1.br q3)
  obtain ⟨n1, g1, hs1, eg, c1⟩ := ct_seatC (R := R) (n := n) (rf_of x2 (by decide +kernel)) (rf_of x2 (by decide +kernel)) (gq_of (Or.inl rfl) hJ.1.1 x2) (gu_of hJ.1.1 x2) hC.2.2.2.2.1 hR hn hC.2.2.2.2.2.1 h r1 h1 (HS_of hX.1) e1
  obtain ⟨n2, g2, hs2, c2⟩ := ct_seatR (R := R) (n := n) (gw_of S1 hr1) (rf_of hr1 (by decide +kernel)) (gsR S1 (by decide +kernel)) R1.2.1 hR hn R1.2.2.2.1 h1 r2 h2 (HS_of t1) e2
  have em1 : gi h1 = n1 := hs1.2.1
  have el1 : gl h1 = g1 := hs1.2.2.1
  have er1 : gr h1 = gr h := hs1.2.2.2.1
  have em2 : gi h2 = n2 := hs2.2.1
  have el2 : gl h2 = g2 := hs2.2.2.1
  have b0 : rowOf (gi h1) (gl h1) 0 = rows 0 := R1.2.2.2.2.2.2 0 (Or.inl rfl)
  have hL := hC.2.2.2.2.2.2.2.2.1
  have same : n1 = gi h → NW (gi h1) (gl h1) n2 g2 → lB h2 := fun s u => lB_mk (h1 := h1) hP hR hJ6 hn (by rw [em1, s, el1, eg, er1]; exact hC) (k2.bc q4) (by rw [em2, el2]; exact R1.nw u) hA
  rcases c1 with ⟨z1, z2, z3⟩ | ⟨p, hp, hx, z4, z5, c1⟩
  · rcases c2 with ⟨w1, w2, w3⟩ | ⟨p, hp, hx, w4, w5, -⟩
    · exact ⟨z2.trans w2.symm, y2, same z3 w3⟩
    · rcases z1 with z1 | z1 | z1
      · rw [hx, rdV_1 hp hR] at z1
        exact absurd z1 (by decide)
      · exact absurd z1 (by omega)
      · exact absurd z1 (by omega)
  · rcases c2 with ⟨w1, -, -⟩ | ⟨p', hp', hx', -, -, c2⟩
    · rcases w1 with w1 | w1 | w1
      · rw [hx, rdV_1 hp hR] at w1
        exact absurd w1 (by decide)
      · exact absurd w1 (by omega)
      · exact absurd w1 (by omega)
    · have ep : p' = p := xn_inj (by omega) (by omega) (hx'.symm.trans hx)
      rw [ep] at c2
      have old : gi h (55 + 3 + 2 * p) 2 = (rows 0).2.2.2.1 p := (hL.2.2.1 p hp).1
      have b156 : gi h1 156 p = (rows 0).2.2.2.1 p := by rw [← b0]; exact (row_at.2.2.2.1 p (by omega)).symm
      rw [b156] at c2
      rw [old] at c1
      rcases c1 with ⟨s1, s2, s3⟩ | ⟨s1, s2, mp, s3, s4⟩
      · rcases c2 with ⟨u1, u2, u3⟩ | ⟨u1, -, -⟩
        · exact ⟨s2.trans u2.symm, y2, same s3 u3⟩
        · exact absurd s1 u1
      · rcases c2 with ⟨u1, -, -⟩ | ⟨u1, u2, m1, u3, u4⟩
        · exact absurd u1 s1
        · let w : rRow := ((rows 0).1, (rows 0).2.1, (rows 0).2.2.1, (fun q => if q = p then y else (rows 0).2.2.2.1 q), (rows 0).2.2.2.2)
          have hS : ST R J (2, Int32.ofNat p, (rows 0).2.2.2.1 p) (rows 0) w := by
            refine ⟨rfl, rfl, Or.inr (Or.inl ⟨rfl, p, hp, rfl, rfl, rfl, funext fun q => ?_⟩)⟩
            show (rows 0).2.2.2.1 q = if q = p then (rows 0).2.2.2.1 p else (if q = p then y else (rows 0).2.2.2.1 q)
            by_cases e : q = p
            · rw [if_pos e, e]
            · rw [if_neg e, if_neg e]
          have hl : CL R J n1 (gl h) 55 w := by
            obtain ⟨l1, l2, l3, l4⟩ := hL
            have f : ∀ c : Nat, c < 58 ∨ 70 ≤ c → c < 116 → n1 c = gi h c := fun c hc hc2 => by rw [s4, xu_row (by omega)]; exact s3.1 c (Or.inl hc2)
            refine ⟨by rw [f 55 (by decide) (by decide)]; exact l1, by rw [f 55 (by decide) (by decide)]; exact l2, fun q hq => ?_, l4⟩
            have g0 : mp (55 + 3 + 2 * q) = gi h (55 + 3 + 2 * q) := s3.1 _ (Or.inl (by omega))
            rw [s4]
            refine ⟨?_, ?_⟩
            · show _ = if q = p then y else (rows 0).2.2.2.1 q
              by_cases e : q = p
              · rw [if_pos e, e, xu_same]
              · rw [if_neg e, xu_oth (by omega), g0]
                exact (l3 q hq).1
            · rw [xu_oth (by omega), g0]
              exact (l3 q hq).2
          have C1 := hC.push (m0 := gi h) (m1 := mp) (m2 := n1) (g2 := gl h) hP hR hn (fun _ _ => rfl) s3 (fun c hc => by rw [s4]; exact xu_row (by omega)) rfl hl
          have R1x := R1.nw nw0
          have e0 : rowOf m1 g2 0 = rows 0 := (u3.2.2.2.2.2.2 0 (by decide)).trans (R1x.2.2.2.2.2.2 0 (Or.inl rfl))
          have R2 := R1x.push (m2 := n2) (g2 := g2) (w := w) hn u3 ⟨by rw [u4]; exact xu_row (by decide), by rw [u4]; exact xu_row (by decide)⟩ (by rw [u4, row_seat (by omega), if_pos rfl, e0] <;> rfl) (fun r hr => by rw [u4, row_seat (by omega), if_neg hr])
          exact ⟨s2.trans u2.symm, y2, lB_mk (h1 := h1) (rows := pR n rows w) hP hR hJ6 (kNS hn).2.2 (by rw [pR0, pR3, em1, el1, eg, er1]; exact C1) (k2.bc q4) (by rw [em2, el2]; exact R2) (hA.push hn hS (HB.fw hS hA.1))⟩
theorem tell_pair {nf : Bool} {xs : List Int32} {d : Nat} {h h1 h2 : zH} {r1 r2 : Option Value} {x y z : Int32} {M1 M2 : List aD} (hI : lInq h) (hz : z = 0 ∨ z = 1) (e1 : zEv (zXt nf xs) zIT zmcl zMt d 116 [.ref 0, .int x, .int y, .int z] h r1 h1) (e2 : zEv (zXt nf xs) zIT zmcl zMt d 227 [.ref 128, .int x, .int y, .int z] h1 r2 h2) (S1 : aSh qW h1) (k1 : KP M1 h h1) (k2 : KP M2 h1 h2) (q1 : xk M1 = true) (q2 : xk M2 = true) (q3 : kBR M1 = true) (q4 : kBC M2 = true) : r1 = r2 ∧ lQ h2 := by
  obtain ⟨hJ, hX, P, R, J, n, E, rows, kp, nt, L, hP, hR, hJ6, hn, hC, hRr, hA⟩ := hI
  have t1 := zEv_KT _ _ _ _ _ _ e1 hX.1
  have t2 := zEv_KT _ _ _ _ _ _ e2 t1
  have y1 := lX_keep hX t1 k1 q1
  have y2 := lX_keep y1 t2 k2 q2
  have x2 := hX.2.1.2.1
  have hr1 := y1.2.1.2.1
  have R1 := hRr.st hn (k1.br q3)
  have hP2 : gr h P 2 = some (P + 5) := by
    rcases hP with rfl | rfl
    · exact rf_of x2 (by decide +kernel)
    · exact rf_of x2 (by decide +kernel)
  obtain ⟨n1, g1, hs1, c1⟩ := ct_tellC (J := J) (n := n) (rf_of x2 (by decide +kernel)) (rf_of x2 (by decide +kernel)) hC.1 hP2 (gq_of (Or.inl rfl) hJ.1.1 x2) (gu_of hJ.1.1 x2) hC.2.2.2.1 hJ6 hn hC.2.2.2.2.2.1 h r1 h1 (HS_of hX.1) e1
  obtain ⟨n2, g2, hs2, c2⟩ := ct_tellR (J := J) (n := n) (gw_of S1 hr1) (rf_of hr1 (by decide +kernel)) (gsR S1 (by decide +kernel)) R1.2.2.1 hJ6 hn R1.2.2.2.1 h1 r2 h2 (HS_of t1) e2
  have em1 : gi h1 = n1 := hs1.2.1
  have el1 : gl h1 = g1 := hs1.2.2.1
  have er1 : gr h1 = gr h := hs1.2.2.2.1
  have em2 : gi h2 = n2 := hs2.2.1
  have el2 : gl h2 = g2 := hs2.2.2.1
  have b0 : rowOf (gi h1) (gl h1) 0 = rows 0 := R1.2.2.2.2.2.2 0 (Or.inl rfl)
  have hL := hC.2.2.2.2.2.2.2.2.1
  have same : n1 = gi h → g1 = gl h → NW (gi h1) (gl h1) n2 g2 → lB h2 := fun s sg u => lB_mk (h1 := h1) hP hR hJ6 hn (by rw [em1, s, el1, sg, er1]; exact hC) (k2.bc q4) (by rw [em2, el2]; exact R1.nw u) hA
  rcases c1 with ⟨z1, z2, z3, z3g⟩ | ⟨p, hp, hx, v, hv, hvy, c1⟩
  · rcases c2 with ⟨w1, w2, w3⟩ | ⟨p, hp, hx, v, hv, hvy, -⟩
    · exact ⟨z2.trans w2.symm, y2, same z3 z3g w3⟩
    · rcases z1 with z1 | z1
      · rw [hx, rdV_1 hp hJ6] at z1
        exact absurd z1 (by decide)
      · rw [hvy, mlV_1 hv] at z1
        exact absurd z1 (by decide)
  · rcases c2 with ⟨w1, -, -⟩ | ⟨p', hp', hx', v', hv', hvy', c2⟩
    · rcases w1 with w1 | w1
      · rw [hx, rdV_1 hp hJ6] at w1
        exact absurd w1 (by decide)
      · rw [hvy, mlV_1 hv] at w1
        exact absurd w1 (by decide)
    · have ep : p' = p := xn_inj (by omega) (by omega) (hx'.symm.trans hx)
      have ev : v' = v := xn_inj (by omega) (by omega) (hvy'.symm.trans hvy)
      rw [ep, ev] at c2
      have old : gl h 57 p = (rows 0).2.2.2.2 p := hL.2.2.2 p hp
      have b164 : gl h1 164 p = (rows 0).2.2.2.2 p := by rw [← b0]; exact (row_at.2.2.2.2 p (by omega)).symm
      rw [b164] at c2
      rw [old] at c1
      rcases c1 with ⟨s1, s2, s3, s3g⟩ | ⟨s1, s2, s3, s4⟩
      · rcases c2 with ⟨u1, u2, u3⟩ | ⟨u1, -, -⟩
        · exact ⟨s2.trans u2.symm, y2, same s3 s3g u3⟩
        · exact absurd s1 u1
      · rcases c2 with ⟨u1, -, -⟩ | ⟨u1, u2, gq, u3, u4⟩
        · exact absurd u1 s1
        · have sf : stB z (Int32.ofNat v) ((rows 0).2.2.2.2 p) = flB (Int32.ofNat v) ((rows 0).2.2.2.2 p) := by
            refine st_fl (by omega) (fun q => ?_)
            obtain ⟨-, v2⟩ := bI_ne hz u1
            rcases hz with rfl | rfl
            · rw [v2] at q
              exact q.1 (by decide) rfl
            · rw [v2] at q
              exact absurd (q.2 (by decide)) (by decide)
          rw [sf] at s4
          let w : rRow := ((rows 0).1, (rows 0).2.1, (rows 0).2.2.1, (rows 0).2.2.2.1, (fun q => if q = p then flB (Int32.ofNat v) ((rows 0).2.2.2.2 p) else (rows 0).2.2.2.2 q))
          have hS : ST R J (3, Int32.ofNat p, Int32.ofNat v) (rows 0) w := by
            refine ⟨rfl, rfl, Or.inr (Or.inr ⟨rfl, p, hp, rfl, v, hv, rfl, rfl, rfl, funext fun q => ?_⟩)⟩
            show (rows 0).2.2.2.2 q = if q = p then flB (Int32.ofNat v) (if q = p then flB (Int32.ofNat v) ((rows 0).2.2.2.2 p) else (rows 0).2.2.2.2 q) else (if q = p then flB (Int32.ofNat v) ((rows 0).2.2.2.2 p) else (rows 0).2.2.2.2 q)
            by_cases e : q = p
            · rw [if_pos e, if_pos e, fl_fl (by omega), e]
            · rw [if_neg e, if_neg e]
          have hl : CL R J n1 g1 55 w := by
            obtain ⟨l1, l2, l3, l4⟩ := hL
            have f : ∀ c : Nat, c < 116 → n1 c = gi h c := fun c hc => s3.1 c (Or.inl hc)
            refine ⟨by rw [f 55 (by decide)]; exact l1, by rw [f 55 (by decide)]; exact l2, fun q hq => by rw [f (55 + 3 + 2 * q) (by omega)]; exact l3 q hq, fun q hq => ?_⟩
            show g1 57 q = if q = p then flB (Int32.ofNat v) ((rows 0).2.2.2.2 p) else (rows 0).2.2.2.2 q
            rw [s4]
            by_cases e : q = p
            · rw [if_pos e, e, xu_same]
            · rw [if_neg e, xu_oth (by omega)]
              exact l4 q hq
          have C1 := hC.push (m0 := gi h) (m1 := n1) (m2 := n1) (g2 := g1) hP hR hn (fun _ _ => rfl) s3 (fun _ _ => rfl) (by rw [s4]; exact xu_row (by decide)) hl
          have R1x := R1.nw nw0
          have e0 : rowOf n2 gq 0 = rows 0 := (u3.2.2.2.2.2.2 0 (by decide)).trans (R1x.2.2.2.2.2.2 0 (Or.inl rfl))
          have e164 : gq 164 p = (rows 0).2.2.2.2 p := by rw [← e0]; exact (row_at.2.2.2.2 p (by omega)).symm
          have R2 := R1x.push (m2 := n2) (g2 := g2) (w := w) hn u3 ⟨rfl, rfl⟩ (by rw [u4, row_tell (by omega), if_pos rfl, e0, e164] <;> rfl) (fun r hr => by rw [u4, row_tell (by omega), if_neg hr])
          exact ⟨s2.trans u2.symm, y2, lB_mk (h1 := h1) (rows := pR n rows w) hP hR hJ6 (kNS hn).2.2 (by rw [pR0, pR3, em1, el1, er1]; exact C1) (k2.bc q4) (by rw [em2, el2]; exact R2) (hA.push hn hS (HB.fw hS hA.1))⟩
