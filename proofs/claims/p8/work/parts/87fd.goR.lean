/-! go of the reference, exactly. -/
theorem lp_R {nf : Bool} {xs : List Int32} {d n : Nat} {r : Option Value} {h' : zH} (hn : n ≤ 99) : ∀ (N i : Nat) (cl : zL) (k : zH), aH qW qG [0] [] k → rd k 128 3 = some (.ref 130) → rd k 128 37 = some (.ref 150) → rd k 128 38 = some (.ref 151) → i ≤ n → zget cl 0 = some (.ref 128) → zget cl 1 = some (.int (Int32.ofNat n)) → zget cl 2 = some (.int (Int32.ofNat i)) → RH nf xs d 11 false 3 (some .int) zt228 r h' N (40, cl, [], k) → r = some (.int (gi h' 151 0)) ∧ KP qcx1.2.2.2.2.1 k h' ∧ (gi h' 150 0, gi h' 151 0) = dmN (gi k 130 0) (n - i) (gi k 150 0, gi k 151 0) := by
  intro N
  induction N with
  | zero => intro i cl k _ _ _ _ _ _ _ _ hr; exact hr.no.elim
  | succ N ih =>
    intro i cl k hH r3 r37 r38 hi g0 g1 g2 hr
    have qi : (Int32.ofNat i).toInt = (i : Int) := xn_int (by omega)
    have qn : (Int32.ofNat n).toInt = (n : Int) := xn_int (by omega)
    obtain ⟨fs, hfs⟩ := lhd (a := 128) (t := 11) (n := 0) hH.1 (by decide +kernel) (by decide +kernel) (by decide +kernel)
    replace hr := hr.go1 t228_40.1 (s := (41, cl, [.int (Int32.ofNat i)], k)) (lsL (by simp only [zstL]; first | rw [show zget cl ((2 : Fin 4) : Nat) = _ from g2] | rw [g2]))
    replace hr := hr.go t228_41.1 (s := (42, cl, [.int (Int32.ofNat n), .int (Int32.ofNat i)], k)) (lsL (by simp only [zstL]; first | rw [show zget cl ((1 : Fin 4) : Nat) = _ from g1] | rw [g1]))
    by_cases e : i = n
    · subst e
      replace hr := hr.go t228_42.1 (zb_ge (b := true) (q := 56) (decide_eq_true (Int32.le_iff_toInt_le.mpr (Int.le_refl _))) rfl)
      replace hr : RH nf xs d 11 false 3 (some .int) zt228 r h' N (56, cl, [], k) := hr
      obtain ⟨M, y1, y2, -, -⟩ := iv_of (a := 151) (k := 0) (l := 0) (u := 60) hH (by decide +kernel) (by decide +kernel)
      obtain ⟨l, l1, l2⟩ := lA1 (a := 151) (n := 24) hH.1 (by decide +kernel)
      replace hr := hr.go t228_56.1 (s := (57, cl, [.ref 128], k)) (lsL (by simp only [zstL]; first | rw [show zget cl ((0 : Fin 4) : Nat) = _ from g0] | rw [g0]))
      replace hr := hr.go t228_57.1 (zgetf t228_57.2.2.1 hfs r38)
      replace hr := hr.go (show zt228 60 = some (.iconst 0, 1) from rfl) (s := (61, cl, [.int 0, .ref 151], k)) (lsL rfl)
      replace hr := hr.go t228_61.1 (zial l1 l2 y1)
      obtain ⟨rfl, rfl⟩ := hr.ret (v := some (.int M)) t228_62.1 zri
      refine ⟨by rw [y2], KP.rf0, ?_⟩
      rw [Nat.sub_self]
      rfl
    · replace hr := hr.go t228_42.1 (zb_ge (b := false) (q := 56) (decide_eq_false (fun z => by have := Int32.le_iff_toInt_le.mp z; omega)) rfl)
      replace hr : RH nf xs d 11 false 3 (some .int) zt228 r h' N (45, cl, [], k) := hr
      replace hr := hr.go t228_45.1 (s := (46, cl, [.ref 128], k)) (lsL (by simp only [zstL]; first | rw [show zget cl ((0 : Fin 4) : Nat) = _ from g0] | rw [g0]))
      replace hr := hr.go (show zt228 46 = some (.iconst 0, 1) from rfl) (s := (47, cl, [.int 0, .ref 128], k)) (lsL rfl)
      obtain ⟨r1, k1, e1, hr⟩ := hr.call (mi := 210) (as := [.ref 128, .int 0]) (rest := []) t228_47.1 (zcl1 t228_47.2.2 rfl hfs rfl (show (1 : Nat) ≤ 2 by decide) rfl rfl)
      obtain ⟨rfl, p1, ⟨p2, p3⟩, p4⟩ := mile_R hH r3 r37 r38 e1
      have w3 : rd k1 128 3 = some (.ref 130) := by rw [p2.pl (by decide +kernel) (by decide +kernel)]; exact r3
      have w37 : rd k1 128 37 = some (.ref 150) := by rw [p2.pl (by decide +kernel) (by decide +kernel)]; exact r37
      have w38 : rd k1 128 38 = some (.ref 151) := by rw [p2.pl (by decide +kernel) (by decide +kernel)]; exact r38
      have wL : gi k1 130 0 = gi k 130 0 := gi_rd (p2.pl (by decide +kernel) (by decide +kernel))
      replace hr : RH nf xs d 11 false 3 (some .int) zt228 r h' N (50, cl, [], k1) := hr
      replace hr := hr.go t228_50.1 (s := (53, zset1 cl 2 (.int (Int32.ofNat (i + 1))), [], k1)) (zg_iinc g2 (by decide) xn_1i)
      replace hr := hr.go t228_53.1 (zg_to (q := 40) rfl)
      obtain ⟨f1, f2, f3⟩ := ih (i + 1) _ k1 p1 w3 w37 w38 (by omega) (zset_oth (by decide) g0 rfl) (zset_oth (by decide) g1 rfl) zset_same hr
      refine ⟨f1, p2.tr f2, ?_⟩
      rw [f3, wL, show n - i = (n - (i + 1)) + 1 by omega]
      show dmN _ _ _ = dmN _ _ (dmS _ _)
      congr 1
      unfold dmS
      rcases p4 with ⟨z1, z2, z3⟩ | ⟨z1, z2, z3⟩
      · rw [if_pos z1, z2, z3]
      · rw [if_neg (by dsimp only; omega), z2, z3]
def grD : List aD := [(49, 0, 0, 0, 0), (49, 0, 0, 54, 54)]
def grP : aP := (qY, zIT, zmcl, qW, qPt, grD)
def grS : aS := ([(0, 0, 0), (2, 49, 49), (0, -2147483648, 2147483647), (0, -2147483648, 2147483647), (2, 71, 71), (0, 0, 20)], [(0, .inr (.inr (.inl 1))), (1, .inl (2, 0))], [], [((1, 0, 37), .inr (.inr (.inl 4))), ((4, 0, 0), .inl (3, 0)), ((1, 0, 54), .inl (5, 0))])
def grn (pc : Nat) (S : aS) : Bool := (akill qW S.1 (fun _ => false) S.2.2.2).isSome && ((Nat.beq pc 28 && (gbad S.1 && (gst24 S.2.2.1 && gsame (amg S.2.2.2 (1, 0, 54)) 5))) || (Nat.beq pc 40 && (ggood S.1 && (anil S.2.2.1 && (gun S.1 (amg S.2.2.2 (1, 0, 54)) 5 && (gloc S.2.1 0 (.inr (.inr (.inl 1))) && (gloc S.2.1 1 (.inl (2, 0)) && gloc S.2.1 2 (.inl (0, 0)))))))))
def grck : Bool := match zMt 228 with
  | some w => match arun grP (acals grP zMt qKB qK0 (0, []) 6) grn w.1 w.2.2.1 w.2.2.2.1 w.2.2.2.2 300 true 0 grS with
    | some [] => true
    | _ => false
  | none => false
theorem grck_ok : grck = true := by decide +kernel
theorem yR228 : zMt 228 = some (11, false, 3, some .int, zt228) := rfl
/-- the reference's go -/
theorem go_R {nf : Bool} {xs : List Int32} {d : Nat} {x : Int32} {h h' : zH} {r : Option Value} (hd : d ≤ 966) (hH : aH qW qG [0] [] h) (r3 : rd h 128 3 = some (.ref 130)) (r37 : rd h 128 37 = some (.ref 150)) (r38 : rd h 128 38 = some (.ref 151)) (e : zEv (zXt nf xs) zIT zmcl zMt d 228 [.ref 128, .int x] h r h') : ((x.toInt < 0 ∨ 99 < x.toInt ∨ 900 < (gi h 150 0).toInt) ∧ r = some (.int (-1)) ∧ gi h' 150 0 = gi h 150 0 ∧ gi h' 151 0 = gi h 151 0 ∧ gi h' 128 54 = gi h 128 54) ∨ ∃ n : Nat, n ≤ 99 ∧ x = Int32.ofNat n ∧ (gi h 150 0).toInt ≤ 900 ∧ r = some (.int (gi h' 151 0)) ∧ (gi h' 150 0, gi h' 151 0) = dmN (gi h 130 0) n (gi h 150 0, gi h 151 0) ∧ gi h' 128 54 = if n = 0 then gi h 128 54 else 0 := by
  have e := zEv_le (show d ≤ 967 by omega) e
  obtain ⟨c0, ini0, nL0, rt0, tab0, n0, mt0, -, e⟩ := e
  rw [yR228] at mt0
  cases mt0
  have hr : RH nf xs 966 11 false 3 (some .int) zt228 r h' (n0 + 1) (0, lv_args 0 [.ref 128, .int x], [], h) := ⟨n0, by omega, e⟩
  have hX := qXX nf xs
  have hK : ∀ (mi : Nat) (q : aQ), q ∈ qKB mi → q.1 = mi ∧ aCon qW qG (zEv (zXt nf xs) zIT zmcl zMt 960) q (fun _ => True) := fun mi q hq => ⟨(qB_ok nf xs mi q hq).1, (qB_ok nf xs mi q hq).2.mono (fun _ _ _ _ _ z => zEv_le (by decide) z)⟩
  obtain ⟨D, d1, d2, -, -⟩ := iv_of (a := 150) (k := 0) (l := -2147483648) (u := 2147483647) hH (by decide +kernel) (by decide +kernel)
  obtain ⟨U, u1, u2, u3, u4⟩ := iv_of (a := 128) (k := 54) (l := 0) (u := 20) hH (by decide +kernel) (by decide +kernel)
  have E1 := ((((aE0.push (t := (2, 49, 49)) (z := 128) (asR (so := 49) (c := 128) (by decide +kernel) (by decide +kernel))).push (t := (0, -2147483648, 2147483647)) (z := x.toInt) (ab x)).push (t := (0, -2147483648, 2147483647)) (z := D.toInt) (ab D)).push (t := (2, 71, 71)) (z := 150) (asR (so := 71) (c := 150) (by decide +kernel) (by decide +kernel))).push (t := (0, 0, 20)) (z := U.toInt) ⟨u3, u4⟩
  have hE : aE qW grS.1 [0, 128, x.toInt, D.toInt, 150, U.toInt] := E1
  have a1 := aH_add (q := (1, 0, 54)) (b := .inl (5, 0)) (a := 128) (k := 54) (v := .int U) (aH_nil (ρ' := [0, 128, x.toInt, D.toInt, 150, U.toInt]) hH) (qden (k := 54) (c := 128) (r := 1) hE (by decide) rfl) (by decide +kernel) (by decide +kernel) (by rw [qrdx (qG_real (by decide +kernel) (by decide +kernel))]; exact u1) ⟨U, ⟨U.toInt, rfl, i32i.symm⟩, rfl⟩
  have a2 := aH_add (q := (4, 0, 0)) (b := .inl (3, 0)) (a := 150) (k := 0) (v := .int D) a1 (qden (k := 0) (c := 150) (r := 4) hE (by decide) rfl) (by decide +kernel) (by decide +kernel) (by rw [qrdx (qG_off (by decide) (by decide))]; exact d1) ⟨D, ⟨D.toInt, rfl, i32i.symm⟩, rfl⟩
  have a3 := aH_add (q := (1, 0, 37)) (b := .inr (.inr (.inl 4))) (a := 128) (k := 37) (v := .ref 150) a2 (qden (k := 37) (c := 128) (r := 1) hE (by decide) rfl) (by decide +kernel) (by decide +kernel) (by rw [qrdx (qG_real (by decide +kernel) (by decide +kernel))]; exact r37) ⟨150, rfl, rfl⟩
  have hcal := acals_dp (h0 := h) (D := grD) (ms0 := (0, [])) (ρ0 := [0, 128, x.toInt, D.toInt, 150, U.toInt]) hX qGok qL (fun t ht => by cases ht) hK (Kn := qK0) (fun mi q hq => by cases hq) 6
  have hck := grck_ok
  unfold grck at hck
  rw [yR228] at hck
  dsimp only at hck
  split at hck
  · next ho =>
    have hst : aSt [0, 128, x.toInt, D.toInt, 150, U.toInt] [.inr (.inr (.inl 1)), .inl (2, 0)] [.ref 128, .int x] := ⟨_, _, rfl, ⟨128, rfl, rfl⟩, _, _, rfl, ⟨x, ⟨x.toInt, rfl, i32i.symm⟩, rfl⟩, rfl⟩
    obtain ⟨k, pc', S', ρ', cl', cst', k', e1, e2, -, e3, e4⟩ := arun_gq (ini := false) (Q := aext [0, 128, x.toInt, D.toInt, 150, U.toInt]) hX qGok qL (fun _ _ a b => a.trans b) hcal 300 true 0 grS _ (lv_args 0 [.ref 128, .int x]) [] h ho aext.rf ⟨hE, fun p hp => (aloc_ok _ _ 0 hst p hp).2, rfl, a3, aF.rf⟩
    obtain ⟨N1, hr⟩ := hr.after e1
    obtain ⟨gE, gL, gS, gH, gF⟩ := e4
    unfold grn at e2
    rw [Bool.and_eq_true, Bool.or_eq_true] at e2
    have hH1 := kill_nil gE gH e2.1
    have hkp : KP grD h k' := KP_of gF
    have k4 : gi k' 150 0 = gi h 150 0 := gi_rd (hkp.pl (by decide +kernel) (by decide +kernel))
    have k5 : gi k' 151 0 = gi h 151 0 := gi_rd (hkp.pl (by decide +kernel) (by decide +kernel))
    have s2 : ρ'[2]? = some x.toInt := e3.get rfl
    have s3 : ρ'[3]? = some D.toInt := e3.get rfl
    have s1 : ρ'[1]? = some ((128 : Nat) : Int) := e3.get rfl
    have s5 : ρ'[5]? = some U.toInt := e3.get rfl
    have s0 : ρ'[0]? = some 0 := gE.2.1
    have iv : ∀ (j : Nat) (z l u : Int), ρ'[j]? = some z → S'.1[j]? = some (0, l, u) → l ≤ z ∧ z ≤ u := fun j z l u h1 h2 => gE.2.2 j (0, l, u) z h2 h1
    have o128 : ∀ g : zH, qG 128 54 g = none := fun _ => qG_real (by decide +kernel) (by decide +kernel)
    rcases e2.2 with q | q
    · rw [Bool.and_eq_true, Bool.and_eq_true, Bool.and_eq_true] at q
      obtain ⟨q1, q2, q3, q4⟩ := q
      have ep := Nat.eq_of_beq_eq_true q1
      subst ep
      have hc : cst' = [.int (-1)] := by
        unfold gst24 at q3
        split at q3
        · next dd hs0 =>
          rw [hs0] at gS
          obtain ⟨b, bs, rfl, ⟨z, ⟨w, w1, w2⟩, rfl⟩, hbs⟩ := gS
          rw [s0] at w1
          cases w1
          rw [show bs = [] from hbs, w2, ieq_ok q3]
          rfl
        · cases q3
      subst hc
      obtain ⟨rfl, rfl⟩ := hr.ret (v := some (.int (-1))) t228_28.1 zri
      refine Or.inl ⟨?_, rfl, k4, k5, ?_⟩
      · unfold gbad at q2
        split at q2
        · next l u l2 u2 t2 t3 =>
          have b2 := iv 2 _ _ _ s2 t2
          have b3 := iv 3 _ _ _ s3 t3
          rw [Bool.or_eq_true, Bool.or_eq_true] at q2
          rw [d2]
          rcases q2 with z | z | z
          · have := ile_iff.mp z; exact Or.inl (by omega)
          · have := ile_iff.mp z; exact Or.inr (Or.inl (by omega))
          · have := ile_iff.mp z; exact Or.inr (Or.inr (by omega))
        · cases q2
      · unfold gsame at q4
        split at q4
        · next z dd hz =>
          rw [Bool.and_eq_true] at q4
          rw [Nat.eq_of_beq_eq_true q4.1, ieq_ok q4.2] at hz
          rw [mg_int (k := 54) (s := 5) (d := 0) gE gH (by decide) s1 o128 hz s5, u2]
          exact i32i
        · cases q4
    · rw [Bool.and_eq_true, Bool.and_eq_true, Bool.and_eq_true, Bool.and_eq_true, Bool.and_eq_true, Bool.and_eq_true] at q
      obtain ⟨q1, q2, q3, q4, q5, q6, q7⟩ := q
      have ep := Nat.eq_of_beq_eq_true q1
      subst ep
      have hb : 0 ≤ x.toInt ∧ x.toInt ≤ 99 ∧ D.toInt ≤ 900 := by
        unfold ggood at q2
        split at q2
        · next l u l2 u2 t2 t3 =>
          have b2 := iv 2 _ _ _ s2 t2
          have b3 := iv 3 _ _ _ s3 t3
          rw [Bool.and_eq_true, Bool.and_eq_true] at q2
          have z1 := ile_iff.mp q2.1
          have z2 := ile_iff.mp q2.2.1
          have z3 := ile_iff.mp q2.2.2
          omega
        · cases q2
      have hc : cst' = [] := by
        rw [anil_nq q3] at gS
        exact gS
      subst hc
      obtain ⟨n, hxn⟩ : ∃ n : Nat, n = x.toNatClampNeg := ⟨_, rfl⟩
      have hx : x = Int32.ofNat n := by rw [hxn]; exact xn_of hb.1
      have hn : n ≤ 99 := by rw [hxn, Int32.toNatClampNeg]; omega
      have w3 : rd k' 128 3 = some (.ref 130) := by rw [hkp.pl (by decide +kernel) (by decide +kernel)]; exact r3
      have w37 : rd k' 128 37 = some (.ref 150) := by rw [hkp.pl (by decide +kernel) (by decide +kernel)]; exact r37
      have w38 : rd k' 128 38 = some (.ref 151) := by rw [hkp.pl (by decide +kernel) (by decide +kernel)]; exact r38
      have wL : gi k' 130 0 = gi h 130 0 := gi_rd (hkp.pl (by decide +kernel) (by decide +kernel))
      obtain ⟨v0, v1, v2⟩ := gloc_ok q5 gL
      obtain ⟨m0, m1, rfl⟩ := (show ∃ n : Nat, ρ'[1]? = some (n : Int) ∧ v0 = .ref n from v2)
      rw [s1] at m1
      injection m1 with m1
      have m00 : m0 = 128 := by omega
      subst m00
      obtain ⟨v3, v4, v5⟩ := gloc_ok q6 gL
      obtain ⟨y, ⟨z, z1, z2⟩, rfl⟩ := (show ∃ y : Int32, ai ρ' 2 0 y ∧ v3 = .int y from v5)
      rw [s2] at z1
      cases z1
      rw [z2, i32i, hx] at v4
      obtain ⟨v6, v7, v8⟩ := gloc_ok q7 gL
      obtain ⟨y2, ⟨z3, z4, z5⟩, rfl⟩ := (show ∃ y : Int32, ai ρ' 0 0 y ∧ v6 = .int y from v8)
      rw [s0] at z4
      cases z4
      rw [z5] at v7
      obtain ⟨f1, f3, f5⟩ := lp_R hn N1 0 cl' k' hH1 w3 w37 w38 (Nat.zero_le _) v1 v4 v7 hr
      refine Or.inr ⟨n, hn, hx, by rw [d2]; exact hb.2.2, f1, ?_, ?_⟩
      · rw [f5, wL, k4, k5, Nat.sub_zero]
      · rw [gi_rd (f3.pl (by decide +kernel) (by decide +kernel))]
        unfold gun at q4
        split at q4
        · next l u z dd t2 hz =>
          have b2 := iv 2 _ _ _ s2 t2
          rw [Bool.or_eq_true, Bool.and_eq_true, Bool.and_eq_true, Bool.and_eq_true, Bool.and_eq_true] at q4
          have qn : x.toInt = (n : Int) := by rw [hx]; exact xn_int (by omega)
          rcases q4 with ⟨z1, z2, z3⟩ | ⟨z1, z2, z3⟩
          · have := ile_iff.mp z1
            rw [if_pos (by omega)]
            rw [Nat.eq_of_beq_eq_true z2, ieq_ok z3] at hz
            rw [mg_int (k := 54) (s := 5) (d := 0) gE gH (by decide) s1 o128 hz s5, u2]
            exact i32i
          · have := ile_iff.mp z1
            rw [if_neg (by omega)]
            rw [Nat.eq_of_beq_eq_true z2, ieq_ok z3] at hz
            rw [mg_int (k := 54) (s := 0) (d := 0) gE gH (by decide) s1 o128 hz s0]
            rfl
        · cases q4
  · cases hck
