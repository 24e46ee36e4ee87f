/-! The class: ears, seat, tell, undo (by program: wip/x/gV6.py). -/
theorem rdV_ok {x : Int32} {R : Nat} (hR : R ≤ 6) (h : ¬ rdV x (Int32.ofNat R) = 0) : ∃ p : Nat, p < R ∧ x = Int32.ofNat p := by
  have qR : (Int32.ofNat R).toInt = (R : Int) := xn_int (by omega)
  unfold rdV at h
  by_cases h1 : x.toInt < 0
  · rw [if_pos h1] at h; exact absurd rfl h
  · rw [if_neg h1] at h
    by_cases h2 : (Int32.ofNat R).toInt ≤ x.toInt
    · rw [if_pos h2] at h; exact absurd rfl h
    · exact ⟨x.toNatClampNeg, by rw [Int32.toNatClampNeg]; omega, xn_of (by omega)⟩
theorem rdV_1 {p R : Nat} (hp : p < R) (hR : R ≤ 6) : rdV (Int32.ofNat p) (Int32.ofNat R) = 1 := by
  have qR : (Int32.ofNat R).toInt = (R : Int) := xn_int (by omega)
  have qp : (Int32.ofNat p).toInt = (p : Int) := xn_int (by omega)
  unfold rdV
  rw [if_neg (by omega), if_neg (by omega)]
theorem mlV_ok {y : Int32} (h : ¬ mlV y = 0) : ∃ v : Nat, v ≤ 60 ∧ y = Int32.ofNat v := by
  unfold mlV at h
  by_cases h1 : y.toInt < 0
  · rw [if_pos h1] at h; exact absurd rfl h
  · rw [if_neg h1] at h
    by_cases h2 : 60 < y.toInt
    · rw [if_pos h2] at h; exact absurd rfl h
    · exact ⟨y.toNatClampNeg, by rw [Int32.toNatClampNeg]; omega, xn_of (by omega)⟩
def EAC (x y : Int32) (R n : Nat) (m : xM) (r : Option Value) (m' : xM) : Prop := (rdV x (Int32.ofNat R) = 0 ∧ r = some (.int 0) ∧ m' = m) ∨ ∃ p : Nat, p < R ∧ x = Int32.ofNat p ∧ ((m (55 + 3 + 2 * p) 4 = y ∧ r = some (.int 0) ∧ m' = m) ∨ (¬ m (55 + 3 + 2 * p) 4 = y ∧ r = some (.int 1) ∧ PSH n 1 (Int32.ofNat p) (if y = 0 then 1 else 0) (xu m (55 + 3 + 2 * p) 4 y) m'))
def SEC (x y : Int32) (R n : Nat) (m : xM) (r : Option Value) (m' : xM) : Prop := ((rdV x (Int32.ofNat R) = 0 ∨ y.toInt < 0 ∨ 9 < y.toInt) ∧ r = some (.int 0) ∧ m' = m) ∨ ∃ p : Nat, p < R ∧ x = Int32.ofNat p ∧ 0 ≤ y.toInt ∧ y.toInt ≤ 9 ∧ ((m (55 + 3 + 2 * p) 2 = y ∧ r = some (.int 0) ∧ m' = m) ∨ (¬ m (55 + 3 + 2 * p) 2 = y ∧ r = some (.int 1) ∧ ∃ m1 : xM, PSH n 2 (Int32.ofNat p) (m (55 + 3 + 2 * p) 2) m m1 ∧ m' = xu m1 (55 + 3 + 2 * p) 2 y))
def TEC (x y z : Int32) (J n : Nat) (m : xM) (g : xL) (r : Option Value) (m' : xM) (g' : xL) : Prop := ((rdV x (Int32.ofNat J) = 0 ∨ mlV y = 0) ∧ r = some (.int 0) ∧ m' = m ∧ g' = g) ∨ ∃ j : Nat, j < J ∧ x = Int32.ofNat j ∧ ∃ v : Nat, v ≤ 60 ∧ y = Int32.ofNat v ∧ ((bI (bl (g 57 j) v) = z ∧ r = some (.int 0) ∧ m' = m ∧ g' = g) ∨ (¬ bI (bl (g 57 j) v) = z ∧ r = some (.int 1) ∧ PSH n 3 (Int32.ofNat j) (Int32.ofNat v) m m' ∧ g' = xu g 57 j (stB z (Int32.ofNat v) (g 57 j))))
theorem ct_earsC {nf : Bool} {xs : List Int32} {d : Nat} {m : xM} {g : xL} {G : xG} {x y : Int32} {R n : Nat} (h7 : G.1 0 7 = some 55) (h13 : G.1 0 13 = some 116) (hA : GQ G 55) (hU : GU G) (h3 : m 55 3 = Int32.ofNat R) (hR : R ≤ 6) (hn : n ≤ 20) (hu : m 116 3 = Int32.ofNat n) : CT nf xs d 114 [.ref 0, .int x, .int y] m g G (fun r m' g' => g' = g ∧ EAC x y R n m r m') := by
  refine CT.of (c := 10) (ini := false) (nL := 3) (rt := some .boolean) (tab := zt114) rfl (fun d' r h' N hd hr => ?_)
  replace hr : RR nf xs d' 10 false 3 (some .boolean) zt114 G r h' N (0, [(0, .ref 0), (1, .int x), (2, .int y)], [], m, g) := hr
  have k1 : (1 : Int32).toInt = 1 := rfl
  replace hr := hr.go (s_aload_n t114_0 rfl)
  replace hr := hr.go (s_iload_n t114_1 rfl)
  replace hr := hr.cvI t114_2 rfl rfl (ct_isRiderC h7)
  rw [h3] at hr
  rcases hr.zEq t114_5 with ⟨b5, hr⟩ | ⟨b5, hr⟩
  · replace hr := hr.go (s_k t114_24)
    obtain ⟨rfl, hs⟩ := hr.iret t114_25
    exact ⟨_, _, hs, rfl, Or.inl ⟨b5, rfl, rfl⟩⟩
  · obtain ⟨p, hp, rfl⟩ := rdV_ok hR b5
    replace hr := hr.go (s_aload_n t114_8 rfl)
    replace hr := hr.go (s_getr t114_9 (h7))
    replace hr := hr.go (s_getr t114_12 (hA.1))
    replace hr := hr.go (s_iload_n t114_15 rfl)
    replace hr := hr.go (s_aaload t114_16 (by rw [xn_nat (show p < 2147483648 by omega)]; exact (hA.2.2 p (by omega)).1))
    replace hr := hr.go (s_getf t114_17)
    replace hr := hr.go (s_iload_n t114_20 rfl)
    rcases hr.bNe t114_21 with ⟨b21, hr⟩ | ⟨b21, hr⟩
    · replace hr := hr.go (s_aload_n t114_26 rfl)
      replace hr := hr.go (s_getr t114_27 (h7))
      replace hr := hr.go (s_getr t114_30 (hA.1))
      replace hr := hr.go (s_iload_n t114_33 rfl)
      replace hr := hr.go (s_aaload t114_34 (by rw [xn_nat (show p < 2147483648 by omega)]; exact (hA.2.2 p (by omega)).1))
      replace hr := hr.go (s_iload_n t114_35 rfl)
      replace hr := hr.go (s_putf t114_36)
      replace hr := hr.go (s_aload_n t114_39 rfl)
      replace hr := hr.go (s_getr t114_40 (h13))
      replace hr := hr.go (s_k t114_43)
      replace hr := hr.go (s_iload_n t114_44 rfl)
      replace hr := hr.go (s_iload_n t114_45 rfl)
      rcases hr.zEq t114_46 with ⟨b46, hr⟩ | ⟨b46, hr⟩
      · replace hr := hr.go (s_k t114_53)
        obtain ⟨m1, hq, hr⟩ := hr.fvN t114_54 rfl rfl (ct_push (n := n) (kd := 1) (w := Int32.ofNat p) (v := 1) hU hn (by rw [xu_row (by omega)]; exact hu))
        skip
        replace hr := hr.go (s_k t114_57)
        obtain ⟨rfl, hs⟩ := hr.iret t114_58
        exact ⟨_, _, hs, rfl, Or.inr ⟨p, hp, rfl, Or.inr ⟨b21, rfl, by rw [if_pos b46]; exact hq⟩⟩⟩
      · replace hr := hr.go (s_k t114_49)
        replace hr := hr.go (s_goto t114_50)
        obtain ⟨m1, hq, hr⟩ := hr.fvN t114_54 rfl rfl (ct_push (n := n) (kd := 1) (w := Int32.ofNat p) (v := 0) hU hn (by rw [xu_row (by omega)]; exact hu))
        skip
        replace hr := hr.go (s_k t114_57)
        obtain ⟨rfl, hs⟩ := hr.iret t114_58
        exact ⟨_, _, hs, rfl, Or.inr ⟨p, hp, rfl, Or.inr ⟨b21, rfl, by rw [if_neg b46]; exact hq⟩⟩⟩
    · replace hr := hr.go (s_k t114_24)
      obtain ⟨rfl, hs⟩ := hr.iret t114_25
      exact ⟨_, _, hs, rfl, Or.inr ⟨p, hp, rfl, Or.inl ⟨b21, rfl, rfl⟩⟩⟩
theorem ct_seatC {nf : Bool} {xs : List Int32} {d : Nat} {m : xM} {g : xL} {G : xG} {x y : Int32} {R n : Nat} (h7 : G.1 0 7 = some 55) (h13 : G.1 0 13 = some 116) (hA : GQ G 55) (hU : GU G) (h3 : m 55 3 = Int32.ofNat R) (hR : R ≤ 6) (hn : n ≤ 20) (hu : m 116 3 = Int32.ofNat n) : CT nf xs d 115 [.ref 0, .int x, .int y] m g G (fun r m' g' => g' = g ∧ SEC x y R n m r m') := by
  refine CT.of (c := 10) (ini := false) (nL := 4) (rt := some .boolean) (tab := zt115) rfl (fun d' r h' N hd hr => ?_)
  replace hr : RR nf xs d' 10 false 4 (some .boolean) zt115 G r h' N (0, [(0, .ref 0), (1, .int x), (2, .int y)], [], m, g) := hr
  have k1 : (1 : Int32).toInt = 1 := rfl
  have k2 : (2 : Int32).toInt = 2 := rfl
  have k9 : (9 : Int32).toInt = 9 := rfl
  replace hr := hr.go (s_aload_n t115_0 rfl)
  replace hr := hr.go (s_iload_n t115_1 rfl)
  replace hr := hr.cvI t115_2 rfl rfl (ct_isRiderC h7)
  rw [h3] at hr
  rcases hr.zEq t115_5 with ⟨b5, hr⟩ | ⟨b5, hr⟩
  · replace hr := hr.go (s_k t115_18)
    obtain ⟨rfl, hs⟩ := hr.iret t115_19
    exact ⟨_, _, hs, rfl, Or.inl ⟨Or.inl b5, rfl, rfl⟩⟩
  · replace hr := hr.go (s_iload_n t115_8 rfl)
    rcases hr.zLt t115_9 with ⟨b9, hr⟩ | ⟨b9, hr⟩
    · replace hr := hr.go (s_k t115_18)
      obtain ⟨rfl, hs⟩ := hr.iret t115_19
      exact ⟨_, _, hs, rfl, Or.inl ⟨Or.inr (Or.inl b9), rfl, rfl⟩⟩
    · replace hr := hr.go (s_iload_n t115_12 rfl)
      replace hr := hr.go (s_k t115_13)
      rcases hr.bLe t115_15 with ⟨b15, hr⟩ | ⟨b15, hr⟩
      · obtain ⟨p, hp, rfl⟩ := rdV_ok hR b5
        replace hr := hr.go (s_aload_n t115_20 rfl)
        replace hr := hr.go (s_getr t115_21 (h7))
        replace hr := hr.go (s_getr t115_24 (hA.1))
        replace hr := hr.go (s_iload_n t115_27 rfl)
        replace hr := hr.go (s_aaload t115_28 (by rw [xn_nat (show p < 2147483648 by omega)]; exact (hA.2.2 p (by omega)).1))
        replace hr := hr.go (s_astore_n (ls' := [(3, _), (0, _), (1, _), (2, _)]) t115_29 rfl)
        replace hr := hr.go (s_aload_n t115_30 rfl)
        replace hr := hr.go (s_getf t115_31)
        replace hr := hr.go (s_iload_n t115_34 rfl)
        rcases hr.bNe t115_35 with ⟨b35, hr⟩ | ⟨b35, hr⟩
        · replace hr := hr.go (s_aload_n t115_40 rfl)
          replace hr := hr.go (s_getr t115_41 (h13))
          replace hr := hr.go (s_k t115_44)
          replace hr := hr.go (s_iload_n t115_45 rfl)
          replace hr := hr.go (s_aload_n t115_46 rfl)
          replace hr := hr.go (s_getf t115_47)
          obtain ⟨m1, hq, hr⟩ := hr.fvN t115_50 rfl rfl (ct_push (n := n) (kd := 2) (w := Int32.ofNat p) (v := m (55 + 3 + 2 * p) 2) hU hn (hu))
          skip
          replace hr := hr.go (s_aload_n t115_53 rfl)
          replace hr := hr.go (s_iload_n t115_54 rfl)
          replace hr := hr.go (s_putf t115_55)
          replace hr := hr.go (s_k t115_58)
          obtain ⟨rfl, hs⟩ := hr.iret t115_59
          exact ⟨_, _, hs, rfl, Or.inr ⟨p, hp, rfl, b9, by omega, Or.inr ⟨b35, rfl, m1, hq, rfl⟩⟩⟩
        · replace hr := hr.go (s_k t115_38)
          obtain ⟨rfl, hs⟩ := hr.iret t115_39
          exact ⟨_, _, hs, rfl, Or.inr ⟨p, hp, rfl, b9, by omega, Or.inl ⟨b35, rfl, rfl⟩⟩⟩
      · replace hr := hr.go (s_k t115_18)
        obtain ⟨rfl, hs⟩ := hr.iret t115_19
        exact ⟨_, _, hs, rfl, Or.inl ⟨Or.inr (Or.inr (by omega)), rfl, rfl⟩⟩
theorem ct_tellC {nf : Bool} {xs : List Int32} {d : Nat} {m : xM} {g : xL} {G : xG} {P : Nat} {x y z : Int32} {J n : Nat} (h7 : G.1 0 7 = some 55) (h13 : G.1 0 13 = some 116) (h5 : G.1 0 5 = some P) (h2 : G.1 P 2 = some (P + 5)) (hA : GQ G 55) (hU : GU G) (h3 : m (P + 5) 3 = Int32.ofNat J) (hJ : J ≤ 6) (hn : n ≤ 20) (hu : m 116 3 = Int32.ofNat n) : CT nf xs d 116 [.ref 0, .int x, .int y, .int z] m g G (fun r m' g' => TEC x y z J n m g r m' g') := by
  refine CT.of (c := 10) (ini := false) (nL := 4) (rt := some .boolean) (tab := zt116) rfl (fun d' r h' N hd hr => ?_)
  replace hr : RR nf xs d' 10 false 4 (some .boolean) zt116 G r h' N (0, [(0, .ref 0), (1, .int x), (2, .int y), (3, .int z)], [], m, g) := hr
  have k1 : (1 : Int32).toInt = 1 := rfl
  have k3 : (3 : Int32).toInt = 3 := rfl
  replace hr := hr.go (s_aload_n t116_0 rfl)
  replace hr := hr.go (s_iload_n t116_1 rfl)
  replace hr := hr.cvI t116_2 rfl rfl (ct_isJokeC h5 h2)
  rw [h3] at hr
  rcases hr.zEq t116_5 with ⟨b5, hr⟩ | ⟨b5, hr⟩
  · replace hr := hr.go (s_k t116_28)
    obtain ⟨rfl, hs⟩ := hr.iret t116_29
    exact ⟨_, _, hs, Or.inl ⟨Or.inl b5, rfl, rfl, rfl⟩⟩
  · replace hr := hr.go (s_iload_n t116_8 rfl)
    replace hr := hr.csI t116_9 rfl rfl (ct_isMileC)
    rcases hr.zEq t116_12 with ⟨b12, hr⟩ | ⟨b12, hr⟩
    · replace hr := hr.go (s_k t116_28)
      obtain ⟨rfl, hs⟩ := hr.iret t116_29
      exact ⟨_, _, hs, Or.inl ⟨Or.inr b12, rfl, rfl, rfl⟩⟩
    · obtain ⟨j, hj, rfl⟩ := rdV_ok hJ b5
      obtain ⟨v, hv, rfl⟩ := mlV_ok b12
      replace hr := hr.go (s_aload_n t116_15 rfl)
      replace hr := hr.go (s_getr t116_16 (h7))
      replace hr := hr.go (s_iload_n t116_19 rfl)
      replace hr := hr.go (s_iload_n t116_20 rfl)
      replace hr := hr.cvI t116_21 rfl rfl (ct_isToldR (a := 55) (j := j) (v := v) hA.2.1 (by omega) (by omega))
      replace hr := hr.go (s_iload_n t116_24 rfl)
      rcases hr.bNe t116_25 with ⟨b25, hr⟩ | ⟨b25, hr⟩
      · replace hr := hr.go (s_aload_n t116_30 rfl)
        replace hr := hr.go (s_getr t116_31 (h7))
        replace hr := hr.go (s_iload_n t116_34 rfl)
        replace hr := hr.go (s_iload_n t116_35 rfl)
        replace hr := hr.go (s_iload_n t116_36 rfl)
        replace hr := hr.cvN t116_37 rfl rfl (ct_setToldR (a := 55) (j := j) (y := Int32.ofNat v) (z := z) hA.2.1 (by omega))
        replace hr := hr.go (s_aload_n t116_40 rfl)
        replace hr := hr.go (s_getr t116_41 (h13))
        replace hr := hr.go (s_k t116_44)
        replace hr := hr.go (s_iload_n t116_45 rfl)
        replace hr := hr.go (s_iload_n t116_46 rfl)
        obtain ⟨m1, hq, hr⟩ := hr.fvN t116_47 rfl rfl (ct_push (n := n) (kd := 3) (w := Int32.ofNat j) (v := Int32.ofNat v) hU hn (hu))
        skip
        replace hr := hr.go (s_k t116_50)
        obtain ⟨rfl, hs⟩ := hr.iret t116_51
        exact ⟨_, _, hs, Or.inr ⟨j, hj, rfl, v, hv, rfl, Or.inr ⟨b25, rfl, hq, rfl⟩⟩⟩
      · replace hr := hr.go (s_k t116_28)
        obtain ⟨rfl, hs⟩ := hr.iret t116_29
        exact ⟨_, _, hs, Or.inr ⟨j, hj, rfl, v, hv, rfl, Or.inl ⟨b25, rfl, rfl, rfl⟩⟩⟩
theorem ct_undoC0 {nf : Bool} {xs : List Int32} {d : Nat} {m : xM} {g : xL} {G : xG} (h13 : G.1 0 13 = some 116) (hu : m 116 3 = 0) : CT nf xs d 117 [.ref 0] m g G (PE (some (.int (-1))) m g) := by
  refine CT.of (c := 10) (ini := false) (nL := 4) (rt := some .int) (tab := zt117) rfl (fun d' r h' N hd hr => ?_)
  replace hr : RR nf xs d' 10 false 4 (some .int) zt117 G r h' N (0, [(0, .ref 0)], [], m, g) := hr
  have km1 : (-1 : Int32).toInt = -1 := rfl
  have k1 : (1 : Int32).toInt = 1 := rfl
  have k2 : (2 : Int32).toInt = 2 := rfl
  have k3 : (3 : Int32).toInt = 3 := rfl
  replace hr := hr.go (s_aload_n t117_0 rfl)
  replace hr := hr.go (s_getr t117_1 (h13))
  replace hr := hr.cvI t117_4 rfl rfl (ct_pop0 hu)
  replace hr := hr.go (s_istore_n (ls' := [(1, _), (0, _)]) t117_7 rfl)
  replace hr := hr.go (s_aload_n t117_8 rfl)
  replace hr := hr.go (s_getr t117_9 (h13))
  replace hr := hr.go (s_getf t117_12)
  replace hr := hr.go (s_istore_n (ls' := [(2, _), (1, _), (0, _)]) t117_15 rfl)
  replace hr := hr.go (s_aload_n t117_16 rfl)
  replace hr := hr.go (s_getr t117_17 (h13))
  replace hr := hr.go (s_getf t117_20)
  replace hr := hr.go (s_istore_n (ls' := [(3, _), (2, _), (1, _), (0, _)]) t117_23 rfl)
  replace hr := hr.go (s_iload_n t117_24 rfl)
  replace hr := hr.bzF t117_25 (by decide)
  replace hr := hr.go (s_k t117_28)
  obtain ⟨rfl, hs⟩ := hr.iret t117_29
  exact ⟨_, _, hs, rfl, rfl, rfl⟩
theorem ct_undoC1 {nf : Bool} {xs : List Int32} {d : Nat} {m : xM} {g : xL} {G : xG} {p R : Nat} {n : Nat} (h7 : G.1 0 7 = some 55) (h13 : G.1 0 13 = some 116) (hA : GQ G 55) (hU : GU G) (hn : n < 20) (hu : m 116 3 = Int32.ofNat (n + 1)) (hk : m 117 n = 1) (hw : m 118 n = Int32.ofNat p) (h3 : m 55 3 = Int32.ofNat R) (hp : p < R) (hR : R ≤ 6) : CT nf xs d 117 [.ref 0] m g G (fun r m' g' => r = some (.int (Int32.ofNat n)) ∧ g' = g ∧ ∃ mp : xM, mp 116 3 = Int32.ofNat n ∧ (∀ c : Nat, ¬ c = 116 → mp c = m c) ∧ m' = xu mp (55 + 3 + 2 * p) 4 (if m 119 n = 1 then 1 else 0)) := by
  refine CT.of (c := 10) (ini := false) (nL := 4) (rt := some .int) (tab := zt117) rfl (fun d' r h' N hd hr => ?_)
  replace hr : RR nf xs d' 10 false 4 (some .int) zt117 G r h' N (0, [(0, .ref 0)], [], m, g) := hr
  have km1 : (-1 : Int32).toInt = -1 := rfl
  have k1 : (1 : Int32).toInt = 1 := rfl
  have k2 : (2 : Int32).toInt = 2 := rfl
  have k3 : (3 : Int32).toInt = 3 := rfl
  replace hr := hr.go (s_aload_n t117_0 rfl)
  replace hr := hr.go (s_getr t117_1 (h13))
  obtain ⟨mp, ⟨e3, e4, e5, eo⟩, hr⟩ := hr.fvI t117_4 rfl rfl (ct_pop (n := n) hU hn hu)
  rw [hk] at hr
  skip
  replace hr := hr.go (s_istore_n (ls' := [(1, _), (0, _)]) t117_7 rfl)
  replace hr := hr.go (s_aload_n t117_8 rfl)
  replace hr := hr.go (s_getr t117_9 (h13))
  replace hr := hr.go (s_getf t117_12)
  rw [e4, hw] at hr
  replace hr := hr.go (s_istore_n (ls' := [(2, _), (1, _), (0, _)]) t117_15 rfl)
  replace hr := hr.go (s_aload_n t117_16 rfl)
  replace hr := hr.go (s_getr t117_17 (h13))
  replace hr := hr.go (s_getf t117_20)
  rw [e5] at hr
  replace hr := hr.go (s_istore_n (ls' := [(3, _), (2, _), (1, _), (0, _)]) t117_23 rfl)
  replace hr := hr.go (s_iload_n t117_24 rfl)
  replace hr := hr.bzT t117_25 (by decide)
  have er : rdV (Int32.ofNat p) (mp 55 3) = 1 := by rw [eo 55 (by decide), h3]; exact rdV_1 hp hR
  replace hr := hr.go (s_iload_n t117_30 rfl)
  replace hr := hr.go (s_k t117_31)
  replace hr := hr.brT t117_32 (by decide)
  replace hr := hr.go (s_iload_n t117_72 rfl)
  replace hr := hr.go (s_k t117_73)
  replace hr := hr.brF t117_74 (by decide)
  replace hr := hr.go (s_aload_n t117_77 rfl)
  replace hr := hr.go (s_iload_n t117_78 rfl)
  replace hr := hr.cvI t117_79 rfl rfl (ct_isRiderC h7)
  rw [er] at hr
  rcases hr.zEq t117_82 with ⟨b82, hr⟩ | ⟨b82, hr⟩
  · exact absurd b82 (by decide)
  · replace hr := hr.go (s_aload_n t117_85 rfl)
    replace hr := hr.go (s_getr t117_86 (h7))
    replace hr := hr.go (s_getr t117_89 (hA.1))
    replace hr := hr.go (s_iload_n t117_92 rfl)
    replace hr := hr.go (s_aaload t117_93 (by rw [xn_nat (show p < 2147483648 by omega)]; exact (hA.2.2 p (by omega)).1))
    replace hr := hr.go (s_iload_n t117_94 rfl)
    replace hr := hr.go (s_k t117_95)
    rcases hr.bNe t117_96 with ⟨b96, hr⟩ | ⟨b96, hr⟩
    · replace hr := hr.go (s_k t117_103)
      replace hr := hr.go (s_putf t117_104)
      replace hr := hr.go (s_goto t117_107)
      replace hr := hr.go (s_aload_n t117_136 rfl)
      replace hr := hr.go (s_getr t117_137 (h13))
      replace hr := hr.go (s_getf t117_140)
      obtain ⟨rfl, hs⟩ := hr.iret t117_143
      exact ⟨_, _, hs, by rw [xu_row (by omega), e3], rfl, mp, e3, eo, by rw [if_neg b96]⟩
    · replace hr := hr.go (s_k t117_99)
      replace hr := hr.go (s_goto t117_100)
      replace hr := hr.go (s_putf t117_104)
      replace hr := hr.go (s_goto t117_107)
      replace hr := hr.go (s_aload_n t117_136 rfl)
      replace hr := hr.go (s_getr t117_137 (h13))
      replace hr := hr.go (s_getf t117_140)
      obtain ⟨rfl, hs⟩ := hr.iret t117_143
      exact ⟨_, _, hs, by rw [xu_row (by omega), e3], rfl, mp, e3, eo, by rw [if_pos b96]⟩
theorem ct_undoC2 {nf : Bool} {xs : List Int32} {d : Nat} {m : xM} {g : xL} {G : xG} {p R : Nat} {n : Nat} (h7 : G.1 0 7 = some 55) (h13 : G.1 0 13 = some 116) (hA : GQ G 55) (hU : GU G) (hn : n < 20) (hu : m 116 3 = Int32.ofNat (n + 1)) (hk : m 117 n = 2) (hw : m 118 n = Int32.ofNat p) (h3 : m 55 3 = Int32.ofNat R) (hp : p < R) (hR : R ≤ 6) : CT nf xs d 117 [.ref 0] m g G (fun r m' g' => r = some (.int (Int32.ofNat n)) ∧ g' = g ∧ ∃ mp : xM, mp 116 3 = Int32.ofNat n ∧ (∀ c : Nat, ¬ c = 116 → mp c = m c) ∧ m' = xu mp (55 + 3 + 2 * p) 2 (m 119 n)) := by
  refine CT.of (c := 10) (ini := false) (nL := 4) (rt := some .int) (tab := zt117) rfl (fun d' r h' N hd hr => ?_)
  replace hr : RR nf xs d' 10 false 4 (some .int) zt117 G r h' N (0, [(0, .ref 0)], [], m, g) := hr
  have km1 : (-1 : Int32).toInt = -1 := rfl
  have k1 : (1 : Int32).toInt = 1 := rfl
  have k2 : (2 : Int32).toInt = 2 := rfl
  have k3 : (3 : Int32).toInt = 3 := rfl
  replace hr := hr.go (s_aload_n t117_0 rfl)
  replace hr := hr.go (s_getr t117_1 (h13))
  obtain ⟨mp, ⟨e3, e4, e5, eo⟩, hr⟩ := hr.fvI t117_4 rfl rfl (ct_pop (n := n) hU hn hu)
  rw [hk] at hr
  skip
  replace hr := hr.go (s_istore_n (ls' := [(1, _), (0, _)]) t117_7 rfl)
  replace hr := hr.go (s_aload_n t117_8 rfl)
  replace hr := hr.go (s_getr t117_9 (h13))
  replace hr := hr.go (s_getf t117_12)
  rw [e4, hw] at hr
  replace hr := hr.go (s_istore_n (ls' := [(2, _), (1, _), (0, _)]) t117_15 rfl)
  replace hr := hr.go (s_aload_n t117_16 rfl)
  replace hr := hr.go (s_getr t117_17 (h13))
  replace hr := hr.go (s_getf t117_20)
  rw [e5] at hr
  replace hr := hr.go (s_istore_n (ls' := [(3, _), (2, _), (1, _), (0, _)]) t117_23 rfl)
  replace hr := hr.go (s_iload_n t117_24 rfl)
  replace hr := hr.bzT t117_25 (by decide)
  have er : rdV (Int32.ofNat p) (mp 55 3) = 1 := by rw [eo 55 (by decide), h3]; exact rdV_1 hp hR
  replace hr := hr.go (s_iload_n t117_30 rfl)
  replace hr := hr.go (s_k t117_31)
  replace hr := hr.brT t117_32 (by decide)
  replace hr := hr.go (s_iload_n t117_72 rfl)
  replace hr := hr.go (s_k t117_73)
  replace hr := hr.brT t117_74 (by decide)
  replace hr := hr.go (s_iload_n t117_110 rfl)
  replace hr := hr.go (s_k t117_111)
  replace hr := hr.brF t117_112 (by decide)
  replace hr := hr.go (s_aload_n t117_115 rfl)
  replace hr := hr.go (s_iload_n t117_116 rfl)
  replace hr := hr.cvI t117_117 rfl rfl (ct_isRiderC h7)
  rw [er] at hr
  rcases hr.zEq t117_120 with ⟨b120, hr⟩ | ⟨b120, hr⟩
  · exact absurd b120 (by decide)
  · replace hr := hr.go (s_aload_n t117_123 rfl)
    replace hr := hr.go (s_getr t117_124 (h7))
    replace hr := hr.go (s_getr t117_127 (hA.1))
    replace hr := hr.go (s_iload_n t117_130 rfl)
    replace hr := hr.go (s_aaload t117_131 (by rw [xn_nat (show p < 2147483648 by omega)]; exact (hA.2.2 p (by omega)).1))
    replace hr := hr.go (s_iload_n t117_132 rfl)
    replace hr := hr.go (s_putf t117_133)
    replace hr := hr.go (s_aload_n t117_136 rfl)
    replace hr := hr.go (s_getr t117_137 (h13))
    replace hr := hr.go (s_getf t117_140)
    obtain ⟨rfl, hs⟩ := hr.iret t117_143
    exact ⟨_, _, hs, by rw [xu_row (by omega), e3], rfl, mp, e3, eo, rfl⟩
theorem ct_undoC3 {nf : Bool} {xs : List Int32} {d : Nat} {m : xM} {g : xL} {G : xG} {P j v J : Nat} {n : Nat} (h7 : G.1 0 7 = some 55) (h13 : G.1 0 13 = some 116) (hA : GQ G 55) (hU : GU G) (hn : n < 20) (hu : m 116 3 = Int32.ofNat (n + 1)) (hk : m 117 n = 3) (h5 : G.1 0 5 = some P) (h2 : G.1 P 2 = some (P + 5)) (hP : P ≤ 31) (hw : m 118 n = Int32.ofNat j) (hv0 : m 119 n = Int32.ofNat v) (h3 : m (P + 5) 3 = Int32.ofNat J) (hj : j < J) (hJ : J ≤ 6) (hv : v ≤ 60) : CT nf xs d 117 [.ref 0] m g G (fun r m' g' => r = some (.int (Int32.ofNat n)) ∧ g' = xu g 57 j (flB (Int32.ofNat v) (g 57 j)) ∧ m' 116 3 = Int32.ofNat n ∧ ∀ c : Nat, ¬ c = 116 → m' c = m c) := by
  refine CT.of (c := 10) (ini := false) (nL := 4) (rt := some .int) (tab := zt117) rfl (fun d' r h' N hd hr => ?_)
  replace hr : RR nf xs d' 10 false 4 (some .int) zt117 G r h' N (0, [(0, .ref 0)], [], m, g) := hr
  have km1 : (-1 : Int32).toInt = -1 := rfl
  have k1 : (1 : Int32).toInt = 1 := rfl
  have k2 : (2 : Int32).toInt = 2 := rfl
  have k3 : (3 : Int32).toInt = 3 := rfl
  replace hr := hr.go (s_aload_n t117_0 rfl)
  replace hr := hr.go (s_getr t117_1 (h13))
  obtain ⟨mp, ⟨e3, e4, e5, eo⟩, hr⟩ := hr.fvI t117_4 rfl rfl (ct_pop (n := n) hU hn hu)
  rw [hk] at hr
  skip
  replace hr := hr.go (s_istore_n (ls' := [(1, _), (0, _)]) t117_7 rfl)
  replace hr := hr.go (s_aload_n t117_8 rfl)
  replace hr := hr.go (s_getr t117_9 (h13))
  replace hr := hr.go (s_getf t117_12)
  rw [e4, hw] at hr
  replace hr := hr.go (s_istore_n (ls' := [(2, _), (1, _), (0, _)]) t117_15 rfl)
  replace hr := hr.go (s_aload_n t117_16 rfl)
  replace hr := hr.go (s_getr t117_17 (h13))
  replace hr := hr.go (s_getf t117_20)
  rw [e5, hv0] at hr
  replace hr := hr.go (s_istore_n (ls' := [(3, _), (2, _), (1, _), (0, _)]) t117_23 rfl)
  replace hr := hr.go (s_iload_n t117_24 rfl)
  replace hr := hr.bzT t117_25 (by decide)
  have er : rdV (Int32.ofNat j) (mp (P + 5) 3) = 1 := by rw [eo (P + 5) (by omega), h3]; exact rdV_1 hj hJ
  replace hr := hr.go (s_iload_n t117_30 rfl)
  replace hr := hr.go (s_k t117_31)
  replace hr := hr.brF t117_32 (by decide)
  replace hr := hr.go (s_aload_n t117_35 rfl)
  replace hr := hr.go (s_iload_n t117_36 rfl)
  replace hr := hr.cvI t117_37 rfl rfl (ct_isJokeC h5 h2)
  rw [er] at hr
  rcases hr.zEq t117_40 with ⟨b40, hr⟩ | ⟨b40, hr⟩
  · exact absurd b40 (by decide)
  · replace hr := hr.go (s_aload_n t117_43 rfl)
    replace hr := hr.go (s_getr t117_44 (h7))
    replace hr := hr.go (s_iload_n t117_47 rfl)
    replace hr := hr.go (s_iload_n t117_48 rfl)
    replace hr := hr.go (s_aload_n t117_49 rfl)
    replace hr := hr.go (s_getr t117_50 (h7))
    replace hr := hr.go (s_iload_n t117_53 rfl)
    replace hr := hr.go (s_iload_n t117_54 rfl)
    replace hr := hr.cvI t117_55 rfl rfl (ct_isToldR (a := 55) (j := j) (v := v) hA.2.1 (by omega) (by omega))
    rcases hr.zNe t117_58 with ⟨b58, hr⟩ | ⟨b58, hr⟩
    · replace hr := hr.go (s_k t117_65)
      replace hr := hr.cvN t117_66 rfl rfl (ct_setToldR (a := 55) (j := j) (y := Int32.ofNat v) hA.2.1 (by omega))
      replace hr := hr.go (s_goto t117_69)
      replace hr := hr.go (s_aload_n t117_136 rfl)
      replace hr := hr.go (s_getr t117_137 (h13))
      replace hr := hr.go (s_getf t117_140)
      obtain ⟨rfl, hs⟩ := hr.iret t117_143
      refine ⟨_, _, hs, by rw [e3], ?_, e3, eo⟩
      rw [st_fl (by omega)]
      intro q
      have h1 := q.mp (bI_1 b58)
      exact h1 rfl
    · replace hr := hr.go (s_k t117_61)
      replace hr := hr.go (s_goto t117_62)
      replace hr := hr.cvN t117_66 rfl rfl (ct_setToldR (a := 55) (j := j) (y := Int32.ofNat v) hA.2.1 (by omega))
      replace hr := hr.go (s_goto t117_69)
      replace hr := hr.go (s_aload_n t117_136 rfl)
      replace hr := hr.go (s_getr t117_137 (h13))
      replace hr := hr.go (s_getf t117_140)
      obtain ⟨rfl, hs⟩ := hr.iret t117_143
      refine ⟨_, _, hs, by rw [e3], ?_, e3, eo⟩
      rw [st_fl (by omega)]
      intro q
      have h1 := q.mpr (by decide)
      rw [h1] at b58
      exact absurd b58 (by decide)
