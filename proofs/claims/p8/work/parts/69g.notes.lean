/-! Riders, miles, notes, of both sides (by program: wip/x/gV2.py). -/
def rdV (x n : Int32) : Int32 := if x.toInt < 0 then 0 else if n.toInt ≤ x.toInt then 0 else 1
def mlV (y : Int32) : Int32 := if y.toInt < 0 then 0 else if 60 < y.toInt then 0 else 1
/-- a note: the answer, how many there are then -/
def ntV (x y n : Int32) (v : Nat) : Int32 := if rdV x n = 0 then -1 else if mlV y = 0 then -1 else if v = 24 then -1 else Int32.ofNat v
def ntN (x y n : Int32) (v : Nat) : Nat := if rdV x n = 0 then v else if mlV y = 0 then v else if v = 24 then v else v + 1
def stV (x : Int32) (v : Nat) : Int32 := if x.toInt < 0 then -1 else if (v : Int) ≤ x.toInt then -1 else if v = 24 then -1 else Int32.ofNat v
def stN (x : Int32) (v : Nat) : Nat := if x.toInt < 0 then v else if (v : Int) ≤ x.toInt then v else if v = 24 then v else v + 1
def knV (x : Int32) (v : Nat) : Int32 := if x.toInt < -1 then 0 else if (v : Int) < x.toInt then 0 else 1
theorem ct_isRiderC {nf : Bool} {xs : List Int32} {d : Nat} {m : xM} {g : xL} {G : xG} {x : Int32} (h7 : G.1 0 7 = some 55) : CT nf xs d 103 [.ref 0, .int x] m g G (PE (some (.int (rdV x (m 55 3)))) m g) := by
  refine CT.of (c := 10) (ini := false) (nL := 2) (rt := some .boolean) (tab := zt103) rfl (fun d' r h' N hd hr => ?_)
  replace hr : RR nf xs d' 10 false 2 (some .boolean) zt103 G r h' N (0, [(0, .ref 0), (1, .int x)], [], m, g) := hr
  have k1 : (1 : Int32).toInt = 1 := rfl
  replace hr := hr.go (s_iload_n t103_0 rfl)
  rcases hr.zLt t103_1 with ⟨b1, hr⟩ | ⟨b1, hr⟩
  · replace hr := hr.go (s_k t103_19)
    obtain ⟨rfl, hs⟩ := hr.iret t103_20
    exact ⟨_, _, hs, by unfold rdV; repeat (first | rw [if_pos (by omega)] | rw [if_neg (by omega)]), rfl, rfl⟩
  · replace hr := hr.go (s_iload_n t103_4 rfl)
    replace hr := hr.go (s_aload_n t103_5 rfl)
    replace hr := hr.go (s_getr t103_6 (h7))
    replace hr := hr.go (s_getf t103_9)
    rcases hr.bGe t103_12 with ⟨b12, hr⟩ | ⟨b12, hr⟩
    · replace hr := hr.go (s_k t103_19)
      obtain ⟨rfl, hs⟩ := hr.iret t103_20
      exact ⟨_, _, hs, by unfold rdV; repeat (first | rw [if_pos (by omega)] | rw [if_neg (by omega)]), rfl, rfl⟩
    · replace hr := hr.go (s_k t103_15)
      replace hr := hr.go (s_goto t103_16)
      obtain ⟨rfl, hs⟩ := hr.iret t103_20
      exact ⟨_, _, hs, by unfold rdV; repeat (first | rw [if_pos (by omega)] | rw [if_neg (by omega)]), rfl, rfl⟩
theorem ct_isMileC {nf : Bool} {xs : List Int32} {d : Nat} {m : xM} {g : xL} {G : xG} {x : Int32} : CT nf xs d 105 [.int x] m g G (PE (some (.int (mlV x))) m g) := by
  refine CT.of (c := 10) (ini := false) (nL := 1) (rt := some .boolean) (tab := zt105) rfl (fun d' r h' N hd hr => ?_)
  replace hr : RR nf xs d' 10 false 1 (some .boolean) zt105 G r h' N (0, [(0, .int x)], [], m, g) := hr
  have k1 : (1 : Int32).toInt = 1 := rfl
  have k60 : (60 : Int32).toInt = 60 := rfl
  replace hr := hr.go (s_iload_n t105_0 rfl)
  rcases hr.zLt t105_1 with ⟨b1, hr⟩ | ⟨b1, hr⟩
  · replace hr := hr.go (s_k t105_14)
    obtain ⟨rfl, hs⟩ := hr.iret t105_15
    exact ⟨_, _, hs, by unfold mlV; repeat (first | rw [if_pos (by omega)] | rw [if_neg (by omega)]), rfl, rfl⟩
  · replace hr := hr.go (s_iload_n t105_4 rfl)
    replace hr := hr.go (s_k t105_5)
    rcases hr.bGt t105_7 with ⟨b7, hr⟩ | ⟨b7, hr⟩
    · replace hr := hr.go (s_k t105_14)
      obtain ⟨rfl, hs⟩ := hr.iret t105_15
      exact ⟨_, _, hs, by unfold mlV; repeat (first | rw [if_pos (by omega)] | rw [if_neg (by omega)]), rfl, rfl⟩
    · replace hr := hr.go (s_k t105_10)
      replace hr := hr.go (s_goto t105_11)
      obtain ⟨rfl, hs⟩ := hr.iret t105_15
      exact ⟨_, _, hs, by unfold mlV; repeat (first | rw [if_pos (by omega)] | rw [if_neg (by omega)]), rfl, rfl⟩
theorem ct_isRiderR {nf : Bool} {xs : List Int32} {d : Nat} {m : xM} {g : xL} {G : xG} {x : Int32} (h3 : G.1 128 3 = some 130) (hl : G.2 130 = (0, 1, 18)) : CT nf xs d 191 [.ref 128, .int x] m g G (PE (some (.int (rdV x (m 130 1)))) m g) := by
  refine CT.of (c := 11) (ini := false) (nL := 2) (rt := some .boolean) (tab := zt191) rfl (fun d' r h' N hd hr => ?_)
  replace hr : RR nf xs d' 11 false 2 (some .boolean) zt191 G r h' N (0, [(0, .ref 128), (1, .int x)], [], m, g) := hr
  have k1 : (1 : Int32).toInt = 1 := rfl
  replace hr := hr.go (s_iload_n t191_0 rfl)
  rcases hr.zLt t191_1 with ⟨b1, hr⟩ | ⟨b1, hr⟩
  · replace hr := hr.go (s_k t191_18)
    obtain ⟨rfl, hs⟩ := hr.iret t191_19
    exact ⟨_, _, hs, by unfold rdV; repeat (first | rw [if_pos (by omega)] | rw [if_neg (by omega)]), rfl, rfl⟩
  · replace hr := hr.go (s_iload_n t191_4 rfl)
    replace hr := hr.go (s_aload_n t191_5 rfl)
    replace hr := hr.go (s_getr t191_6 (h3))
    replace hr := hr.go (s_k t191_9)
    replace hr := hr.go (s_iaload t191_10 (hl))
    replace hr : RR nf xs d' 11 false 2 (some .boolean) zt191 G r h' N (11, [(0, .ref 128), (1, .int x)], [.int (m 130 1), .int x], m, g) := hr
    rcases hr.bGe t191_11 with ⟨b11, hr⟩ | ⟨b11, hr⟩
    · replace hr := hr.go (s_k t191_18)
      obtain ⟨rfl, hs⟩ := hr.iret t191_19
      exact ⟨_, _, hs, by unfold rdV; repeat (first | rw [if_pos (by omega)] | rw [if_neg (by omega)]), rfl, rfl⟩
    · replace hr := hr.go (s_k t191_14)
      replace hr := hr.go (s_goto t191_15)
      obtain ⟨rfl, hs⟩ := hr.iret t191_19
      exact ⟨_, _, hs, by unfold rdV; repeat (first | rw [if_pos (by omega)] | rw [if_neg (by omega)]), rfl, rfl⟩
theorem ct_isMileR {nf : Bool} {xs : List Int32} {d : Nat} {m : xM} {g : xL} {G : xG} {x : Int32} : CT nf xs d 193 [.int x] m g G (PE (some (.int (mlV x))) m g) := by
  refine CT.of (c := 11) (ini := false) (nL := 1) (rt := some .boolean) (tab := zt193) rfl (fun d' r h' N hd hr => ?_)
  replace hr : RR nf xs d' 11 false 1 (some .boolean) zt193 G r h' N (0, [(0, .int x)], [], m, g) := hr
  have k1 : (1 : Int32).toInt = 1 := rfl
  have k60 : (60 : Int32).toInt = 60 := rfl
  replace hr := hr.go (s_iload_n t193_0 rfl)
  rcases hr.zLt t193_1 with ⟨b1, hr⟩ | ⟨b1, hr⟩
  · replace hr := hr.go (s_k t193_14)
    obtain ⟨rfl, hs⟩ := hr.iret t193_15
    exact ⟨_, _, hs, by unfold mlV; repeat (first | rw [if_pos (by omega)] | rw [if_neg (by omega)]), rfl, rfl⟩
  · replace hr := hr.go (s_iload_n t193_4 rfl)
    replace hr := hr.go (s_k t193_5)
    rcases hr.bGt t193_7 with ⟨b7, hr⟩ | ⟨b7, hr⟩
    · replace hr := hr.go (s_k t193_14)
      obtain ⟨rfl, hs⟩ := hr.iret t193_15
      exact ⟨_, _, hs, by unfold mlV; repeat (first | rw [if_pos (by omega)] | rw [if_neg (by omega)]), rfl, rfl⟩
    · replace hr := hr.go (s_k t193_10)
      replace hr := hr.go (s_goto t193_11)
      obtain ⟨rfl, hs⟩ := hr.iret t193_15
      exact ⟨_, _, hs, by unfold mlV; repeat (first | rw [if_pos (by omega)] | rw [if_neg (by omega)]), rfl, rfl⟩
theorem ct_nadd {nf : Bool} {xs : List Int32} {d : Nat} {m : xM} {g : xL} {G : xG} {x y z : Int32} {v : Nat} (h0 : G.1 120 0 = some 121) (h1 : G.1 120 1 = some 122) (h2 : G.1 120 2 = some 123) (h3 : G.1 120 3 = some 124) (h5 : m 120 5 = Int32.ofNat v) (hv : v ≤ 24) : CT nf xs d 12 [.ref 120, .int x, .int y, .int z] m g G (fun r m' _ => r = some (.int (if v = 24 then -1 else Int32.ofNat v)) ∧ m' 120 5 = Int32.ofNat (if v = 24 then v else v + 1)) := by
  refine CT.of (c := 1) (ini := false) (nL := 4) (rt := some .int) (tab := zt12) rfl (fun d' r h' N hd hr => ?_)
  replace hr : RR nf xs d' 1 false 4 (some .int) zt12 G r h' N (0, [(0, .ref 120), (1, .int x), (2, .int y), (3, .int z)], [], m, g) := hr
  have km1 : (-1 : Int32).toInt = -1 := rfl
  have k1 : (1 : Int32).toInt = 1 := rfl
  have k24 : (24 : Int32).toInt = 24 := rfl
  have qv : (Int32.ofNat v).toInt = (v : Int) := xn_int (by omega)
  replace hr := hr.go (s_aload_n t12_0 rfl)
  replace hr := hr.go (s_getf t12_1)
  rw [h5] at hr
  replace hr := hr.go (s_k t12_4)
  rcases hr.bLt t12_6 with ⟨b6, hr⟩ | ⟨b6, hr⟩
  · replace hr := hr.go (s_aload_n t12_11 rfl)
    replace hr := hr.go (s_getr t12_12 (h0))
    replace hr := hr.go (s_aload_n t12_15 rfl)
    replace hr := hr.go (s_getf t12_16)
    replace hr := hr.go (s_iload_n t12_19 rfl)
    replace hr := hr.go (s_iastore t12_20)
    replace hr := hr.go (s_aload_n t12_21 rfl)
    replace hr := hr.go (s_getr t12_22 (h1))
    replace hr := hr.go (s_aload_n t12_25 rfl)
    replace hr := hr.go (s_getf t12_26)
    replace hr := hr.go (s_iload_n t12_29 rfl)
    replace hr := hr.go (s_iastore t12_30)
    replace hr := hr.go (s_aload_n t12_31 rfl)
    replace hr := hr.go (s_getr t12_32 (h2))
    replace hr := hr.go (s_aload_n t12_35 rfl)
    replace hr := hr.go (s_getf t12_36)
    replace hr := hr.go (s_iload_n t12_39 rfl)
    replace hr := hr.go (s_bastore t12_40)
    replace hr := hr.go (s_aload_n t12_41 rfl)
    replace hr := hr.go (s_getr t12_42 (h3))
    replace hr := hr.go (s_aload_n t12_45 rfl)
    replace hr := hr.go (s_getf t12_46)
    replace hr := hr.go (s_k t12_49)
    replace hr := hr.go (s_iastore t12_50)
    replace hr := hr.go (s_aload_n t12_51 rfl)
    replace hr := hr.go (s_dup t12_52 rfl)
    replace hr := hr.go (s_getf t12_53)
    replace hr := hr.go (s_k t12_56)
    replace hr := hr.go (s_iadd t12_57)
    replace hr := hr.go (s_putf t12_58)
    replace hr := hr.go (s_aload_n t12_61 rfl)
    replace hr := hr.go (s_getf t12_62)
    replace hr := hr.go (s_k t12_65)
    replace hr := hr.go (s_isub t12_66)
    obtain ⟨rfl, hs⟩ := hr.iret t12_67
    refine ⟨_, _, hs, ?_, ?_⟩
    · rw [xu_same]
      repeat rw [xu_row (by decide)]
      rw [h5, xn_1, xn_pred]
      repeat (first | rw [if_pos (by omega)] | rw [if_neg (by omega)])
    · rw [xu_same]
      repeat rw [xu_row (by decide)]
      rw [h5, xn_1]
      repeat (first | rw [if_pos (by omega)] | rw [if_neg (by omega)])
  · replace hr := hr.go (s_k t12_9)
    obtain ⟨rfl, hs⟩ := hr.iret t12_10
    exact ⟨_, _, hs, by repeat (first | rw [if_pos (by omega)] | rw [if_neg (by omega)]), by rw [h5]; repeat (first | rw [if_pos (by omega)] | rw [if_neg (by omega)])⟩
theorem ct_nstrike {nf : Bool} {xs : List Int32} {d : Nat} {m : xM} {g : xL} {G : xG} {x : Int32} {v : Nat} (h3 : G.1 120 3 = some 124) (h5 : m 120 5 = Int32.ofNat v) (hv : v ≤ 24) : CT nf xs d 13 [.ref 120, .int x] m g G (fun r m' _ => r = some (.int (stV x v)) ∧ m' 120 5 = Int32.ofNat (stN x v)) := by
  refine CT.of (c := 1) (ini := false) (nL := 2) (rt := some .int) (tab := zt13) rfl (fun d' r h' N hd hr => ?_)
  replace hr : RR nf xs d' 1 false 2 (some .int) zt13 G r h' N (0, [(0, .ref 120), (1, .int x)], [], m, g) := hr
  have km1 : (-1 : Int32).toInt = -1 := rfl
  have k1 : (1 : Int32).toInt = 1 := rfl
  have k24 : (24 : Int32).toInt = 24 := rfl
  have qv : (Int32.ofNat v).toInt = (v : Int) := xn_int (by omega)
  replace hr := hr.go (s_iload_n t13_0 rfl)
  rcases hr.zLt t13_1 with ⟨b1, hr⟩ | ⟨b1, hr⟩
  · replace hr := hr.go (s_k t13_21)
    obtain ⟨rfl, hs⟩ := hr.iret t13_22
    exact ⟨_, _, hs, by unfold stV; repeat (first | rw [if_pos (by omega)] | rw [if_neg (by omega)]), by rw [h5]; unfold stN; repeat (first | rw [if_pos (by omega)] | rw [if_neg (by omega)])⟩
  · replace hr := hr.go (s_iload_n t13_4 rfl)
    replace hr := hr.go (s_aload_n t13_5 rfl)
    replace hr := hr.go (s_getf t13_6)
    rw [h5] at hr
    rcases hr.bGe t13_9 with ⟨b9, hr⟩ | ⟨b9, hr⟩
    · replace hr := hr.go (s_k t13_21)
      obtain ⟨rfl, hs⟩ := hr.iret t13_22
      exact ⟨_, _, hs, by unfold stV; repeat (first | rw [if_pos (by omega)] | rw [if_neg (by omega)]), by rw [h5]; unfold stN; repeat (first | rw [if_pos (by omega)] | rw [if_neg (by omega)])⟩
    · replace hr := hr.go (s_aload_n t13_12 rfl)
      replace hr := hr.go (s_getf t13_13)
      rw [h5] at hr
      replace hr := hr.go (s_k t13_16)
      rcases hr.bLt t13_18 with ⟨b18, hr⟩ | ⟨b18, hr⟩
      · replace hr := hr.go (s_aload_n t13_23 rfl)
        replace hr := hr.go (s_getr t13_24 (h3))
        replace hr := hr.go (s_aload_n t13_27 rfl)
        replace hr := hr.go (s_getf t13_28)
        replace hr := hr.go (s_iload_n t13_31 rfl)
        replace hr := hr.go (s_iastore t13_32)
        replace hr := hr.go (s_aload_n t13_33 rfl)
        replace hr := hr.go (s_dup t13_34 rfl)
        replace hr := hr.go (s_getf t13_35)
        replace hr := hr.go (s_k t13_38)
        replace hr := hr.go (s_iadd t13_39)
        replace hr := hr.go (s_putf t13_40)
        replace hr := hr.go (s_aload_n t13_43 rfl)
        replace hr := hr.go (s_getf t13_44)
        replace hr := hr.go (s_k t13_47)
        replace hr := hr.go (s_isub t13_48)
        obtain ⟨rfl, hs⟩ := hr.iret t13_49
        refine ⟨_, _, hs, ?_, ?_⟩
        · rw [xu_same]
          repeat rw [xu_row (by decide)]
          rw [h5, xn_1, xn_pred]
          unfold stV
          repeat (first | rw [if_pos (by omega)] | rw [if_neg (by omega)])
        · rw [xu_same]
          repeat rw [xu_row (by decide)]
          rw [h5, xn_1]
          unfold stN
          repeat (first | rw [if_pos (by omega)] | rw [if_neg (by omega)])
      · replace hr := hr.go (s_k t13_21)
        obtain ⟨rfl, hs⟩ := hr.iret t13_22
        exact ⟨_, _, hs, by unfold stV; repeat (first | rw [if_pos (by omega)] | rw [if_neg (by omega)]), by rw [h5]; unfold stN; repeat (first | rw [if_pos (by omega)] | rw [if_neg (by omega)])⟩
theorem ct_noteC {nf : Bool} {xs : List Int32} {d : Nat} {m : xM} {g : xL} {G : xG} {x y z : Int32} {v : Nat} (h7 : G.1 0 7 = some 55) (h14 : G.1 0 14 = some 120) (h0 : G.1 120 0 = some 121) (h1 : G.1 120 1 = some 122) (h2 : G.1 120 2 = some 123) (h3 : G.1 120 3 = some 124) (h5 : m 120 5 = Int32.ofNat v) (hv : v ≤ 24) : CT nf xs d 145 [.ref 0, .int x, .int y, .int z] m g G (fun r m' _ => r = some (.int (ntV x y (m 55 3) v)) ∧ m' 120 5 = Int32.ofNat (ntN x y (m 55 3) v)) := by
  refine CT.of (c := 10) (ini := false) (nL := 4) (rt := some .int) (tab := zt145) rfl (fun d' r h' N hd hr => ?_)
  replace hr : RR nf xs d' 10 false 4 (some .int) zt145 G r h' N (0, [(0, .ref 0), (1, .int x), (2, .int y), (3, .int z)], [], m, g) := hr
  have km1 : (-1 : Int32).toInt = -1 := rfl
  replace hr := hr.go (s_aload_n t145_0 rfl)
  replace hr := hr.go (s_iload_n t145_1 rfl)
  replace hr := hr.cvI t145_2 rfl rfl (ct_isRiderC h7)
  rcases hr.zEq t145_5 with ⟨b5, hr⟩ | ⟨b5, hr⟩
  · replace hr := hr.go (s_k t145_28)
    obtain ⟨rfl, hs⟩ := hr.iret t145_29
    exact ⟨_, _, hs, by unfold ntV; rw [if_pos b5], by unfold ntN; rw [if_pos b5]; exact h5⟩
  · replace hr := hr.go (s_iload_n t145_8 rfl)
    replace hr := hr.csI t145_9 rfl rfl (ct_isMileC)
    rcases hr.zEq t145_12 with ⟨b12, hr⟩ | ⟨b12, hr⟩
    · replace hr := hr.go (s_k t145_28)
      obtain ⟨rfl, hs⟩ := hr.iret t145_29
      exact ⟨_, _, hs, by unfold ntV; rw [if_neg b5, if_pos b12], by unfold ntN; rw [if_neg b5, if_pos b12]; exact h5⟩
    · replace hr := hr.go (s_aload_n t145_15 rfl)
      replace hr := hr.go (s_getr t145_16 (h14))
      replace hr := hr.go (s_iload_n t145_19 rfl)
      replace hr := hr.go (s_iload_n t145_20 rfl)
      replace hr := hr.go (s_iload_n t145_21 rfl)
      obtain ⟨_, m1, g1, ⟨rfl, q2⟩, hr⟩ := hr.callv t145_22 rfl rfl (ct_nadd h0 h1 h2 h3 h5 hv)
      replace hr : RR nf xs d' 10 false 4 (some .int) zt145 G r h' N (25, [(0, .ref 0), (1, .int x), (2, .int y), (3, .int z)], [.int _], m1, g1) := hr
      skip
      replace hr := hr.go (s_goto t145_25)
      obtain ⟨rfl, hs⟩ := hr.iret t145_29
      exact ⟨_, _, hs, by unfold ntV; rw [if_neg b5, if_neg b12], by unfold ntN; rw [if_neg b5, if_neg b12]; exact q2⟩
theorem ct_outC {nf : Bool} {xs : List Int32} {d : Nat} {m : xM} {g : xL} {G : xG} {x : Int32} {v : Nat} (h14 : G.1 0 14 = some 120) (h3 : G.1 120 3 = some 124) (h5 : m 120 5 = Int32.ofNat v) (hv : v ≤ 24) : CT nf xs d 146 [.ref 0, .int x] m g G (fun r m' _ => r = some (.int (stV x v)) ∧ m' 120 5 = Int32.ofNat (stN x v)) := by
  refine CT.of (c := 10) (ini := false) (nL := 2) (rt := some .int) (tab := zt146) rfl (fun d' r h' N hd hr => ?_)
  replace hr : RR nf xs d' 10 false 2 (some .int) zt146 G r h' N (0, [(0, .ref 0), (1, .int x)], [], m, g) := hr
  replace hr := hr.go (s_aload_n t146_0 rfl)
  replace hr := hr.go (s_getr t146_1 (h14))
  replace hr := hr.go (s_iload_n t146_4 rfl)
  obtain ⟨_, m1, g1, ⟨rfl, q2⟩, hr⟩ := hr.callv t146_5 rfl rfl (ct_nstrike h3 h5 hv)
  replace hr : RR nf xs d' 10 false 2 (some .int) zt146 G r h' N (8, [(0, .ref 0), (1, .int x)], [.int _], m1, g1) := hr
  skip
  obtain ⟨rfl, hs⟩ := hr.iret t146_8
  exact ⟨_, _, hs, rfl, q2⟩
theorem ct_knownC {nf : Bool} {xs : List Int32} {d : Nat} {m : xM} {g : xL} {G : xG} {x : Int32} {v : Nat} (h14 : G.1 0 14 = some 120) (h5 : m 120 5 = Int32.ofNat v) (hv : v ≤ 24) : CT nf xs d 147 [.ref 0, .int x] m g G (fun r m' _ => r = some (.int (knV x v)) ∧ m' 120 5 = m 120 5) := by
  refine CT.of (c := 10) (ini := false) (nL := 2) (rt := some .boolean) (tab := zt147) rfl (fun d' r h' N hd hr => ?_)
  replace hr : RR nf xs d' 10 false 2 (some .boolean) zt147 G r h' N (0, [(0, .ref 0), (1, .int x)], [], m, g) := hr
  have km1 : (-1 : Int32).toInt = -1 := rfl
  have k1 : (1 : Int32).toInt = 1 := rfl
  have qv : (Int32.ofNat v).toInt = (v : Int) := xn_int (by omega)
  replace hr := hr.go (s_iload_n t147_0 rfl)
  replace hr := hr.go (s_k t147_1)
  rcases hr.bLt t147_2 with ⟨b2, hr⟩ | ⟨b2, hr⟩
  · replace hr := hr.go (s_k t147_16)
    obtain ⟨rfl, hs⟩ := hr.iret t147_17
    exact ⟨_, _, hs, by unfold knV; repeat (first | rw [if_pos (by omega)] | rw [if_neg (by omega)]), by first | rfl | exact xu_oth (by decide)⟩
  · replace hr := hr.go (s_iload_n t147_5 rfl)
    replace hr := hr.go (s_aload_n t147_6 rfl)
    replace hr := hr.go (s_getr t147_7 (h14))
    replace hr := hr.go (s_getf t147_10)
    rw [h5] at hr
    rcases hr.bLe t147_13 with ⟨b13, hr⟩ | ⟨b13, hr⟩
    · replace hr := hr.go (s_aload_n t147_18 rfl)
      replace hr := hr.go (s_getr t147_19 (h14))
      replace hr := hr.go (s_iload_n t147_22 rfl)
      replace hr := hr.go (s_putf t147_23)
      replace hr := hr.go (s_k t147_26)
      obtain ⟨rfl, hs⟩ := hr.iret t147_27
      exact ⟨_, _, hs, by unfold knV; repeat (first | rw [if_pos (by omega)] | rw [if_neg (by omega)]), by first | rfl | exact xu_oth (by decide)⟩
    · replace hr := hr.go (s_k t147_16)
      obtain ⟨rfl, hs⟩ := hr.iret t147_17
      exact ⟨_, _, hs, by unfold knV; repeat (first | rw [if_pos (by omega)] | rw [if_neg (by omega)]), by first | rfl | exact xu_oth (by decide)⟩
theorem ct_noteR {nf : Bool} {xs : List Int32} {d : Nat} {m : xM} {g : xL} {G : xG} {x y z : Int32} {v : Nat} (g3 : G.1 128 3 = some 130) (hl : G.2 130 = (0, 1, 18)) (g69 : G.1 128 69 = some 170) (g70 : G.1 128 70 = some 171) (g71 : G.1 128 71 = some 172) (g72 : G.1 128 72 = some 173) (h67 : m 128 67 = Int32.ofNat v) (hv : v ≤ 24) : CT nf xs d 249 [.ref 128, .int x, .int y, .int z] m g G (fun r m' _ => r = some (.int (ntV x y (m 130 1) v)) ∧ m' 128 67 = Int32.ofNat (ntN x y (m 130 1) v)) := by
  refine CT.of (c := 11) (ini := false) (nL := 4) (rt := some .int) (tab := zt249) rfl (fun d' r h' N hd hr => ?_)
  replace hr : RR nf xs d' 11 false 4 (some .int) zt249 G r h' N (0, [(0, .ref 128), (1, .int x), (2, .int y), (3, .int z)], [], m, g) := hr
  have km1 : (-1 : Int32).toInt = -1 := rfl
  have k1 : (1 : Int32).toInt = 1 := rfl
  have k24 : (24 : Int32).toInt = 24 := rfl
  replace hr := hr.go (s_aload_n t249_0 rfl)
  replace hr := hr.go (s_k t249_1)
  replace hr := hr.go (s_putf t249_2)
  replace hr := hr.go (s_aload_n t249_5 rfl)
  replace hr := hr.go (s_iload_n t249_6 rfl)
  replace hr := hr.cvI t249_7 rfl rfl (ct_isRiderR g3 hl)
  rw [show xu m 128 0 0 130 1 = m 130 1 from xu_oth (by decide)] at hr
  rcases hr.zEq t249_10 with ⟨b10, hr⟩ | ⟨b10, hr⟩
  · replace hr := hr.go (s_k t249_29)
    obtain ⟨rfl, hs⟩ := hr.iret t249_30
    exact ⟨_, _, hs, by unfold ntV; rw [if_pos b10], by unfold ntN; rw [if_pos b10, xu_oth (by decide)]; exact h67⟩
  · replace hr := hr.go (s_iload_n t249_13 rfl)
    replace hr := hr.csI t249_14 rfl rfl (ct_isMileR)
    rcases hr.zEq t249_17 with ⟨b17, hr⟩ | ⟨b17, hr⟩
    · replace hr := hr.go (s_k t249_29)
      obtain ⟨rfl, hs⟩ := hr.iret t249_30
      exact ⟨_, _, hs, by unfold ntV; rw [if_neg b10, if_pos b17], by unfold ntN; rw [if_neg b10, if_pos b17, xu_oth (by decide)]; exact h67⟩
    · replace hr := hr.go (s_aload_n t249_20 rfl)
      replace hr := hr.go (s_getf t249_21)
      rw [show xu m 128 0 0 128 67 = Int32.ofNat v from by rw [xu_oth (by decide), h67]] at hr
      replace hr := hr.go (s_k t249_24)
      rcases hr.bNe t249_26 with ⟨b26, hr⟩ | ⟨b26, hr⟩
      · replace hr := hr.go (s_aload_n t249_31 rfl)
        replace hr := hr.go (s_getr t249_32 (g69))
        replace hr := hr.go (s_aload_n t249_35 rfl)
        replace hr := hr.go (s_getf t249_36)
        replace hr := hr.go (s_iload_n t249_39 rfl)
        replace hr := hr.go (s_iastore t249_40)
        replace hr := hr.go (s_aload_n t249_41 rfl)
        replace hr := hr.go (s_getr t249_42 (g70))
        replace hr := hr.go (s_aload_n t249_45 rfl)
        replace hr := hr.go (s_getf t249_46)
        replace hr := hr.go (s_iload_n t249_49 rfl)
        replace hr := hr.go (s_iastore t249_50)
        replace hr := hr.go (s_aload_n t249_51 rfl)
        replace hr := hr.go (s_getr t249_52 (g71))
        replace hr := hr.go (s_aload_n t249_55 rfl)
        replace hr := hr.go (s_getf t249_56)
        replace hr := hr.go (s_iload_n t249_59 rfl)
        replace hr := hr.go (s_bastore t249_60)
        replace hr := hr.go (s_aload_n t249_61 rfl)
        replace hr := hr.go (s_getr t249_62 (g72))
        replace hr := hr.go (s_aload_n t249_65 rfl)
        replace hr := hr.go (s_getf t249_66)
        replace hr := hr.go (s_k t249_69)
        replace hr := hr.go (s_iastore t249_70)
        replace hr := hr.go (s_aload_n t249_71 rfl)
        replace hr := hr.go (s_dup t249_72 rfl)
        replace hr := hr.go (s_getf t249_73)
        replace hr := hr.go (s_k t249_76)
        replace hr := hr.go (s_iadd t249_77)
        replace hr := hr.go (s_putf t249_78)
        replace hr := hr.go (s_aload_n t249_81 rfl)
        replace hr := hr.go (s_getf t249_82)
        replace hr := hr.go (s_k t249_85)
        replace hr := hr.go (s_isub t249_86)
        obtain ⟨rfl, hs⟩ := hr.iret t249_87
        have hv2 : ¬ v = 24 := fun q => b26 (by rw [q]; rfl)
        refine ⟨_, _, hs, ?_, ?_⟩
        · rw [xu_same]
          repeat rw [xu_row (by decide)]
          rw [xu_oth (by decide), h67, xn_1, xn_pred]
          unfold ntV
          rw [if_neg b10, if_neg b17, if_neg hv2]
        · rw [xu_same]
          repeat rw [xu_row (by decide)]
          rw [xu_oth (by decide), h67, xn_1]
          unfold ntN
          rw [if_neg b10, if_neg b17, if_neg hv2]
      · replace hr := hr.go (s_k t249_29)
        obtain ⟨rfl, hs⟩ := hr.iret t249_30
        have hv2 : v = 24 := xn_inj (by omega) (by decide) b26
        exact ⟨_, _, hs, by unfold ntV; rw [if_neg b10, if_neg b17, if_pos hv2], by unfold ntN; rw [if_neg b10, if_neg b17, if_pos hv2, xu_oth (by decide)]; exact h67⟩
theorem ct_outR {nf : Bool} {xs : List Int32} {d : Nat} {m : xM} {g : xL} {G : xG} {x : Int32} {v : Nat} (g72 : G.1 128 72 = some 173) (h67 : m 128 67 = Int32.ofNat v) (hv : v ≤ 24) : CT nf xs d 250 [.ref 128, .int x] m g G (fun r m' _ => r = some (.int (stV x v)) ∧ m' 128 67 = Int32.ofNat (stN x v)) := by
  refine CT.of (c := 11) (ini := false) (nL := 2) (rt := some .int) (tab := zt250) rfl (fun d' r h' N hd hr => ?_)
  replace hr : RR nf xs d' 11 false 2 (some .int) zt250 G r h' N (0, [(0, .ref 128), (1, .int x)], [], m, g) := hr
  have km1 : (-1 : Int32).toInt = -1 := rfl
  have k1 : (1 : Int32).toInt = 1 := rfl
  have k24 : (24 : Int32).toInt = 24 := rfl
  have qv : (Int32.ofNat v).toInt = (v : Int) := xn_int (by omega)
  replace hr := hr.go (s_aload_n t250_0 rfl)
  replace hr := hr.go (s_k t250_1)
  replace hr := hr.go (s_putf t250_2)
  replace hr := hr.go (s_iload_n t250_5 rfl)
  rcases hr.zLt t250_6 with ⟨b6, hr⟩ | ⟨b6, hr⟩
  · replace hr := hr.go (s_k t250_26)
    obtain ⟨rfl, hs⟩ := hr.iret t250_27
    exact ⟨_, _, hs, by unfold stV; repeat (first | rw [if_pos (by omega)] | rw [if_neg (by omega)]), by rw [xu_oth (by decide), h67]; unfold stN; repeat (first | rw [if_pos (by omega)] | rw [if_neg (by omega)])⟩
  · replace hr := hr.go (s_iload_n t250_9 rfl)
    replace hr := hr.go (s_aload_n t250_10 rfl)
    replace hr := hr.go (s_getf t250_11)
    rw [show xu m 128 0 0 128 67 = Int32.ofNat v from by rw [xu_oth (by decide), h67]] at hr
    rcases hr.bGe t250_14 with ⟨b14, hr⟩ | ⟨b14, hr⟩
    · replace hr := hr.go (s_k t250_26)
      obtain ⟨rfl, hs⟩ := hr.iret t250_27
      exact ⟨_, _, hs, by unfold stV; repeat (first | rw [if_pos (by omega)] | rw [if_neg (by omega)]), by rw [xu_oth (by decide), h67]; unfold stN; repeat (first | rw [if_pos (by omega)] | rw [if_neg (by omega)])⟩
    · replace hr := hr.go (s_aload_n t250_17 rfl)
      replace hr := hr.go (s_getf t250_18)
      rw [show xu m 128 0 0 128 67 = Int32.ofNat v from by rw [xu_oth (by decide), h67]] at hr
      replace hr := hr.go (s_k t250_21)
      rcases hr.bNe t250_23 with ⟨b23, hr⟩ | ⟨b23, hr⟩
      · replace hr := hr.go (s_aload_n t250_28 rfl)
        replace hr := hr.go (s_getr t250_29 (g72))
        replace hr := hr.go (s_aload_n t250_32 rfl)
        replace hr := hr.go (s_getf t250_33)
        replace hr := hr.go (s_iload_n t250_36 rfl)
        replace hr := hr.go (s_iastore t250_37)
        replace hr := hr.go (s_aload_n t250_38 rfl)
        replace hr := hr.go (s_dup t250_39 rfl)
        replace hr := hr.go (s_getf t250_40)
        replace hr := hr.go (s_k t250_43)
        replace hr := hr.go (s_iadd t250_44)
        replace hr := hr.go (s_putf t250_45)
        replace hr := hr.go (s_aload_n t250_48 rfl)
        replace hr := hr.go (s_getf t250_49)
        replace hr := hr.go (s_k t250_52)
        replace hr := hr.go (s_isub t250_53)
        obtain ⟨rfl, hs⟩ := hr.iret t250_54
        have hv2 : ¬ v = 24 := fun q => b23 (by rw [q]; rfl)
        refine ⟨_, _, hs, ?_, ?_⟩
        · rw [xu_same]
          repeat rw [xu_row (by decide)]
          rw [xu_oth (by decide), h67, xn_1, xn_pred]
          unfold stV
          repeat (first | rw [if_pos (by omega)] | rw [if_neg (by omega)])
        · rw [xu_same]
          repeat rw [xu_row (by decide)]
          rw [xu_oth (by decide), h67, xn_1]
          unfold stN
          repeat (first | rw [if_pos (by omega)] | rw [if_neg (by omega)])
      · replace hr := hr.go (s_k t250_26)
        obtain ⟨rfl, hs⟩ := hr.iret t250_27
        have hv2 : v = 24 := xn_inj (by omega) (by decide) b23
        exact ⟨_, _, hs, by unfold stV; repeat (first | rw [if_pos (by omega)] | rw [if_neg (by omega)]), by rw [xu_oth (by decide), h67]; unfold stN; repeat (first | rw [if_pos (by omega)] | rw [if_neg (by omega)])⟩
theorem ct_knownR {nf : Bool} {xs : List Int32} {d : Nat} {m : xM} {g : xL} {G : xG} {x : Int32} {v : Nat} (h67 : m 128 67 = Int32.ofNat v) (hv : v ≤ 24) : CT nf xs d 251 [.ref 128, .int x] m g G (fun r m' _ => r = some (.int (knV x v)) ∧ m' 128 67 = m 128 67) := by
  refine CT.of (c := 11) (ini := false) (nL := 2) (rt := some .boolean) (tab := zt251) rfl (fun d' r h' N hd hr => ?_)
  replace hr : RR nf xs d' 11 false 2 (some .boolean) zt251 G r h' N (0, [(0, .ref 128), (1, .int x)], [], m, g) := hr
  have km1 : (-1 : Int32).toInt = -1 := rfl
  have k1 : (1 : Int32).toInt = 1 := rfl
  have qv : (Int32.ofNat v).toInt = (v : Int) := xn_int (by omega)
  replace hr := hr.go (s_aload_n t251_0 rfl)
  replace hr := hr.go (s_k t251_1)
  replace hr := hr.go (s_putf t251_2)
  replace hr := hr.go (s_iload_n t251_5 rfl)
  replace hr := hr.go (s_k t251_6)
  rcases hr.bLt t251_7 with ⟨b7, hr⟩ | ⟨b7, hr⟩
  · replace hr := hr.go (s_k t251_18)
    obtain ⟨rfl, hs⟩ := hr.iret t251_19
    exact ⟨_, _, hs, by unfold knV; repeat (first | rw [if_pos (by omega)] | rw [if_neg (by omega)]), by repeat rw [xu_oth (by decide)]⟩
  · replace hr := hr.go (s_iload_n t251_10 rfl)
    replace hr := hr.go (s_aload_n t251_11 rfl)
    replace hr := hr.go (s_getf t251_12)
    rw [show xu m 128 0 0 128 67 = Int32.ofNat v from by rw [xu_oth (by decide), h67]] at hr
    rcases hr.bLe t251_15 with ⟨b15, hr⟩ | ⟨b15, hr⟩
    · replace hr := hr.go (s_aload_n t251_20 rfl)
      replace hr := hr.go (s_iload_n t251_21 rfl)
      replace hr := hr.go (s_putf t251_22)
      replace hr := hr.go (s_k t251_25)
      obtain ⟨rfl, hs⟩ := hr.iret t251_26
      exact ⟨_, _, hs, by unfold knV; repeat (first | rw [if_pos (by omega)] | rw [if_neg (by omega)]), by repeat rw [xu_oth (by decide)]⟩
    · replace hr := hr.go (s_k t251_18)
      obtain ⟨rfl, hs⟩ := hr.iret t251_19
      exact ⟨_, _, hs, by unfold knV; repeat (first | rw [if_pos (by omega)] | rw [if_neg (by omega)]), by repeat rw [xu_oth (by decide)]⟩
