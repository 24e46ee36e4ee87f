/-! The class Reader: signs that wait. -/
def qty (x : Int32) : Bool := decide (47 ≤ x.toInt ∧ x.toInt ≤ 53)
def str (x : Int32) : Nat := if x = 44 then 1 else if x = 45 then 2 else if x = 46 then 3 else if 14 ≤ x.toInt ∧ x.toInt ≤ 19 then 4 else if x = 10 ∨ x = 11 then 5 else if x = 12 ∨ x = 13 then 6 else 0
theorem str_le (x : Int32) : str x ≤ 6 := by
  unfold str
  repeat' split
  all_goals omega
/-- what waits, the top first -/
def stk (W : List Int32) (m : xM) : Prop := m 2 2 = Int32.ofNat W.length ∧ W.length ≤ 72 ∧ ∀ k : Nat, k < W.length → m 6 (W.length - 1 - k) = W.getD k 0
theorem stk_row {W : List Int32} {m m' : xM} (h : stk W m) (h2 : m' 2 2 = m 2 2) (h6 : m' 6 = m 6) : stk W m' := by
  unfold stk
  rw [h2, h6]
  exact h
def relW (s : Nat) : List Int32 → List Int32
  | [] => []
  | x :: r => if s ≤ str x then relW s r else x :: r
theorem relW_len {s : Nat} : ∀ W : List Int32, (relW s W).length ≤ W.length
  | [] => Nat.le_refl _
  | x :: r => by
    have := relW_len (s := s) r
    show (if s ≤ str x then relW s r else x :: r).length ≤ _
    rw [List.length_cons]
    split
    · omega
    · rw [List.length_cons]; omega
theorem xn_pred {k : Nat} : Int32.ofNat (k + 1) - 1 = Int32.ofNat k := by
  have := xn_sub (s := 1) (e := k + 1) (by omega)
  rw [show k + 1 - 1 = k by omega] at this
  exact this
/-- the laws' knots may grow; nothing else -/
def lwF (P : Nat) (m m' : xM) : Prop := 0 ≤ (m' (P + 17) 4).toInt ∧ ∀ a : Nat, ¬ a = P + 17 → ¬ a = P + 18 → ¬ a = P + 19 → m' a = m a
theorem ct_isQ {nf : Bool} {xs : List Int32} {d : Nat} {m : xM} {g : xL} {G : xG} {x : Int32} : CT nf xs d 38 [.int x] m g G (PE (some (.int (bI (qty x)))) m g) := by
  refine CT.of (c := 4) (ini := false) (nL := 1) (rt := some .boolean) (tab := zt38) rfl (fun d' r h' N hd hr => ?_)
  replace hr : RR nf xs d' 4 false 1 (some .boolean) zt38 G r h' N (0, [(0, .int x)], [], m, g) := hr
  have k1 : (1 : Int32).toInt = 1 := rfl
  have k47 : (47 : Int32).toInt = 47 := rfl
  have k53 : (53 : Int32).toInt = 53 := rfl
  replace hr := hr.go (s_iload_n t38_0 rfl)
  replace hr := hr.go (s_k t38_1)
  rcases hr.bLt t38_3 with ⟨b3, hr⟩ | ⟨b3, hr⟩
  · replace hr := hr.go (s_k t38_16)
    obtain ⟨rfl, hs⟩ := hr.iret t38_17
    exact ⟨_, _, hs, by unfold qty; rw [decide_eq_false (by omega)]; rfl, rfl, rfl⟩
  · replace hr := hr.go (s_iload_n t38_6 rfl)
    replace hr := hr.go (s_k t38_7)
    rcases hr.bGt t38_9 with ⟨b9, hr⟩ | ⟨b9, hr⟩
    · replace hr := hr.go (s_k t38_16)
      obtain ⟨rfl, hs⟩ := hr.iret t38_17
      exact ⟨_, _, hs, by unfold qty; rw [decide_eq_false (by omega)]; rfl, rfl, rfl⟩
    · replace hr := hr.go (s_k t38_12)
      replace hr := hr.go (s_goto t38_13)
      obtain ⟨rfl, hs⟩ := hr.iret t38_17
      exact ⟨_, _, hs, by unfold qty; rw [decide_eq_true (by omega)]; rfl, rfl, rfl⟩

theorem ct_str {nf : Bool} {xs : List Int32} {d : Nat} {m : xM} {g : xL} {G : xG} {x : Int32} : CT nf xs d 45 [.int x] m g G (PE (some (.int (Int32.ofNat (str x)))) m g) := by
  refine CT.of (c := 4) (ini := false) (nL := 1) (rt := some .int) (tab := zt45) rfl (fun d' r h' N hd hr => ?_)
  replace hr : RR nf xs d' 4 false 1 (some .int) zt45 G r h' N (0, [(0, .int x)], [], m, g) := hr
  have k1 : (1 : Int32).toInt = 1 := rfl
  have k2 : (2 : Int32).toInt = 2 := rfl
  have k3 : (3 : Int32).toInt = 3 := rfl
  have k4 : (4 : Int32).toInt = 4 := rfl
  have k5 : (5 : Int32).toInt = 5 := rfl
  have k6 : (6 : Int32).toInt = 6 := rfl
  have k10 : (10 : Int32).toInt = 10 := rfl
  have k11 : (11 : Int32).toInt = 11 := rfl
  have k12 : (12 : Int32).toInt = 12 := rfl
  have k13 : (13 : Int32).toInt = 13 := rfl
  have k14 : (14 : Int32).toInt = 14 := rfl
  have k19 : (19 : Int32).toInt = 19 := rfl
  have k44 : (44 : Int32).toInt = 44 := rfl
  have k45 : (45 : Int32).toInt = 45 := rfl
  have k46 : (46 : Int32).toInt = 46 := rfl
  replace hr := hr.go (s_iload_n t45_0 rfl)
  replace hr := hr.go (s_k t45_1)
  rcases hr.bNe t45_3 with ⟨b3, hr⟩ | ⟨b3, hr⟩
  · replace hr := hr.go (s_iload_n t45_8 rfl)
    replace hr := hr.go (s_k t45_9)
    rcases hr.bNe t45_11 with ⟨b11, hr⟩ | ⟨b11, hr⟩
    · replace hr := hr.go (s_iload_n t45_16 rfl)
      replace hr := hr.go (s_k t45_17)
      rcases hr.bNe t45_19 with ⟨b19, hr⟩ | ⟨b19, hr⟩
      · replace hr := hr.go (s_iload_n t45_24 rfl)
        replace hr := hr.go (s_k t45_25)
        rcases hr.bLt t45_27 with ⟨b27, hr⟩ | ⟨b27, hr⟩
        · replace hr := hr.go (s_iload_n t45_38 rfl)
          replace hr := hr.go (s_k t45_39)
          rcases hr.bEq t45_41 with ⟨b41, hr⟩ | ⟨b41, hr⟩
          · skip
            replace hr := hr.go (s_k t45_50)
            obtain ⟨rfl, hs⟩ := hr.iret t45_51
            exact ⟨_, _, hs, congrArg (fun z => some (Value.int z)) (by unfold str; rw [if_neg b3, if_neg b11, if_neg b19, if_neg (by omega), if_pos (Or.inl b41)]; rfl), rfl, rfl⟩
          · replace hr := hr.go (s_iload_n t45_44 rfl)
            replace hr := hr.go (s_k t45_45)
            rcases hr.bNe t45_47 with ⟨b47, hr⟩ | ⟨b47, hr⟩
            · replace hr := hr.go (s_iload_n t45_52 rfl)
              replace hr := hr.go (s_k t45_53)
              rcases hr.bEq t45_55 with ⟨b55, hr⟩ | ⟨b55, hr⟩
              · skip
                replace hr := hr.go (s_k t45_64)
                replace hr := hr.go (s_goto t45_66)
                obtain ⟨rfl, hs⟩ := hr.iret t45_70
                exact ⟨_, _, hs, congrArg (fun z => some (Value.int z)) (by unfold str; rw [if_neg b3, if_neg b11, if_neg b19, if_neg (by omega), if_neg (fun q => q.elim b41 b47), if_pos (Or.inl b55)]; rfl), rfl, rfl⟩
              · replace hr := hr.go (s_iload_n t45_58 rfl)
                replace hr := hr.go (s_k t45_59)
                rcases hr.bNe t45_61 with ⟨b61, hr⟩ | ⟨b61, hr⟩
                · replace hr := hr.go (s_k t45_69)
                  obtain ⟨rfl, hs⟩ := hr.iret t45_70
                  exact ⟨_, _, hs, congrArg (fun z => some (Value.int z)) (by unfold str; rw [if_neg b3, if_neg b11, if_neg b19, if_neg (by omega), if_neg (fun q => q.elim b41 b47), if_neg (fun q => q.elim b55 b61)]; rfl), rfl, rfl⟩
                · skip
                  replace hr := hr.go (s_k t45_64)
                  replace hr := hr.go (s_goto t45_66)
                  obtain ⟨rfl, hs⟩ := hr.iret t45_70
                  exact ⟨_, _, hs, congrArg (fun z => some (Value.int z)) (by unfold str; rw [if_neg b3, if_neg b11, if_neg b19, if_neg (by omega), if_neg (fun q => q.elim b41 b47), if_pos (Or.inr b61)]; rfl), rfl, rfl⟩
            · skip
              replace hr := hr.go (s_k t45_50)
              obtain ⟨rfl, hs⟩ := hr.iret t45_51
              exact ⟨_, _, hs, congrArg (fun z => some (Value.int z)) (by unfold str; rw [if_neg b3, if_neg b11, if_neg b19, if_neg (by omega), if_pos (Or.inr b47)]; rfl), rfl, rfl⟩
        · replace hr := hr.go (s_iload_n t45_30 rfl)
          replace hr := hr.go (s_k t45_31)
          rcases hr.bGt t45_33 with ⟨b33, hr⟩ | ⟨b33, hr⟩
          · replace hr := hr.go (s_iload_n t45_38 rfl)
            replace hr := hr.go (s_k t45_39)
            rcases hr.bEq t45_41 with ⟨b41, hr⟩ | ⟨b41, hr⟩
            · skip
              replace hr := hr.go (s_k t45_50)
              obtain ⟨rfl, hs⟩ := hr.iret t45_51
              exact ⟨_, _, hs, congrArg (fun z => some (Value.int z)) (by unfold str; rw [if_neg b3, if_neg b11, if_neg b19, if_neg (by omega), if_pos (Or.inl b41)]; rfl), rfl, rfl⟩
            · replace hr := hr.go (s_iload_n t45_44 rfl)
              replace hr := hr.go (s_k t45_45)
              rcases hr.bNe t45_47 with ⟨b47, hr⟩ | ⟨b47, hr⟩
              · replace hr := hr.go (s_iload_n t45_52 rfl)
                replace hr := hr.go (s_k t45_53)
                rcases hr.bEq t45_55 with ⟨b55, hr⟩ | ⟨b55, hr⟩
                · skip
                  replace hr := hr.go (s_k t45_64)
                  replace hr := hr.go (s_goto t45_66)
                  obtain ⟨rfl, hs⟩ := hr.iret t45_70
                  exact ⟨_, _, hs, congrArg (fun z => some (Value.int z)) (by unfold str; rw [if_neg b3, if_neg b11, if_neg b19, if_neg (by omega), if_neg (fun q => q.elim b41 b47), if_pos (Or.inl b55)]; rfl), rfl, rfl⟩
                · replace hr := hr.go (s_iload_n t45_58 rfl)
                  replace hr := hr.go (s_k t45_59)
                  rcases hr.bNe t45_61 with ⟨b61, hr⟩ | ⟨b61, hr⟩
                  · replace hr := hr.go (s_k t45_69)
                    obtain ⟨rfl, hs⟩ := hr.iret t45_70
                    exact ⟨_, _, hs, congrArg (fun z => some (Value.int z)) (by unfold str; rw [if_neg b3, if_neg b11, if_neg b19, if_neg (by omega), if_neg (fun q => q.elim b41 b47), if_neg (fun q => q.elim b55 b61)]; rfl), rfl, rfl⟩
                  · skip
                    replace hr := hr.go (s_k t45_64)
                    replace hr := hr.go (s_goto t45_66)
                    obtain ⟨rfl, hs⟩ := hr.iret t45_70
                    exact ⟨_, _, hs, congrArg (fun z => some (Value.int z)) (by unfold str; rw [if_neg b3, if_neg b11, if_neg b19, if_neg (by omega), if_neg (fun q => q.elim b41 b47), if_pos (Or.inr b61)]; rfl), rfl, rfl⟩
              · skip
                replace hr := hr.go (s_k t45_50)
                obtain ⟨rfl, hs⟩ := hr.iret t45_51
                exact ⟨_, _, hs, congrArg (fun z => some (Value.int z)) (by unfold str; rw [if_neg b3, if_neg b11, if_neg b19, if_neg (by omega), if_pos (Or.inr b47)]; rfl), rfl, rfl⟩
          · replace hr := hr.go (s_k t45_36)
            obtain ⟨rfl, hs⟩ := hr.iret t45_37
            exact ⟨_, _, hs, congrArg (fun z => some (Value.int z)) (by unfold str; rw [if_neg b3, if_neg b11, if_neg b19, if_pos (by omega)]; rfl), rfl, rfl⟩
      · replace hr := hr.go (s_k t45_22)
        obtain ⟨rfl, hs⟩ := hr.iret t45_23
        exact ⟨_, _, hs, congrArg (fun z => some (Value.int z)) (by unfold str; rw [if_neg b3, if_neg b11, if_pos b19]; rfl), rfl, rfl⟩
    · replace hr := hr.go (s_k t45_14)
      obtain ⟨rfl, hs⟩ := hr.iret t45_15
      exact ⟨_, _, hs, congrArg (fun z => some (Value.int z)) (by unfold str; rw [if_neg b3, if_pos b11]; rfl), rfl, rfl⟩
  · replace hr := hr.go (s_k t45_6)
    obtain ⟨rfl, hs⟩ := hr.iret t45_7
    exact ⟨_, _, hs, congrArg (fun z => some (Value.int z)) (by unfold str; rw [if_pos b3]; rfl), rfl, rfl⟩

theorem ct_top {nf : Bool} {xs : List Int32} {d : Nat} {m : xM} {g : xL} {G : xG} {P : Nat} {W : List Int32} (hG : GP G P) (hW : stk W m) : CT nf xs d 42 [.ref 2] m g G (PE (some (.int (W.headD 0))) m g) := by
  refine CT.of (c := 4) (ini := false) (nL := 1) (rt := some .int) (tab := zt42) rfl (fun d' r h' N hd hr => ?_)
  replace hr : RR nf xs d' 4 false 1 (some .int) zt42 G r h' N (0, [(0, .ref 2)], [], m, g) := hr
  have k1 : (1 : Int32).toInt = 1 := rfl
  have hw := hW.2.1
  have q1 : (Int32.ofNat W.length).toInt = (W.length : Int) := xn_int (by omega)
  have k72 : (Int32.ofNat 72).toInt = 72 := rfl
  replace hr := hr.go (s_aload_n t42_0 rfl)
  replace hr := hr.go (s_getf t42_1)
  rw [hW.1] at hr
  rcases hr.zLe t42_4 with ⟨b4, hr⟩ | ⟨b4, hr⟩
  · replace hr := hr.go (s_k t42_33)
    obtain ⟨rfl, hs⟩ := hr.iret t42_34
    cases W with
    | nil => exact ⟨_, _, hs, rfl, rfl, rfl⟩
    | cons x W => exact (by rw [List.length_cons] at q1 b4; omega : False).elim
  · replace hr := hr.go (s_aload_n t42_7 rfl)
    replace hr := hr.go (s_getf t42_8)
    replace hr := hr.go (s_aload_n t42_11 rfl)
    replace hr := hr.go (s_getr t42_12 (hG.2.2.1))
    replace hr := hr.go (s_alen t42_15 (hG.2.2.2.1))
    rw [hW.1] at hr
    rcases hr.bGt t42_16 with ⟨b16, hr⟩ | ⟨b16, hr⟩
    · replace hr := hr.go (s_k t42_33)
      obtain ⟨rfl, hs⟩ := hr.iret t42_34
      exact (by omega : False).elim
    · replace hr := hr.go (s_aload_n t42_19 rfl)
      replace hr := hr.go (s_getr t42_20 (hG.2.2.1))
      replace hr := hr.go (s_aload_n t42_23 rfl)
      replace hr := hr.go (s_getf t42_24)
      replace hr := hr.go (s_k t42_27)
      rw [hW.1] at hr
      replace hr := hr.go (s_isub t42_28)
      replace hr := hr.go (s_iaload t42_29 (hG.2.2.2.1))
      replace hr := hr.go (s_goto t42_30)
      obtain ⟨rfl, hs⟩ := hr.iret t42_34
      cases W with
      | nil => exact absurd b4 (by decide)
      | cons x W =>
        refine ⟨_, _, hs, congrArg (fun z => some (Value.int z)) ?_, rfl, rfl⟩
        rw [List.length_cons, xn_pred, xn_nat (by rw [List.length_cons] at hw; omega)]
        have := hW.2.2 0 (by rw [List.length_cons]; omega)
        rw [List.length_cons, show W.length + 1 - 1 - 0 = W.length by omega] at this
        exact this

theorem ct_hold {nf : Bool} {xs : List Int32} {d : Nat} {m : xM} {g : xL} {G : xG} {P : Nat} {x : Int32} {W : List Int32} (hG : GP G P) (hW : stk W m) : CT nf xs d 43 [.ref 2, .int x] m g G (PE none (if W.length < 72 then xu (xu m 6 W.length x) 2 2 (Int32.ofNat (W.length + 1)) else m) g) := by
  refine CT.of (c := 4) (ini := false) (nL := 2) (rt := none) (tab := zt43) rfl (fun d' r h' N hd hr => ?_)
  replace hr : RR nf xs d' 4 false 2 (none) zt43 G r h' N (0, [(0, .ref 2), (1, .int x)], [], m, g) := hr
  have k1 : (1 : Int32).toInt = 1 := rfl
  have hw := hW.2.1
  have q1 : (Int32.ofNat W.length).toInt = (W.length : Int) := xn_int (by omega)
  have k72 : (Int32.ofNat 72).toInt = 72 := rfl
  replace hr := hr.go (s_aload_n t43_0 rfl)
  replace hr := hr.go (s_getf t43_1)
  replace hr := hr.go (s_aload_n t43_4 rfl)
  replace hr := hr.go (s_getr t43_5 (hG.2.2.1))
  replace hr := hr.go (s_alen t43_8 (hG.2.2.2.1))
  rw [hW.1] at hr
  rcases hr.bGe t43_9 with ⟨b9, hr⟩ | ⟨b9, hr⟩
  · obtain ⟨rfl, hs⟩ := hr.ret t43_32
    rw [if_neg (by omega)]
    exact ⟨_, _, hs, rfl, rfl, rfl⟩
  · replace hr := hr.go (s_aload_n t43_12 rfl)
    replace hr := hr.go (s_getr t43_13 (hG.2.2.1))
    replace hr := hr.go (s_aload_n t43_16 rfl)
    replace hr := hr.go (s_getf t43_17)
    replace hr := hr.go (s_iload_n t43_20 rfl)
    replace hr := hr.go (s_iastore t43_21)
    replace hr := hr.go (s_aload_n t43_22 rfl)
    replace hr := hr.go (s_dup t43_23 rfl)
    replace hr := hr.go (s_getf t43_24)
    replace hr := hr.go (s_k t43_27)
    replace hr := hr.go (s_iadd t43_28)
    replace hr := hr.go (s_putf t43_29)
    obtain ⟨rfl, hs⟩ := hr.ret t43_32
    rw [if_pos (by omega)]
    exact ⟨_, _, hs, rfl, by rw [xu_oth (by omega), hW.1, xn_1, xn_nat (by omega)], rfl⟩

theorem stk_push {W : List Int32} {m : xM} {x : Int32} (h : stk W m) (h1 : W.length < 72) : stk (x :: W) (xu (xu m 6 W.length x) 2 2 (Int32.ofNat (W.length + 1))) := by
  refine ⟨by rw [xu_same, List.length_cons], by rw [List.length_cons]; omega, fun k hk => ?_⟩
  rw [List.length_cons] at hk ⊢
  rw [xu_oth (by omega)]
  cases k with
  | zero => rw [show W.length + 1 - 1 - 0 = W.length by omega, xu_same]; rfl
  | succ k =>
    rw [show W.length + 1 - 1 - (k + 1) = W.length - 1 - k by omega, xu_oth (by omega), h.2.2 k (by omega)]
    rfl
theorem stk_pop {W : List Int32} {m : xM} {x : Int32} (h : stk (x :: W) m) : stk W (xu m 2 2 (m 2 2 - 1)) := by
  refine ⟨by rw [xu_same, h.1, List.length_cons, xn_pred], by have := h.2.1; rw [List.length_cons] at this; omega, fun k hk => ?_⟩
  rw [xu_oth (by omega)]
  have := h.2.2 (k + 1) (by rw [List.length_cons]; omega)
  rw [List.length_cons, show W.length + 1 - 1 - (k + 1) = W.length - 1 - k by omega] at this
  exact this
theorem ct_lput {nf : Bool} {xs : List Int32} {d : Nat} {m : xM} {g : xL} {G : xG} {P : Nat} {x y : Int32} (hG : GP G P) (h0 : 0 ≤ (m (P + 17) 4).toInt) : CT nf xs d 5 [.ref (P + 17), .int x, .int y] m g G (PF none g (lwF P m)) := by
  refine CT.of (c := 0) (ini := false) (nL := 3) (rt := none) (tab := zt5) rfl (fun d' r h' N hd hr => ?_)
  replace hr : RR nf xs d' 0 false 3 (none) zt5 G r h' N (0, [(0, .ref (P + 17)), (1, .int x), (2, .int y)], [], m, g) := hr
  have k1 : (1 : Int32).toInt = 1 := rfl
  have k64 : (64 : Int32).toInt = 64 := rfl
  replace hr := hr.go (s_aload_n t5_0 rfl)
  replace hr := hr.go (s_getf t5_1)
  replace hr := hr.go (s_k t5_4)
  rcases hr.bGe t5_6 with ⟨b6, hr⟩ | ⟨b6, hr⟩
  · obtain ⟨rfl, hs⟩ := hr.ret t5_39
    exact ⟨_, _, hs, rfl, rfl, h0, fun a _ _ _ => rfl⟩
  · replace hr := hr.go (s_aload_n t5_9 rfl)
    replace hr := hr.go (s_getr t5_10 (hG.2.2.2.2.2.2.2.1))
    replace hr := hr.go (s_aload_n t5_13 rfl)
    replace hr := hr.go (s_getf t5_14)
    replace hr := hr.go (s_iload_n t5_17 rfl)
    replace hr := hr.go (s_iastore t5_18)
    replace hr := hr.go (s_aload_n t5_19 rfl)
    replace hr := hr.go (s_getr t5_20 (hG.2.2.2.2.2.2.2.2.1))
    replace hr := hr.go (s_aload_n t5_23 rfl)
    replace hr := hr.go (s_getf t5_24)
    replace hr := hr.go (s_iload_n t5_27 rfl)
    replace hr := hr.go (s_iastore t5_28)
    replace hr := hr.go (s_aload_n t5_29 rfl)
    replace hr := hr.go (s_dup t5_30 rfl)
    replace hr := hr.go (s_getf t5_31)
    replace hr := hr.go (s_k t5_34)
    replace hr := hr.go (s_iadd t5_35)
    replace hr := hr.go (s_putf t5_36)
    obtain ⟨rfl, hs⟩ := hr.ret t5_39
    refine ⟨_, _, hs, rfl, rfl, ?_, fun a h1 h2 h3 => ?_⟩
    · rw [xu_same, xu_oth (by omega), xu_oth (by omega), xt_add (by rw [k1]; omega) (by rw [k1]; omega)]
      omega
    · rw [xu_row h1, xu_row h3, xu_row h2]

def cntF (kn i : Nat) : (Nat × Nat) ⊕ Unit := if 64 ≤ kn then .inl (2, i) else .inr ()
theorem ct_count {nf : Bool} {xs : List Int32} {d : Nat} {m : xM} {g : xL} {G : xG} {B : eB} {P i kn : Nat} (hG : GP G P) (hs0 : sC B i m) (hk : m 2 4 = Int32.ofNat kn) (hkb : kn ≤ 64) : CT nf xs d 41 [.ref 2] m g G (OC B (cntF kn i) g (fun _ m' => m' = xu m 2 4 (Int32.ofNat (kn + 1)))) := by
  refine CT.of (c := 4) (ini := false) (nL := 1) (rt := some .boolean) (tab := zt41) rfl (fun d' r h' N hd hr => ?_)
  replace hr : RR nf xs d' 4 false 1 (some .boolean) zt41 G r h' N (0, [(0, .ref 2)], [], m, g) := hr
  have k1 : (1 : Int32).toInt = 1 := rfl
  have k2 : (2 : Int32).toInt = 2 := rfl
  have k64 : (64 : Int32).toInt = 64 := rfl
  have q1 : (Int32.ofNat kn).toInt = (kn : Int) := xn_int (by omega)
  replace hr := hr.go (s_aload_n t41_0 rfl)
  replace hr := hr.go (s_getf t41_1)
  replace hr := hr.go (s_k t41_4)
  rw [hk] at hr
  rcases hr.bLt t41_6 with ⟨b6, hr⟩ | ⟨b6, hr⟩
  · replace hr := hr.go (s_aload_n t41_15 rfl)
    replace hr := hr.go (s_dup t41_16 rfl)
    replace hr := hr.go (s_getf t41_17)
    replace hr := hr.go (s_k t41_20)
    replace hr := hr.go (s_iadd t41_21)
    replace hr := hr.go (s_putf t41_22)
    replace hr := hr.go (s_k t41_25)
    obtain ⟨rfl, hs⟩ := hr.iret t41_26
    unfold cntF
    rw [if_neg (by omega)]
    exact ⟨_, _, hs, rfl, rfl, by rw [hk, xn_1]⟩
  · replace hr := hr.go (s_aload_n t41_9 rfl)
    replace hr := hr.go (s_k t41_10)
    obtain ⟨_, m1, _, ⟨rfl, rfl, ho⟩, hr⟩ := hr.callv t41_11 rfl rfl (ct_ref (B := B) (i := i) (f := 2) (α := Unit) (Q := fun _ _ => True) hG.2.1 hs0)
    obtain ⟨rfl, hs⟩ := hr.iret t41_14
    unfold cntF
    rw [if_pos (by omega)]
    exact ⟨_, _, hs, rfl, rfl, ho⟩

theorem lp44 {nf : Bool} {xs : List Int32} {d : Nat} {g : xL} {G : xG} {r : Option Value} {h' : zH} {P sn : Nat} (hG : GP G P) (h1 : 1 ≤ sn) (h6 : sn ≤ 6) : ∀ (N q : Nat) (W : List Int32) (m : xM), stk W m → 0 ≤ (m (P + 17) 4).toInt → q + W.length ≤ 72 → RR nf xs d 4 false 4 none zt44 G r h' N (2, [(3, .int (Int32.ofNat q)), (0, .ref 2), (1, .ref (P + 17)), (2, .int (Int32.ofNat sn))], [], m, g) → ∃ (m' : xM) (g' : xL), HS h' m' g' G ∧ PF none g (fun m' => stk (relW sn W) m' ∧ 0 ≤ (m' (P + 17) 4).toInt ∧ (∀ a : Nat, ¬ a = 2 → ¬ a = P + 17 → ¬ a = P + 18 → ¬ a = P + 19 → m' a = m a) ∧ ∀ k : Nat, ¬ k = 2 → m' 2 k = m 2 k) r m' g' := by
  have h7 := hG.2.2.2.2.1
  have k72 : (Int32.ofNat 72).toInt = 72 := rfl
  have q3 : (Int32.ofNat sn).toInt = (sn : Int) := xn_int (by omega)
  intro N
  induction N with
  | zero => intro q W m _ _ _ hr; exact hr.no.elim
  | succ N ih =>
    intro q W m hW h0 hq hr
    have q1 : (Int32.ofNat q).toInt = (q : Int) := xn_int (by omega)
    have q2 : (Int32.ofNat (str (W.headD 0))).toInt = ((str (W.headD 0) : Nat) : Int) := xn_int (by have := str_le (W.headD 0); omega)
    replace hr := hr.go1 (s_iload_n t44_2 rfl)
    replace hr := hr.go (s_aload_n t44_3 rfl)
    replace hr := hr.go (s_getr t44_4 (hG.2.2.1))
    replace hr := hr.go (s_alen t44_7 (hG.2.2.2.1))
    rcases hr.bGe t44_8 with ⟨b8, hr⟩ | ⟨b8, hr⟩
    · obtain ⟨rfl, hs⟩ := hr.ret t44_47
      cases W with
      | nil => exact ⟨_, _, hs, rfl, rfl, hW, h0, fun _ _ _ _ _ => rfl, fun _ _ => rfl⟩
      | cons x W => exact (by rw [List.length_cons] at hq; omega : False).elim
    · replace hr := hr.go (s_aload_n t44_11 rfl)
      replace hr := hr.cvI t44_12 rfl rfl (ct_top hG hW)
      replace hr := hr.csI t44_15 rfl rfl (ct_str)
      replace hr := hr.go (s_iload_n t44_18 rfl)
      rcases hr.bLt t44_19 with ⟨b19, hr⟩ | ⟨b19, hr⟩
      · obtain ⟨rfl, hs⟩ := hr.ret t44_47
        cases W with
        | nil => exact ⟨_, _, hs, rfl, rfl, hW, h0, fun _ _ _ _ _ => rfl, fun _ _ => rfl⟩
        | cons x W =>
          have hx : ¬ sn ≤ str x := by
            have b19 : (Int32.ofNat (str x)).toInt < _ := b19
            have q2 : (Int32.ofNat (str x)).toInt = ((str x : Nat) : Int) := q2
            omega
          refine ⟨_, _, hs, rfl, rfl, ?_, h0, fun _ _ _ _ _ => rfl, fun _ _ => rfl⟩
          show stk (if sn ≤ str x then relW sn W else x :: W) m
          rw [if_neg hx]
          exact hW
      · replace hr := hr.go (s_aload_n t44_22 rfl)
        replace hr := hr.go (s_aload_n t44_23 rfl)
        replace hr := hr.cvI t44_24 rfl rfl (ct_top hG hW)
        replace hr := hr.go (s_k t44_27)
        obtain ⟨m2, ⟨hz2, hf2⟩, hr⟩ := hr.fvN t44_28 rfl rfl (ct_lput hG h0)
        replace hr := hr.go (s_aload_n t44_31 rfl)
        replace hr := hr.go (s_dup t44_32 rfl)
        replace hr := hr.go (s_getf t44_33)
        replace hr := hr.go (s_k t44_36)
        replace hr := hr.go (s_isub t44_37)
        replace hr := hr.go (s_putf t44_38)
        replace hr := hr.go (s_iinc (ls' := [(3, _), (0, _), (1, _), (2, _)]) t44_41 rfl rfl)
        replace hr := hr.go (s_goto t44_44)
        cases W with
        | nil =>
          have q2 : (Int32.ofNat (str 0)).toInt = ((str 0 : Nat) : Int) := q2
          have b19 : _ ≤ (Int32.ofNat (str 0)).toInt := b19
          have z0 : str 0 = 0 := by decide
          exact (by rw [z0] at q2 b19; omega : False).elim
        | cons x W =>
          have hx : sn ≤ str x := by
            have b19 : _ ≤ (Int32.ofNat (str x)).toInt := b19
            have q2 : (Int32.ofNat (str x)).toInt = ((str x : Nat) : Int) := q2
            omega
          rw [List.length_cons] at hq
          have hW2 : stk (x :: W) m2 := stk_row hW (by rw [hf2 2 (by omega) (by omega) (by omega)]) (hf2 6 (by omega) (by omega) (by omega))
          obtain ⟨m', g', w1, w2, w3, w4, w5, w6, w7⟩ := ih (q + 1) W _ (stk_pop hW2) (by rw [xu_oth (by omega)]; exact hz2) (by omega) (by rw [← xn_1i]; exact hr)
          refine ⟨m', g', w1, w2, w3, ?_, w5, fun a a1 a2 a3 a4 => ?_, fun k hk => ?_⟩
          · show stk (if sn ≤ str x then relW sn W else x :: W) m'
            rw [if_pos hx]
            exact w4
          · rw [w6 a a1 a2 a3 a4, xu_row a1, hf2 a a2 a3 a4]
          · rw [w7 k hk, xu_oth (by omega), hf2 2 (by omega) (by omega) (by omega)]
theorem ct_release {nf : Bool} {xs : List Int32} {d : Nat} {m : xM} {g : xL} {G : xG} {P sn : Nat} {W : List Int32} (hG : GP G P) (h1 : 1 ≤ sn) (h6 : sn ≤ 6) (hW : stk W m) (h0 : 0 ≤ (m (P + 17) 4).toInt) : CT nf xs d 44 [.ref 2, .ref (P + 17), .int (Int32.ofNat sn)] m g G (PF none g (fun m' => stk (relW sn W) m' ∧ 0 ≤ (m' (P + 17) 4).toInt ∧ (∀ a : Nat, ¬ a = 2 → ¬ a = P + 17 → ¬ a = P + 18 → ¬ a = P + 19 → m' a = m a) ∧ ∀ k : Nat, ¬ k = 2 → m' 2 k = m 2 k)) := by
  refine CT.of (c := 4) (ini := false) (nL := 4) (rt := none) (tab := zt44) rfl (fun d' r h' N hd hr => ?_)
  replace hr : RR nf xs d' 4 false 4 none zt44 G r h' N (0, [(0, .ref 2), (1, .ref (P + 17)), (2, .int (Int32.ofNat sn))], [], m, g) := hr
  replace hr := hr.go (s_k t44_0)
  replace hr := hr.go (s_istore_n (ls' := [(3, _), (0, _), (1, _), (2, _)]) t44_1 rfl)
  exact lp44 hG h1 h6 N 0 W m hW h0 (by have := hW.2.1; omega) hr
