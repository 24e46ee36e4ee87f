/-! told of both sides (by program: wip/x/gV9.py). -/
theorem t110_0 : xt zt110 0 1 (.aload_n 0) := ⟨rfl, rfl⟩
theorem t110_1 : xt zt110 1 2 (.iload_n 1) := ⟨rfl, rfl⟩
theorem t110_2 : xtc zt110 10 2 5 (.invokevirtual 185) 185 1 104 1 := ⟨rfl, rfl, rfl⟩
theorem t110_5 : xtb zt110 5 8 15 (.ifCond .eq 10) (10) := ⟨rfl, rfl, rfl⟩
theorem t110_8 : xt zt110 8 9 (.iload_n 2) := ⟨rfl, rfl⟩
theorem t110_9 : xtc zt110 10 9 12 (.invokestatic 201) 201 2 105 1 := ⟨rfl, rfl, rfl⟩
theorem t110_12 : xtb zt110 12 15 17 (.ifCond .ne 5) (5) := ⟨rfl, rfl, rfl⟩
theorem t110_15 : xtk zt110 15 16 (-1) := Or.inl ⟨-1, ⟨rfl, rfl⟩, by decide⟩
theorem t110_16 : xt zt110 16 17 .ireturn := ⟨rfl, rfl⟩
theorem t110_17 : xt zt110 17 18 (.aload_n 0) := ⟨rfl, rfl⟩
theorem t110_18 : xtf zt110 10 18 21 (.getfield 45) 45 10 7 3 := ⟨rfl, rfl, rfl, rfl⟩
theorem t110_21 : xt zt110 21 22 (.iload_n 1) := ⟨rfl, rfl⟩
theorem t110_22 : xt zt110 22 23 (.iload_n 2) := ⟨rfl, rfl⟩
theorem t110_23 : xtc zt110 10 23 26 (.invokevirtual 204) 204 1 49 2 := ⟨rfl, rfl, rfl⟩
theorem t110_26 : xtb zt110 26 29 33 (.ifCond .eq 7) (7) := ⟨rfl, rfl, rfl⟩
theorem t110_29 : xtk zt110 29 30 (1) := Or.inl ⟨1, ⟨rfl, rfl⟩, by decide⟩
theorem t110_30 : xtb zt110 30 33 34 (.goto 4) (4) := ⟨rfl, rfl, rfl⟩
theorem t110_33 : xtk zt110 33 34 (0) := Or.inl ⟨0, ⟨rfl, rfl⟩, by decide⟩
theorem t110_34 : xt zt110 34 35 .ireturn := ⟨rfl, rfl⟩
theorem t221_0 : xt zt221 0 1 (.aload_n 0) := ⟨rfl, rfl⟩
theorem t221_1 : xtk zt221 1 2 (0) := Or.inl ⟨0, ⟨rfl, rfl⟩, by decide⟩
theorem t221_2 : xtf zt221 11 2 5 (.putfield 166) 166 11 0 1 := ⟨rfl, rfl, rfl, rfl⟩
theorem t221_5 : xt zt221 5 6 (.aload_n 0) := ⟨rfl, rfl⟩
theorem t221_6 : xt zt221 6 7 (.iload_n 1) := ⟨rfl, rfl⟩
theorem t221_7 : xtc zt221 11 7 10 (.invokevirtual 458) 458 1 192 1 := ⟨rfl, rfl, rfl⟩
theorem t221_10 : xtb zt221 10 13 34 (.ifCond .eq 24) (24) := ⟨rfl, rfl, rfl⟩
theorem t221_13 : xt zt221 13 14 (.iload_n 2) := ⟨rfl, rfl⟩
theorem t221_14 : xtc zt221 11 14 17 (.invokestatic 465) 465 2 193 1 := ⟨rfl, rfl, rfl⟩
theorem t221_17 : xtb zt221 17 20 34 (.ifCond .eq 17) (17) := ⟨rfl, rfl, rfl⟩
theorem t221_20 : xt zt221 20 21 (.aload_n 0) := ⟨rfl, rfl⟩
theorem t221_21 : xtf zt221 11 21 24 (.getfield 120) 120 11 51 3 := ⟨rfl, rfl, rfl, rfl⟩
theorem t221_24 : xt zt221 24 25 (.iload_n 1) := ⟨rfl, rfl⟩
theorem t221_25 : xt zt221 25 26 .laload := ⟨rfl, rfl⟩
theorem t221_26 : xt zt221 26 27 (.iload_n 2) := ⟨rfl, rfl⟩
theorem t221_27 : xt zt221 27 28 .lshr := ⟨rfl, rfl⟩
theorem t221_28 : xt zt221 28 29 (.lconst 1) := ⟨rfl, rfl⟩
theorem t221_29 : xt zt221 29 30 .land := ⟨rfl, rfl⟩
theorem t221_30 : xt zt221 30 31 .l2i := ⟨rfl, rfl⟩
theorem t221_31 : xtb zt221 31 34 35 (.goto 4) (4) := ⟨rfl, rfl, rfl⟩
theorem t221_34 : xtk zt221 34 35 (-1) := Or.inl ⟨-1, ⟨rfl, rfl⟩, by decide⟩
theorem t221_35 : xt zt221 35 36 .ireturn := ⟨rfl, rfl⟩
theorem and1_0 {x : Int64} (h : bl x 0 = false) : x &&& 1 = 0 := bl_ext (fun i hi => by
  rw [bl_and, bl_1 i hi, bl_0]
  by_cases e : i = 0
  · rw [e, h]; rfl
  · rw [decide_eq_false e, Bool.and_false])
theorem i32_01 : (1 : Int64).toInt32 = bI true ∧ (0 : Int64).toInt32 = bI false := by decide +kernel
theorem sh_b {x : Int64} {v : Nat} (hv : v < 64) : (x >>> ((Int32.ofNat v).toInt64 &&& 63) &&& 1).toInt32 = bI (bl x v) := by
  have h0 : bl (x >>> ((Int32.ofNat v).toInt64 &&& 63)) 0 = bl x v := by rw [bl_shr v hv x (by omega), if_pos (by omega), Nat.add_zero]
  cases e : bl x v with
  | true => rw [(bl_tst hv).mpr e]; exact i32_01.1
  | false => rw [and1_0 (h0.trans e)]; exact i32_01.2
/-- is it told there -/
def TLD (x y : Int32) (J : Nat) (w : Nat → Int64) (r : Option Value) : Prop := ((rdV x (Int32.ofNat J) = 0 ∨ mlV y = 0) ∧ r = some (.int (-1))) ∨ ∃ j : Nat, j < J ∧ x = Int32.ofNat j ∧ ∃ v : Nat, v ≤ 60 ∧ y = Int32.ofNat v ∧ r = some (.int (bI (bl (w j) v)))
theorem ct_toldC {nf : Bool} {xs : List Int32} {d : Nat} {m : xM} {g : xL} {G : xG} {P : Nat} {x y : Int32} {J : Nat} (h7 : G.1 0 7 = some 55) (h5 : G.1 0 5 = some P) (h2 : G.1 P 2 = some (P + 5)) (hA : GQ G 55) (h3 : m (P + 5) 3 = Int32.ofNat J) (hJ : J ≤ 6) : CT nf xs d 110 [.ref 0, .int x, .int y] m g G (fun r m' g' => TLD x y J (g 57) r ∧ m' = m ∧ g' = g) := by
  refine CT.of (c := 10) (ini := false) (nL := 3) (rt := some .int) (tab := zt110) rfl (fun d' r h' N hd hr => ?_)
  replace hr : RR nf xs d' 10 false 3 (some .int) zt110 G r h' N (0, [(0, .ref 0), (1, .int x), (2, .int y)], [], m, g) := hr
  have km1 : (-1 : Int32).toInt = -1 := rfl
  have k1 : (1 : Int32).toInt = 1 := rfl
  replace hr := hr.go (s_aload_n t110_0 rfl)
  replace hr := hr.go (s_iload_n t110_1 rfl)
  replace hr := hr.cvI t110_2 rfl rfl (ct_isJokeC h5 h2)
  rw [h3] at hr
  rcases hr.zEq t110_5 with ⟨b5, hr⟩ | ⟨b5, hr⟩
  · replace hr := hr.go (s_k t110_15)
    obtain ⟨rfl, hs⟩ := hr.iret t110_16
    exact ⟨_, _, hs, Or.inl ⟨Or.inl b5, rfl⟩, rfl, rfl⟩
  · replace hr := hr.go (s_iload_n t110_8 rfl)
    replace hr := hr.csI t110_9 rfl rfl (ct_isMileC)
    rcases hr.zNe t110_12 with ⟨b12, hr⟩ | ⟨b12, hr⟩
    · obtain ⟨j, hj, rfl⟩ := rdV_ok hJ b5
      obtain ⟨v, hv, rfl⟩ := mlV_ok b12
      replace hr := hr.go (s_aload_n t110_17 rfl)
      replace hr := hr.go (s_getr t110_18 (h7))
      replace hr := hr.go (s_iload_n t110_21 rfl)
      replace hr := hr.go (s_iload_n t110_22 rfl)
      replace hr := hr.cvI t110_23 rfl rfl (ct_isToldR (a := 55) (j := j) (v := v) hA.2.1 (by omega) (by omega))
      rcases hr.zEq t110_26 with ⟨b26, hr⟩ | ⟨b26, hr⟩
      · replace hr := hr.go (s_k t110_33)
        obtain ⟨rfl, hs⟩ := hr.iret t110_34
        exact ⟨_, _, hs, Or.inr ⟨j, hj, rfl, v, hv, rfl, congrArg (fun z => some (Value.int z)) b26.symm⟩, rfl, rfl⟩
      · replace hr := hr.go (s_k t110_29)
        replace hr := hr.go (s_goto t110_30)
        obtain ⟨rfl, hs⟩ := hr.iret t110_34
        exact ⟨_, _, hs, Or.inr ⟨j, hj, rfl, v, hv, rfl, by rw [show bl (g 57 j) v = true from bI_1 b26]; rfl⟩, rfl, rfl⟩
    · replace hr := hr.go (s_k t110_15)
      obtain ⟨rfl, hs⟩ := hr.iret t110_16
      exact ⟨_, _, hs, Or.inl ⟨Or.inr b12, rfl⟩, rfl, rfl⟩
theorem ct_toldR {nf : Bool} {xs : List Int32} {d : Nat} {m : xM} {g : xL} {G : xG} {x y : Int32} {J : Nat} (hG : GW G) (g3 : G.1 128 3 = some 130) (hl : G.2 130 = (0, 1, 18)) (h3 : m 130 2 = Int32.ofNat J) (hJ : J ≤ 6) : CT nf xs d 221 [.ref 128, .int x, .int y] m g G (fun r m' g' => TLD x y J (g 164) r ∧ NW m g m' g') := by
  refine CT.of (c := 11) (ini := false) (nL := 3) (rt := some .int) (tab := zt221) rfl (fun d' r h' N hd hr => ?_)
  replace hr : RR nf xs d' 11 false 3 (some .int) zt221 G r h' N (0, [(0, .ref 128), (1, .int x), (2, .int y)], [], m, g) := hr
  have km1 : (-1 : Int32).toInt = -1 := rfl
  replace hr := hr.go (s_aload_n t221_0 rfl)
  replace hr := hr.go (s_k t221_1)
  replace hr := hr.go (s_putf t221_2)
  replace hr := hr.go (s_aload_n t221_5 rfl)
  replace hr := hr.go (s_iload_n t221_6 rfl)
  replace hr := hr.cvI t221_7 rfl rfl (ct_isJokeR g3 hl)
  rw [show xu m 128 0 0 130 2 = Int32.ofNat J from by rw [xu_row (by decide), h3]] at hr
  rcases hr.zEq t221_10 with ⟨b10, hr⟩ | ⟨b10, hr⟩
  · replace hr := hr.go (s_k t221_34)
    obtain ⟨rfl, hs⟩ := hr.iret t221_35
    exact ⟨_, _, hs, Or.inl ⟨Or.inl b10, rfl⟩, NW.x⟩
  · replace hr := hr.go (s_iload_n t221_13 rfl)
    replace hr := hr.csI t221_14 rfl rfl (ct_isMileR)
    rcases hr.zEq t221_17 with ⟨b17, hr⟩ | ⟨b17, hr⟩
    · replace hr := hr.go (s_k t221_34)
      obtain ⟨rfl, hs⟩ := hr.iret t221_35
      exact ⟨_, _, hs, Or.inl ⟨Or.inr b17, rfl⟩, NW.x⟩
    · obtain ⟨j, hj, rfl⟩ := rdV_ok hJ b10
      obtain ⟨v, hv, rfl⟩ := mlV_ok b17
      replace hr := hr.go (s_aload_n t221_20 rfl)
      replace hr := hr.go (s_getr (b := 164) t221_21 (hG.1 51 (by decide) (by decide)))
      replace hr := hr.go (s_iload_n t221_24 rfl)
      replace hr := hr.go (s_laload t221_25)
      rw [xn_nat (show j < 2147483648 by omega)] at hr
      replace hr := hr.go (s_iload_n t221_26 rfl)
      replace hr := hr.go (s_lshr t221_27)
      replace hr := hr.go (s_lconst t221_28)
      replace hr := hr.go (s_land t221_29)
      replace hr := hr.go (s_l2i t221_30)
      replace hr := hr.go (s_goto t221_31)
      obtain ⟨rfl, hs⟩ := hr.iret t221_35
      exact ⟨_, _, hs, Or.inr ⟨j, hj, rfl, v, hv, rfl, congrArg (fun z => some (Value.int z)) (sh_b (x := g 164 j) (v := v) (by omega))⟩, NW.x⟩
