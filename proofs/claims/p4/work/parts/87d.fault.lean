/-! fault, of both sides. -/
theorem t101_0 : xt zt101 0 1 (.iload_n 1) := ⟨rfl, rfl⟩
theorem t101_1 : xtb zt101 1 4 9 (.ifCond .ne 8) (8) := ⟨rfl, rfl, rfl⟩
theorem t101_4 : xt zt101 4 5 (.aload_n 0) := ⟨rfl, rfl⟩
theorem t101_5 : xtf zt101 10 5 8 (.getfield 17) 17 10 2 1 := ⟨rfl, rfl, rfl, rfl⟩
theorem t101_8 : xt zt101 8 9 .ireturn := ⟨rfl, rfl⟩
theorem t101_9 : xt zt101 9 10 (.iload_n 1) := ⟨rfl, rfl⟩
theorem t101_10 : xtk zt101 10 11 (1) := Or.inl ⟨1, ⟨rfl, rfl⟩, by decide⟩
theorem t101_11 : xtb zt101 11 14 21 (.if_icmp .ne 10) (10) := ⟨rfl, rfl, rfl⟩
theorem t101_14 : xt zt101 14 15 (.aload_n 0) := ⟨rfl, rfl⟩
theorem t101_15 : xtf zt101 10 15 18 (.getfield 20) 20 10 3 1 := ⟨rfl, rfl, rfl, rfl⟩
theorem t101_18 : xtb zt101 18 21 22 (.goto 4) (4) := ⟨rfl, rfl, rfl⟩
theorem t101_21 : xtk zt101 21 22 (-1) := Or.inl ⟨-1, ⟨rfl, rfl⟩, by decide⟩
theorem t101_22 : xt zt101 22 23 .ireturn := ⟨rfl, rfl⟩
theorem t182_0 : xt zt182 0 1 (.aload_n 0) := ⟨rfl, rfl⟩
theorem t182_1 : xtk zt182 1 2 (0) := Or.inl ⟨0, ⟨rfl, rfl⟩, by decide⟩
theorem t182_2 : xtf zt182 11 2 5 (.putfield 166) 166 11 0 1 := ⟨rfl, rfl, rfl, rfl⟩
theorem t182_5 : xt zt182 5 6 (.iload_n 1) := ⟨rfl, rfl⟩
theorem t182_6 : xtb zt182 6 9 16 (.ifCond .ne 10) (10) := ⟨rfl, rfl, rfl⟩
theorem t182_9 : xt zt182 9 10 (.aload_n 0) := ⟨rfl, rfl⟩
theorem t182_10 : xtf zt182 11 10 13 (.getfield 312) 312 11 30 1 := ⟨rfl, rfl, rfl, rfl⟩
theorem t182_13 : xtb zt182 13 16 29 (.goto 16) (16) := ⟨rfl, rfl, rfl⟩
theorem t182_16 : xt zt182 16 17 (.iload_n 1) := ⟨rfl, rfl⟩
theorem t182_17 : xtk zt182 17 18 (1) := Or.inl ⟨1, ⟨rfl, rfl⟩, by decide⟩
theorem t182_18 : xtb zt182 18 21 28 (.if_icmp .ne 10) (10) := ⟨rfl, rfl, rfl⟩
theorem t182_21 : xt zt182 21 22 (.aload_n 0) := ⟨rfl, rfl⟩
theorem t182_22 : xtf zt182 11 22 25 (.getfield 68) 68 11 31 1 := ⟨rfl, rfl, rfl, rfl⟩
theorem t182_25 : xtb zt182 25 28 29 (.goto 4) (4) := ⟨rfl, rfl, rfl⟩
theorem t182_28 : xtk zt182 28 29 (-1) := Or.inl ⟨-1, ⟨rfl, rfl⟩, by decide⟩
theorem t182_29 : xt zt182 29 30 .ireturn := ⟨rfl, rfl⟩
theorem ct_faultC {nf : Bool} {xs : List Int32} {d : Nat} {m : xM} {g : xL} {G : xG} {x : Int32} : CT nf xs d 101 [.ref 0, .int x] m g G (PE (some (.int (if x = 0 then m 0 2 else if x = 1 then m 0 3 else -1))) m g) := by
  refine CT.of (c := 10) (ini := false) (nL := 2) (rt := some .int) (tab := zt101) rfl (fun d' r h' N hd hr => ?_)
  replace hr : RR nf xs d' 10 false 2 (some .int) zt101 G r h' N (0, [(0, .ref 0), (1, .int x)], [], m, g) := hr
  have km1 : (-1 : Int32).toInt = -1 := rfl
  have k1 : (1 : Int32).toInt = 1 := rfl
  replace hr := hr.go (s_iload_n t101_0 rfl)
  rcases hr.zNe t101_1 with ⟨b1, hr⟩ | ⟨b1, hr⟩
  · replace hr := hr.go (s_iload_n t101_9 rfl)
    replace hr := hr.go (s_k t101_10)
    rcases hr.bNe t101_11 with ⟨b11, hr⟩ | ⟨b11, hr⟩
    · replace hr := hr.go (s_k t101_21)
      obtain ⟨rfl, hs⟩ := hr.iret t101_22
      exact ⟨_, _, hs, by repeat (first | rw [if_pos (by assumption)] | rw [if_neg (by assumption)]), rfl, rfl⟩
    · replace hr := hr.go (s_aload_n t101_14 rfl)
      replace hr := hr.go (s_getf t101_15)
      replace hr := hr.go (s_goto t101_18)
      obtain ⟨rfl, hs⟩ := hr.iret t101_22
      exact ⟨_, _, hs, by repeat (first | rw [if_pos (by assumption)] | rw [if_neg (by assumption)]), rfl, rfl⟩
  · replace hr := hr.go (s_aload_n t101_4 rfl)
    replace hr := hr.go (s_getf t101_5)
    obtain ⟨rfl, hs⟩ := hr.iret t101_8
    exact ⟨_, _, hs, by repeat (first | rw [if_pos (by assumption)] | rw [if_neg (by assumption)]), rfl, rfl⟩

theorem ct_faultR {nf : Bool} {xs : List Int32} {d : Nat} {m : xM} {g : xL} {G : xG} {x : Int32} : CT nf xs d 182 [.ref 128, .int x] m g G (fun r _ _ => r = some (.int (if x = 0 then m 128 30 else if x = 1 then m 128 31 else -1))) := by
  refine CT.of (c := 11) (ini := false) (nL := 2) (rt := some .int) (tab := zt182) rfl (fun d' r h' N hd' hr => ?_)
  replace hr : RR nf xs d' 11 false 2 (some .int) zt182 G r h' N (0, [(0, .ref 128), (1, .int x)], [], m, g) := hr
  replace hr := hr.go (s_aload_n t182_0 rfl)
  replace hr := hr.go (s_k t182_1)
  replace hr := hr.go (s_putf t182_2)
  replace hr := hr.go (s_iload_n t182_5 rfl)
  rcases hr.zNe t182_6 with ⟨b6, hr⟩ | ⟨b6, hr⟩
  · replace hr := hr.go (s_iload_n t182_16 rfl)
    replace hr := hr.go (s_k t182_17)
    rcases hr.bNe t182_18 with ⟨b18, hr⟩ | ⟨b18, hr⟩
    · replace hr := hr.go (s_k t182_28)
      obtain ⟨rfl, hs⟩ := hr.iret t182_29
      exact ⟨_, _, hs, by repeat (first | rw [xu_oth (by decide)] | rw [if_pos (by assumption)] | rw [if_neg (by assumption)])⟩
    · replace hr := hr.go (s_aload_n t182_21 rfl)
      replace hr := hr.go (s_getf t182_22)
      replace hr := hr.go (s_goto t182_25)
      obtain ⟨rfl, hs⟩ := hr.iret t182_29
      exact ⟨_, _, hs, by repeat (first | rw [xu_oth (by decide)] | rw [if_pos (by assumption)] | rw [if_neg (by assumption)])⟩
  · replace hr := hr.go (s_aload_n t182_9 rfl)
    replace hr := hr.go (s_getf t182_10)
    replace hr := hr.go (s_goto t182_13)
    obtain ⟨rfl, hs⟩ := hr.iret t182_29
    exact ⟨_, _, hs, by repeat (first | rw [xu_oth (by decide)] | rw [if_pos (by assumption)] | rw [if_neg (by assumption)])⟩
theorem fault_pair {nf : Bool} {xs : List Int32} {d : Nat} {h h1 h2 : zH} {r1 r2 : Option Value} {x : Int32} (hX : lX h) (e1 : zEv (zXt nf xs) zIT zmcl zMt d 101 [.ref 0, .int x] h r1 h1) (e2 : zEv (zXt nf xs) zIT zmcl zMt d 182 [.ref 128, .int x] h1 r2 h2) : r1 = r2 := by
  obtain ⟨m1, g1, hs1, rfl, c1, -⟩ := ct_faultC h r1 h1 (HS_of hX.1) e1
  obtain ⟨m2, g2, hs2, rfl⟩ := ct_faultR h1 r2 h2 (HS_of (zEv_KT _ _ _ _ _ _ e1 hX.1)) e2
  have em1 : gi h1 = gi h := hs1.2.1.trans c1
  rw [em1, hX.2.2.2.2.2.1, hX.2.2.2.2.2.2]
