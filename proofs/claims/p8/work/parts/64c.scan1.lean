/-! The class Scanner: what its small methods do. -/
def GS (G : xG) : Prop := G.1 3 0 = some 4 ∧ G.1 3 1 = some 1 ∧ G.2 1 = (0, 1, 700) ∧ G.2 4 = (0, 1, 22)
def pk (m : xM) : Int32 := if 0 ≤ (m 3 3).toInt ∧ (m 3 3).toInt < (m 3 2).toInt ∧ (m 3 3).toInt < 700 then m 1 (m 3 3).toNatClampNeg else -1
def tks (m : xM) (x : Int32) : Bool := decide (0 ≤ (m 3 3).toInt ∧ (m 3 3).toInt < (m 3 2).toInt ∧ (m 3 3).toInt < 700) && decide (m 1 (m 3 3).toNatClampNeg = x)
theorem ct_peek {nf : Bool} {xs : List Int32} {d : Nat} {m : xM} {g : xL} {G : xG} (hG : GS G) : CT nf xs d 74 [.ref 3] m g G (PE (some (.int (pk m))) m g) := by
  refine CT.of (c := 6) (ini := false) (nL := 1) (rt := some .int) (tab := zt74) rfl (fun d' r h' N hd hr => ?_)
  replace hr : RR nf xs d' 6 false 1 (some .int) zt74 G r h' N (0, [(0, .ref 3)], [], m, g) := hr
  have km1 : (-1 : Int32).toInt = -1 := rfl
  have k700 : (Int32.ofNat 700).toInt = 700 := rfl
  replace hr := hr.go (s_aload_n t74_0 rfl)
  replace hr := hr.go (s_getf t74_1)
  rcases hr.zLt t74_4 with ⟨c1, hr⟩ | ⟨c1, hr⟩
  · replace hr := hr.go (s_k t74_42)
    obtain ⟨rfl, hs⟩ := hr.iret t74_43
    exact ⟨_, _, hs, congrArg (fun z => some (Value.int z)) (by unfold pk; first | rw [if_pos (by omega)] | rw [if_neg (by omega)]), rfl, rfl⟩
  · replace hr := hr.go (s_aload_n t74_7 rfl)
    replace hr := hr.go (s_getf t74_8)
    replace hr := hr.go (s_aload_n t74_11 rfl)
    replace hr := hr.go (s_getf t74_12)
    rcases hr.bGe t74_15 with ⟨c2, hr⟩ | ⟨c2, hr⟩
    · replace hr := hr.go (s_k t74_42)
      obtain ⟨rfl, hs⟩ := hr.iret t74_43
      exact ⟨_, _, hs, congrArg (fun z => some (Value.int z)) (by unfold pk; first | rw [if_pos (by omega)] | rw [if_neg (by omega)]), rfl, rfl⟩
    · replace hr := hr.go (s_aload_n t74_18 rfl)
      replace hr := hr.go (s_getf t74_19)
      replace hr := hr.go (s_aload_n t74_22 rfl)
      replace hr := hr.go (s_getr t74_23 (hG.2.1))
      replace hr := hr.go (s_alen t74_26 (hG.2.2.1))
      rcases hr.bGe t74_27 with ⟨c3, hr⟩ | ⟨c3, hr⟩
      · replace hr := hr.go (s_k t74_42)
        obtain ⟨rfl, hs⟩ := hr.iret t74_43
        exact ⟨_, _, hs, congrArg (fun z => some (Value.int z)) (by unfold pk; first | rw [if_pos (by omega)] | rw [if_neg (by omega)]), rfl, rfl⟩
      · replace hr := hr.go (s_aload_n t74_30 rfl)
        replace hr := hr.go (s_getr t74_31 (hG.2.1))
        replace hr := hr.go (s_aload_n t74_34 rfl)
        replace hr := hr.go (s_getf t74_35)
        replace hr := hr.go (s_iaload t74_38 (hG.2.2.1))
        replace hr := hr.go (s_goto t74_39)
        obtain ⟨rfl, hs⟩ := hr.iret t74_43
        exact ⟨_, _, hs, congrArg (fun z => some (Value.int z)) (by unfold pk; first | rw [if_pos (by omega)] | rw [if_neg (by omega)]), rfl, rfl⟩

theorem ct_isLetter {nf : Bool} {xs : List Int32} {d : Nat} {m : xM} {g : xL} {G : xG} {x : Int32} : CT nf xs d 75 [.int x] m g G (PE (some (.int (bI (ltr x)))) m g) := by
  refine CT.of (c := 6) (ini := false) (nL := 1) (rt := some .boolean) (tab := zt75) rfl (fun d' r h' N hd hr => ?_)
  replace hr : RR nf xs d' 6 false 1 (some .boolean) zt75 G r h' N (0, [(0, .int x)], [], m, g) := hr
  have k1 : (1 : Int32).toInt = 1 := rfl
  have k97 : (97 : Int32).toInt = 97 := rfl
  have k122 : (122 : Int32).toInt = 122 := rfl
  replace hr := hr.go (s_iload_n t75_0 rfl)
  replace hr := hr.go (s_k t75_1)
  rcases hr.bLt t75_3 with ⟨c1, hr⟩ | ⟨c1, hr⟩
  · replace hr := hr.go (s_k t75_16)
    obtain ⟨rfl, hs⟩ := hr.iret t75_17
    exact ⟨_, _, hs, congrArg (fun z => some (Value.int z)) (by first | (rw [ltr_t (by omega)]; rfl) | (rw [ltr_f (by omega)]; rfl)), rfl, rfl⟩
  · replace hr := hr.go (s_iload_n t75_6 rfl)
    replace hr := hr.go (s_k t75_7)
    rcases hr.bGt t75_9 with ⟨c2, hr⟩ | ⟨c2, hr⟩
    · replace hr := hr.go (s_k t75_16)
      obtain ⟨rfl, hs⟩ := hr.iret t75_17
      exact ⟨_, _, hs, congrArg (fun z => some (Value.int z)) (by first | (rw [ltr_t (by omega)]; rfl) | (rw [ltr_f (by omega)]; rfl)), rfl, rfl⟩
    · replace hr := hr.go (s_k t75_12)
      replace hr := hr.go (s_goto t75_13)
      obtain ⟨rfl, hs⟩ := hr.iret t75_17
      exact ⟨_, _, hs, congrArg (fun z => some (Value.int z)) (by first | (rw [ltr_t (by omega)]; rfl) | (rw [ltr_f (by omega)]; rfl)), rfl, rfl⟩

theorem ct_isDigit {nf : Bool} {xs : List Int32} {d : Nat} {m : xM} {g : xL} {G : xG} {x : Int32} : CT nf xs d 76 [.int x] m g G (PE (some (.int (bI (dgt x)))) m g) := by
  refine CT.of (c := 6) (ini := false) (nL := 1) (rt := some .boolean) (tab := zt76) rfl (fun d' r h' N hd hr => ?_)
  replace hr : RR nf xs d' 6 false 1 (some .boolean) zt76 G r h' N (0, [(0, .int x)], [], m, g) := hr
  have k1 : (1 : Int32).toInt = 1 := rfl
  have k48 : (48 : Int32).toInt = 48 := rfl
  have k57 : (57 : Int32).toInt = 57 := rfl
  replace hr := hr.go (s_iload_n t76_0 rfl)
  replace hr := hr.go (s_k t76_1)
  rcases hr.bLt t76_3 with ⟨c1, hr⟩ | ⟨c1, hr⟩
  · replace hr := hr.go (s_k t76_16)
    obtain ⟨rfl, hs⟩ := hr.iret t76_17
    exact ⟨_, _, hs, congrArg (fun z => some (Value.int z)) (by first | (rw [dgt_t (by omega)]; rfl) | (rw [dgt_f (by omega)]; rfl)), rfl, rfl⟩
  · replace hr := hr.go (s_iload_n t76_6 rfl)
    replace hr := hr.go (s_k t76_7)
    rcases hr.bGt t76_9 with ⟨c2, hr⟩ | ⟨c2, hr⟩
    · replace hr := hr.go (s_k t76_16)
      obtain ⟨rfl, hs⟩ := hr.iret t76_17
      exact ⟨_, _, hs, congrArg (fun z => some (Value.int z)) (by first | (rw [dgt_t (by omega)]; rfl) | (rw [dgt_f (by omega)]; rfl)), rfl, rfl⟩
    · replace hr := hr.go (s_k t76_12)
      replace hr := hr.go (s_goto t76_13)
      obtain ⟨rfl, hs⟩ := hr.iret t76_17
      exact ⟨_, _, hs, congrArg (fun z => some (Value.int z)) (by first | (rw [dgt_t (by omega)]; rfl) | (rw [dgt_f (by omega)]; rfl)), rfl, rfl⟩

theorem tks_t {m : xM} {x : Int32} (h : 0 ≤ (m 3 3).toInt ∧ (m 3 3).toInt < (m 3 2).toInt ∧ (m 3 3).toInt < 700) (h2 : m 1 (m 3 3).toNatClampNeg = x) : tks m x = true := by unfold tks; rw [decide_eq_true h, decide_eq_true h2]; rfl
theorem tks_f1 {m : xM} {x : Int32} (h : ¬ (0 ≤ (m 3 3).toInt ∧ (m 3 3).toInt < (m 3 2).toInt ∧ (m 3 3).toInt < 700)) : tks m x = false := by unfold tks; rw [decide_eq_false h]; rfl
theorem tks_f2 {m : xM} {x : Int32} (h : ¬ m 1 (m 3 3).toNatClampNeg = x) : tks m x = false := by unfold tks; rw [decide_eq_false h, Bool.and_false]
theorem ct_takes {nf : Bool} {xs : List Int32} {d : Nat} {m : xM} {g : xL} {G : xG} {x : Int32} (hG : GS G) : CT nf xs d 81 [.ref 3, .int x] m g G (PE (some (.int (bI (tks m x)))) (bif tks m x then xu m 3 3 (m 3 3 + 1) else m) g) := by
  refine CT.of (c := 6) (ini := false) (nL := 3) (rt := some .boolean) (tab := zt81) rfl (fun d' r h' N hd hr => ?_)
  replace hr : RR nf xs d' 6 false 3 (some .boolean) zt81 G r h' N (0, [(0, .ref 3), (1, .int x)], [], m, g) := hr
  have k1 : (1 : Int32).toInt = 1 := rfl
  have k700 : (Int32.ofNat 700).toInt = 700 := rfl
  replace hr := hr.go (s_aload_n t81_0 rfl)
  replace hr := hr.go (s_getf t81_1)
  rcases hr.zLt t81_4 with ⟨c1, hr⟩ | ⟨c1, hr⟩
  · replace hr := hr.go (s_k t81_47)
    replace hr := hr.go (s_istore_n t81_48 rfl)
    replace hr := hr.go (s_iload_n t81_49 rfl)
    rcases hr.zEq t81_50 with ⟨c2, hr⟩ | ⟨c2, hr⟩
    · replace hr := hr.go (s_iload_n t81_63 rfl)
      obtain ⟨rfl, hs⟩ := hr.iret t81_64
      exact ⟨_, _, hs, by (first | rw [tks_f1 (by omega)] | rw [tks_f2 (by assumption)]); exact ⟨rfl, rfl, rfl⟩⟩
    · exact absurd c2 (by decide)
  · replace hr := hr.go (s_aload_n t81_7 rfl)
    replace hr := hr.go (s_getf t81_8)
    replace hr := hr.go (s_aload_n t81_11 rfl)
    replace hr := hr.go (s_getf t81_12)
    rcases hr.bGe t81_15 with ⟨c3, hr⟩ | ⟨c3, hr⟩
    · replace hr := hr.go (s_k t81_47)
      replace hr := hr.go (s_istore_n t81_48 rfl)
      replace hr := hr.go (s_iload_n t81_49 rfl)
      rcases hr.zEq t81_50 with ⟨c4, hr⟩ | ⟨c4, hr⟩
      · replace hr := hr.go (s_iload_n t81_63 rfl)
        obtain ⟨rfl, hs⟩ := hr.iret t81_64
        exact ⟨_, _, hs, by (first | rw [tks_f1 (by omega)] | rw [tks_f2 (by assumption)]); exact ⟨rfl, rfl, rfl⟩⟩
      · exact absurd c4 (by decide)
    · replace hr := hr.go (s_aload_n t81_18 rfl)
      replace hr := hr.go (s_getf t81_19)
      replace hr := hr.go (s_aload_n t81_22 rfl)
      replace hr := hr.go (s_getr t81_23 (hG.2.1))
      replace hr := hr.go (s_alen t81_26 (hG.2.2.1))
      rcases hr.bGe t81_27 with ⟨c5, hr⟩ | ⟨c5, hr⟩
      · replace hr := hr.go (s_k t81_47)
        replace hr := hr.go (s_istore_n t81_48 rfl)
        replace hr := hr.go (s_iload_n t81_49 rfl)
        rcases hr.zEq t81_50 with ⟨c6, hr⟩ | ⟨c6, hr⟩
        · replace hr := hr.go (s_iload_n t81_63 rfl)
          obtain ⟨rfl, hs⟩ := hr.iret t81_64
          exact ⟨_, _, hs, by (first | rw [tks_f1 (by omega)] | rw [tks_f2 (by assumption)]); exact ⟨rfl, rfl, rfl⟩⟩
        · exact absurd c6 (by decide)
      · replace hr := hr.go (s_aload_n t81_30 rfl)
        replace hr := hr.go (s_getr t81_31 (hG.2.1))
        replace hr := hr.go (s_aload_n t81_34 rfl)
        replace hr := hr.go (s_getf t81_35)
        replace hr := hr.go (s_iaload t81_38 (hG.2.2.1))
        replace hr := hr.go (s_iload_n t81_39 rfl)
        rcases hr.bNe t81_40 with ⟨c7, hr⟩ | ⟨c7, hr⟩
        · replace hr := hr.go (s_k t81_47)
          replace hr := hr.go (s_istore_n t81_48 rfl)
          replace hr := hr.go (s_iload_n t81_49 rfl)
          rcases hr.zEq t81_50 with ⟨c8, hr⟩ | ⟨c8, hr⟩
          · replace hr := hr.go (s_iload_n t81_63 rfl)
            obtain ⟨rfl, hs⟩ := hr.iret t81_64
            exact ⟨_, _, hs, by (first | rw [tks_f1 (by omega)] | rw [tks_f2 (by assumption)]); exact ⟨rfl, rfl, rfl⟩⟩
          · exact absurd c8 (by decide)
        · replace hr := hr.go (s_k t81_43)
          replace hr := hr.go (s_goto t81_44)
          replace hr := hr.go (s_istore_n t81_48 rfl)
          replace hr := hr.go (s_iload_n t81_49 rfl)
          rcases hr.zEq t81_50 with ⟨c9, hr⟩ | ⟨c9, hr⟩
          · exact absurd c9 (by decide)
          · replace hr := hr.go (s_aload_n t81_53 rfl)
            replace hr := hr.go (s_dup t81_54 rfl)
            replace hr := hr.go (s_getf t81_55)
            replace hr := hr.go (s_k t81_58)
            replace hr := hr.go (s_iadd t81_59)
            replace hr := hr.go (s_putf t81_60)
            replace hr := hr.go (s_iload_n t81_63 rfl)
            obtain ⟨rfl, hs⟩ := hr.iret t81_64
            exact ⟨_, _, hs, by (rw [tks_t (by omega) (by assumption)]); exact ⟨rfl, rfl, rfl⟩⟩
