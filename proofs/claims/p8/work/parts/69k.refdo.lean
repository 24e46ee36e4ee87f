/-! The reference: ears, seat, tell, undo (by program: wip/x/gV7.py). -/
theorem t192_0 : xt zt192 0 1 (.iload_n 1) := ⟨rfl, rfl⟩
theorem t192_1 : xtb zt192 1 4 18 (.ifCond .lt 17) (17) := ⟨rfl, rfl, rfl⟩
theorem t192_4 : xt zt192 4 5 (.iload_n 1) := ⟨rfl, rfl⟩
theorem t192_5 : xt zt192 5 6 (.aload_n 0) := ⟨rfl, rfl⟩
theorem t192_6 : xtf zt192 11 6 9 (.getfield 13) 13 11 3 3 := ⟨rfl, rfl, rfl, rfl⟩
theorem t192_9 : xtk zt192 9 10 (2) := Or.inl ⟨2, ⟨rfl, rfl⟩, by decide⟩
theorem t192_10 : xt zt192 10 11 .iaload := ⟨rfl, rfl⟩
theorem t192_11 : xtb zt192 11 14 18 (.if_icmp .ge 7) (7) := ⟨rfl, rfl, rfl⟩
theorem t192_14 : xtk zt192 14 15 (1) := Or.inl ⟨1, ⟨rfl, rfl⟩, by decide⟩
theorem t192_15 : xtb zt192 15 18 19 (.goto 4) (4) := ⟨rfl, rfl, rfl⟩
theorem t192_18 : xtk zt192 18 19 (0) := Or.inl ⟨0, ⟨rfl, rfl⟩, by decide⟩
theorem t192_19 : xt zt192 19 20 .ireturn := ⟨rfl, rfl⟩
theorem t225_0 : xt zt225 0 1 (.aload_n 0) := ⟨rfl, rfl⟩
theorem t225_1 : xtk zt225 1 2 (0) := Or.inl ⟨0, ⟨rfl, rfl⟩, by decide⟩
theorem t225_2 : xtf zt225 11 2 5 (.putfield 166) 166 11 0 1 := ⟨rfl, rfl, rfl, rfl⟩
theorem t225_5 : xt zt225 5 6 (.aload_n 0) := ⟨rfl, rfl⟩
theorem t225_6 : xt zt225 6 7 (.iload_n 1) := ⟨rfl, rfl⟩
theorem t225_7 : xtc zt225 11 7 10 (.invokevirtual 455) 455 1 191 1 := ⟨rfl, rfl, rfl⟩
theorem t225_10 : xtb zt225 10 13 36 (.ifCond .eq 26) (26) := ⟨rfl, rfl, rfl⟩
theorem t225_13 : xt zt225 13 14 (.aload_n 0) := ⟨rfl, rfl⟩
theorem t225_14 : xtf zt225 11 14 17 (.getfield 93) 93 11 42 3 := ⟨rfl, rfl, rfl, rfl⟩
theorem t225_17 : xtk zt225 17 18 (0) := Or.inl ⟨0, ⟨rfl, rfl⟩, by decide⟩
theorem t225_18 : xt zt225 18 19 .iaload := ⟨rfl, rfl⟩
theorem t225_19 : xt zt225 19 20 (.iload_n 1) := ⟨rfl, rfl⟩
theorem t225_20 : xt zt225 20 21 .ishr := ⟨rfl, rfl⟩
theorem t225_21 : xtk zt225 21 22 (1) := Or.inl ⟨1, ⟨rfl, rfl⟩, by decide⟩
theorem t225_22 : xt zt225 22 23 .iand := ⟨rfl, rfl⟩
theorem t225_23 : xtk zt225 23 24 (1) := Or.inl ⟨1, ⟨rfl, rfl⟩, by decide⟩
theorem t225_24 : xtb zt225 24 27 31 (.if_icmp .ne 7) (7) := ⟨rfl, rfl, rfl⟩
theorem t225_27 : xtk zt225 27 28 (1) := Or.inl ⟨1, ⟨rfl, rfl⟩, by decide⟩
theorem t225_28 : xtb zt225 28 31 32 (.goto 4) (4) := ⟨rfl, rfl, rfl⟩
theorem t225_31 : xtk zt225 31 32 (0) := Or.inl ⟨0, ⟨rfl, rfl⟩, by decide⟩
theorem t225_32 : xt zt225 32 33 (.iload_n 2) := ⟨rfl, rfl⟩
theorem t225_33 : xtb zt225 33 36 38 (.if_icmp .ne 5) (5) := ⟨rfl, rfl, rfl⟩
theorem t225_36 : xtk zt225 36 37 (0) := Or.inl ⟨0, ⟨rfl, rfl⟩, by decide⟩
theorem t225_37 : xt zt225 37 38 .ireturn := ⟨rfl, rfl⟩
theorem t225_38 : xt zt225 38 39 (.aload_n 0) := ⟨rfl, rfl⟩
theorem t225_39 : xtc zt225 11 39 42 (.invokevirtual 472) 472 1 224 0 := ⟨rfl, rfl, rfl⟩
theorem t225_42 : xt zt225 42 43 (.aload_n 0) := ⟨rfl, rfl⟩
theorem t225_43 : xtf zt225 11 43 46 (.getfield 93) 93 11 42 3 := ⟨rfl, rfl, rfl, rfl⟩
theorem t225_46 : xtk zt225 46 47 (0) := Or.inl ⟨0, ⟨rfl, rfl⟩, by decide⟩
theorem t225_47 : xt zt225 47 48 .dup2 := ⟨rfl, rfl⟩
theorem t225_48 : xt zt225 48 49 .iaload := ⟨rfl, rfl⟩
theorem t225_49 : xtk zt225 49 50 (1) := Or.inl ⟨1, ⟨rfl, rfl⟩, by decide⟩
theorem t225_50 : xt zt225 50 51 (.iload_n 1) := ⟨rfl, rfl⟩
theorem t225_51 : xt zt225 51 52 .ishl := ⟨rfl, rfl⟩
theorem t225_52 : xt zt225 52 53 .ixor := ⟨rfl, rfl⟩
theorem t225_53 : xt zt225 53 54 .iastore := ⟨rfl, rfl⟩
theorem t225_54 : xtk zt225 54 55 (1) := Or.inl ⟨1, ⟨rfl, rfl⟩, by decide⟩
theorem t225_55 : xt zt225 55 56 .ireturn := ⟨rfl, rfl⟩
theorem t226_0 : xt zt226 0 1 (.aload_n 0) := ⟨rfl, rfl⟩
theorem t226_1 : xtk zt226 1 2 (0) := Or.inl ⟨0, ⟨rfl, rfl⟩, by decide⟩
theorem t226_2 : xtf zt226 11 2 5 (.putfield 166) 166 11 0 1 := ⟨rfl, rfl, rfl, rfl⟩
theorem t226_5 : xt zt226 5 6 (.aload_n 0) := ⟨rfl, rfl⟩
theorem t226_6 : xt zt226 6 7 (.iload_n 1) := ⟨rfl, rfl⟩
theorem t226_7 : xtc zt226 11 7 10 (.invokevirtual 455) 455 1 191 1 := ⟨rfl, rfl, rfl⟩
theorem t226_10 : xtb zt226 10 13 33 (.ifCond .eq 23) (23) := ⟨rfl, rfl, rfl⟩
theorem t226_13 : xt zt226 13 14 (.iload_n 2) := ⟨rfl, rfl⟩
theorem t226_14 : xtb zt226 14 17 33 (.ifCond .lt 19) (19) := ⟨rfl, rfl, rfl⟩
theorem t226_17 : xt zt226 17 18 (.iload_n 2) := ⟨rfl, rfl⟩
theorem t226_18 : xtk zt226 18 20 (9) := Or.inr (Or.inl ⟨9, ⟨rfl, rfl⟩, by decide⟩)
theorem t226_20 : xtb zt226 20 23 33 (.if_icmp .gt 13) (13) := ⟨rfl, rfl, rfl⟩
theorem t226_23 : xt zt226 23 24 (.aload_n 0) := ⟨rfl, rfl⟩
theorem t226_24 : xtf zt226 11 24 27 (.getfield 96) 96 11 43 3 := ⟨rfl, rfl, rfl, rfl⟩
theorem t226_27 : xt zt226 27 28 (.iload_n 1) := ⟨rfl, rfl⟩
theorem t226_28 : xt zt226 28 29 .iaload := ⟨rfl, rfl⟩
theorem t226_29 : xt zt226 29 30 (.iload_n 2) := ⟨rfl, rfl⟩
theorem t226_30 : xtb zt226 30 33 35 (.if_icmp .ne 5) (5) := ⟨rfl, rfl, rfl⟩
theorem t226_33 : xtk zt226 33 34 (0) := Or.inl ⟨0, ⟨rfl, rfl⟩, by decide⟩
theorem t226_34 : xt zt226 34 35 .ireturn := ⟨rfl, rfl⟩
theorem t226_35 : xt zt226 35 36 (.aload_n 0) := ⟨rfl, rfl⟩
theorem t226_36 : xtc zt226 11 36 39 (.invokevirtual 472) 472 1 224 0 := ⟨rfl, rfl, rfl⟩
theorem t226_39 : xt zt226 39 40 (.aload_n 0) := ⟨rfl, rfl⟩
theorem t226_40 : xtf zt226 11 40 43 (.getfield 96) 96 11 43 3 := ⟨rfl, rfl, rfl, rfl⟩
theorem t226_43 : xt zt226 43 44 (.iload_n 1) := ⟨rfl, rfl⟩
theorem t226_44 : xt zt226 44 45 (.iload_n 2) := ⟨rfl, rfl⟩
theorem t226_45 : xt zt226 45 46 .iastore := ⟨rfl, rfl⟩
theorem t226_46 : xtk zt226 46 47 (1) := Or.inl ⟨1, ⟨rfl, rfl⟩, by decide⟩
theorem t226_47 : xt zt226 47 48 .ireturn := ⟨rfl, rfl⟩
theorem t227_0 : xt zt227 0 1 (.aload_n 0) := ⟨rfl, rfl⟩
theorem t227_1 : xtk zt227 1 2 (0) := Or.inl ⟨0, ⟨rfl, rfl⟩, by decide⟩
theorem t227_2 : xtf zt227 11 2 5 (.putfield 166) 166 11 0 1 := ⟨rfl, rfl, rfl, rfl⟩
theorem t227_5 : xt zt227 5 6 (.aload_n 0) := ⟨rfl, rfl⟩
theorem t227_6 : xt zt227 6 7 (.iload_n 1) := ⟨rfl, rfl⟩
theorem t227_7 : xtc zt227 11 7 10 (.invokevirtual 458) 458 1 192 1 := ⟨rfl, rfl, rfl⟩
theorem t227_10 : xtb zt227 10 13 44 (.ifCond .eq 34) (34) := ⟨rfl, rfl, rfl⟩
theorem t227_13 : xt zt227 13 14 (.iload_n 2) := ⟨rfl, rfl⟩
theorem t227_14 : xtc zt227 11 14 17 (.invokestatic 465) 465 2 193 1 := ⟨rfl, rfl, rfl⟩
theorem t227_17 : xtb zt227 17 20 44 (.ifCond .eq 27) (27) := ⟨rfl, rfl, rfl⟩
theorem t227_20 : xt zt227 20 21 (.aload_n 0) := ⟨rfl, rfl⟩
theorem t227_21 : xtf zt227 11 21 24 (.getfield 120) 120 11 51 3 := ⟨rfl, rfl, rfl, rfl⟩
theorem t227_24 : xt zt227 24 25 (.iload_n 1) := ⟨rfl, rfl⟩
theorem t227_25 : xt zt227 25 26 .laload := ⟨rfl, rfl⟩
theorem t227_26 : xt zt227 26 27 (.iload_n 2) := ⟨rfl, rfl⟩
theorem t227_27 : xt zt227 27 28 .lshr := ⟨rfl, rfl⟩
theorem t227_28 : xt zt227 28 29 (.lconst 1) := ⟨rfl, rfl⟩
theorem t227_29 : xt zt227 29 30 .land := ⟨rfl, rfl⟩
theorem t227_30 : xt zt227 30 31 (.lconst 1) := ⟨rfl, rfl⟩
theorem t227_31 : xt zt227 31 32 .lcmp := ⟨rfl, rfl⟩
theorem t227_32 : xtb zt227 32 35 39 (.ifCond .ne 7) (7) := ⟨rfl, rfl, rfl⟩
theorem t227_35 : xtk zt227 35 36 (1) := Or.inl ⟨1, ⟨rfl, rfl⟩, by decide⟩
theorem t227_36 : xtb zt227 36 39 40 (.goto 4) (4) := ⟨rfl, rfl, rfl⟩
theorem t227_39 : xtk zt227 39 40 (0) := Or.inl ⟨0, ⟨rfl, rfl⟩, by decide⟩
theorem t227_40 : xt zt227 40 41 (.iload_n 3) := ⟨rfl, rfl⟩
theorem t227_41 : xtb zt227 41 44 46 (.if_icmp .ne 5) (5) := ⟨rfl, rfl, rfl⟩
theorem t227_44 : xtk zt227 44 45 (0) := Or.inl ⟨0, ⟨rfl, rfl⟩, by decide⟩
theorem t227_45 : xt zt227 45 46 .ireturn := ⟨rfl, rfl⟩
theorem t227_46 : xt zt227 46 47 (.aload_n 0) := ⟨rfl, rfl⟩
theorem t227_47 : xtc zt227 11 47 50 (.invokevirtual 472) 472 1 224 0 := ⟨rfl, rfl, rfl⟩
theorem t227_50 : xt zt227 50 51 (.aload_n 0) := ⟨rfl, rfl⟩
theorem t227_51 : xtf zt227 11 51 54 (.getfield 120) 120 11 51 3 := ⟨rfl, rfl, rfl, rfl⟩
theorem t227_54 : xt zt227 54 55 (.iload_n 1) := ⟨rfl, rfl⟩
theorem t227_55 : xt zt227 55 56 .dup2 := ⟨rfl, rfl⟩
theorem t227_56 : xt zt227 56 57 .laload := ⟨rfl, rfl⟩
theorem t227_57 : xt zt227 57 58 (.lconst 1) := ⟨rfl, rfl⟩
theorem t227_58 : xt zt227 58 59 (.iload_n 2) := ⟨rfl, rfl⟩
theorem t227_59 : xt zt227 59 60 .lshl := ⟨rfl, rfl⟩
theorem t227_60 : xt zt227 60 61 .lxor := ⟨rfl, rfl⟩
theorem t227_61 : xt zt227 61 62 .lastore := ⟨rfl, rfl⟩
theorem t227_62 : xtk zt227 62 63 (1) := Or.inl ⟨1, ⟨rfl, rfl⟩, by decide⟩
theorem t227_63 : xt zt227 63 64 .ireturn := ⟨rfl, rfl⟩
theorem t257_0 : xt zt257 0 1 (.aload_n 0) := ⟨rfl, rfl⟩
theorem t257_1 : xtk zt257 1 2 (0) := Or.inl ⟨0, ⟨rfl, rfl⟩, by decide⟩
theorem t257_2 : xtf zt257 11 2 5 (.putfield 166) 166 11 0 1 := ⟨rfl, rfl, rfl, rfl⟩
theorem t257_5 : xt zt257 5 6 (.aload_n 0) := ⟨rfl, rfl⟩
theorem t257_6 : xtf zt257 11 6 9 (.getfield 326) 326 11 54 1 := ⟨rfl, rfl, rfl, rfl⟩
theorem t257_9 : xtb zt257 9 12 14 (.ifCond .ne 5) (5) := ⟨rfl, rfl, rfl⟩
theorem t257_12 : xtk zt257 12 13 (-1) := Or.inl ⟨-1, ⟨rfl, rfl⟩, by decide⟩
theorem t257_13 : xt zt257 13 14 .ireturn := ⟨rfl, rfl⟩
theorem t257_14 : xt zt257 14 15 (.aload_n 0) := ⟨rfl, rfl⟩
theorem t257_15 : xt zt257 15 16 .dup := ⟨rfl, rfl⟩
theorem t257_16 : xtf zt257 11 16 19 (.getfield 326) 326 11 54 1 := ⟨rfl, rfl, rfl, rfl⟩
theorem t257_19 : xtk zt257 19 20 (1) := Or.inl ⟨1, ⟨rfl, rfl⟩, by decide⟩
theorem t257_20 : xt zt257 20 21 .isub := ⟨rfl, rfl⟩
theorem t257_21 : xtf zt257 11 21 24 (.putfield 326) 326 11 54 1 := ⟨rfl, rfl, rfl, rfl⟩
theorem t257_24 : xt zt257 24 25 (.aload_n 0) := ⟨rfl, rfl⟩
theorem t257_25 : xtk zt257 25 26 (0) := Or.inl ⟨0, ⟨rfl, rfl⟩, by decide⟩
theorem t257_26 : xtk zt257 26 27 (4) := Or.inl ⟨4, ⟨rfl, rfl⟩, by decide⟩
theorem t257_27 : xt zt257 27 28 (.aload_n 0) := ⟨rfl, rfl⟩
theorem t257_28 : xtf zt257 11 28 31 (.getfield 326) 326 11 54 1 := ⟨rfl, rfl, rfl, rfl⟩
theorem t257_31 : xt zt257 31 32 .iadd := ⟨rfl, rfl⟩
theorem t257_32 : xtc zt257 11 32 35 (.invokevirtual 449) 449 1 190 2 := ⟨rfl, rfl, rfl⟩
theorem t257_35 : xt zt257 35 36 (.aload_n 0) := ⟨rfl, rfl⟩
theorem t257_36 : xtf zt257 11 36 39 (.getfield 326) 326 11 54 1 := ⟨rfl, rfl, rfl, rfl⟩
theorem t257_39 : xt zt257 39 40 .ireturn := ⟨rfl, rfl⟩
section XI
variable {nf : Bool} {xs : List Int32} {d c : Nat} {ini : Bool} {nL : Nat} {rt : Option FieldType} {tab : Nat → Option (Instr × Nat)} {G : xG} {r : Option Value} {h' : zH} {pc pc' len : Nat} {ls ls' : zL} {st : List Value} {m : xM} {g : xL} {N : Nat}
theorem s_ixor {x y : Int32} (t : xt tab pc pc' .ixor) : XS nf xs d c ini nL rt tab G r h' (pc, ls, .int y :: .int x :: st, m, g) (pc', ls, .int (x ^^^ y) :: st, m, g) := by
  obtain ⟨t, rfl⟩ := t
  exact xpure t rfl rfl (fun _ => rfl) (fun h s q => by cases q; rfl)
end XI
/-- nothing is written but whether it threw -/
def NW (m : xM) (g : xL) (m' : xM) (g' : xL) : Prop := (∀ c : Nat, ¬ c = 128 → m' c = m c) ∧ (∀ k : Nat, ¬ k = 0 → m' 128 k = m 128 k) ∧ g' = g
theorem NW.x {m : xM} {g : xL} : NW m g (xu m 128 0 0) g := ⟨fun c hc => xu_row hc, fun k hk => xu_oth (by omega), rfl⟩
theorem row_er {m : xM} {g : xL} (q : Nat) : rowOf (xu m 128 0 0) g q = rowOf m g q := rowOf_st (fun c c0 _ => xu_row (by omega)) rfl
def EAR (x y : Int32) (R n : Nat) (m : xM) (g : xL) (r : Option Value) (m' : xM) (g' : xL) : Prop := (rdV x (Int32.ofNat R) = 0 ∧ r = some (.int 0) ∧ NW m g m' g') ∨ ∃ p : Nat, p < R ∧ x = Int32.ofNat p ∧ ((bI (bj (m 155 0) p) = y ∧ r = some (.int 0) ∧ NW m g m' g') ∨ (¬ bI (bj (m 155 0) p) = y ∧ r = some (.int 1) ∧ ∃ m1 : xM, KNP n (xu m 128 0 0) g m1 g' ∧ m' = xu m1 155 0 (m1 155 0 ^^^ ((1 : Int32) <<< (Int32.ofNat p &&& 31)))))
def SER (x y : Int32) (R n : Nat) (m : xM) (g : xL) (r : Option Value) (m' : xM) (g' : xL) : Prop := ((rdV x (Int32.ofNat R) = 0 ∨ y.toInt < 0 ∨ 9 < y.toInt) ∧ r = some (.int 0) ∧ NW m g m' g') ∨ ∃ p : Nat, p < R ∧ x = Int32.ofNat p ∧ 0 ≤ y.toInt ∧ y.toInt ≤ 9 ∧ ((m 156 p = y ∧ r = some (.int 0) ∧ NW m g m' g') ∨ (¬ m 156 p = y ∧ r = some (.int 1) ∧ ∃ m1 : xM, KNP n (xu m 128 0 0) g m1 g' ∧ m' = xu m1 156 p y))
def TER (x y z : Int32) (J n : Nat) (m : xM) (g : xL) (r : Option Value) (m' : xM) (g' : xL) : Prop := ((rdV x (Int32.ofNat J) = 0 ∨ mlV y = 0) ∧ r = some (.int 0) ∧ NW m g m' g') ∨ ∃ j : Nat, j < J ∧ x = Int32.ofNat j ∧ ∃ v : Nat, v ≤ 60 ∧ y = Int32.ofNat v ∧ ((bI (bl (g 164 j) v) = z ∧ r = some (.int 0) ∧ NW m g m' g') ∨ (¬ bI (bl (g 164 j) v) = z ∧ r = some (.int 1) ∧ ∃ g1 : xL, KNP n (xu m 128 0 0) g m' g1 ∧ g' = xu g1 164 j (flB (Int32.ofNat v) (g1 164 j))))
theorem ct_isJokeR {nf : Bool} {xs : List Int32} {d : Nat} {m : xM} {g : xL} {G : xG} {x : Int32} (h3 : G.1 128 3 = some 130) (hl : G.2 130 = (0, 1, 18)) : CT nf xs d 192 [.ref 128, .int x] m g G (PE (some (.int (rdV x (m 130 2)))) m g) := by
  refine CT.of (c := 11) (ini := false) (nL := 2) (rt := some .boolean) (tab := zt192) rfl (fun d' r h' N hd hr => ?_)
  replace hr : RR nf xs d' 11 false 2 (some .boolean) zt192 G r h' N (0, [(0, .ref 128), (1, .int x)], [], m, g) := hr
  have k1 : (1 : Int32).toInt = 1 := rfl
  have k2 : (2 : Int32).toInt = 2 := rfl
  replace hr := hr.go (s_iload_n t192_0 rfl)
  rcases hr.zLt t192_1 with ⟨b1, hr⟩ | ⟨b1, hr⟩
  · replace hr := hr.go (s_k t192_18)
    obtain ⟨rfl, hs⟩ := hr.iret t192_19
    exact ⟨_, _, hs, by unfold rdV; repeat (first | rw [if_pos (by omega)] | rw [if_neg (by omega)]), rfl, rfl⟩
  · replace hr := hr.go (s_iload_n t192_4 rfl)
    replace hr := hr.go (s_aload_n t192_5 rfl)
    replace hr := hr.go (s_getr t192_6 (h3))
    replace hr := hr.go (s_k t192_9)
    replace hr := hr.go (s_iaload t192_10 (hl))
    replace hr : RR nf xs d' 11 false 2 (some .boolean) zt192 G r h' N (11, [(0, .ref 128), (1, .int x)], [.int (m 130 2), .int x], m, g) := hr
    rcases hr.bGe t192_11 with ⟨b11, hr⟩ | ⟨b11, hr⟩
    · replace hr := hr.go (s_k t192_18)
      obtain ⟨rfl, hs⟩ := hr.iret t192_19
      exact ⟨_, _, hs, by unfold rdV; repeat (first | rw [if_pos (by omega)] | rw [if_neg (by omega)]), rfl, rfl⟩
    · replace hr := hr.go (s_k t192_14)
      replace hr := hr.go (s_goto t192_15)
      obtain ⟨rfl, hs⟩ := hr.iret t192_19
      exact ⟨_, _, hs, by unfold rdV; repeat (first | rw [if_pos (by omega)] | rw [if_neg (by omega)]), rfl, rfl⟩
theorem ct_earsR {nf : Bool} {xs : List Int32} {d : Nat} {m : xM} {g : xL} {G : xG} {x y : Int32} {R n : Nat} (hG : GW G) (g3 : G.1 128 3 = some 130) (hl : G.2 130 = (0, 1, 18)) (h3 : m 130 1 = Int32.ofNat R) (hR : R ≤ 6) (hn : n ≤ 20) (h54 : m 128 54 = Int32.ofNat n) : CT nf xs d 225 [.ref 128, .int x, .int y] m g G (fun r m' g' => EAR x y R n m g r m' g') := by
  refine CT.of (c := 11) (ini := false) (nL := 3) (rt := some .boolean) (tab := zt225) rfl (fun d' r h' N hd hr => ?_)
  replace hr : RR nf xs d' 11 false 3 (some .boolean) zt225 G r h' N (0, [(0, .ref 128), (1, .int x), (2, .int y)], [], m, g) := hr
  have k1 : (1 : Int32).toInt = 1 := rfl
  obtain ⟨L155, h155⟩ := hG.2 155 (by decide) (by decide)
  replace hr := hr.go (s_aload_n t225_0 rfl)
  replace hr := hr.go (s_k t225_1)
  replace hr := hr.go (s_putf t225_2)
  replace hr := hr.go (s_aload_n t225_5 rfl)
  replace hr := hr.go (s_iload_n t225_6 rfl)
  replace hr := hr.cvI t225_7 rfl rfl (ct_isRiderR g3 hl)
  rw [show xu m 128 0 0 130 1 = Int32.ofNat R from by rw [xu_row (by decide), h3]] at hr
  rcases hr.zEq t225_10 with ⟨b10, hr⟩ | ⟨b10, hr⟩
  · replace hr := hr.go (s_k t225_36)
    obtain ⟨rfl, hs⟩ := hr.iret t225_37
    exact ⟨_, _, hs, Or.inl ⟨b10, rfl, NW.x⟩⟩
  · obtain ⟨p, hp, rfl⟩ := rdV_ok hR b10
    replace hr := hr.go (s_aload_n t225_13 rfl)
    replace hr := hr.go (s_getr t225_14 (hG.1 42 (by decide) (by decide)))
    replace hr := hr.go (s_k t225_17)
    replace hr := hr.go (s_iaload t225_18 (h155))
    rw [show xu m 128 0 0 155 (Int32.toNatClampNeg 0) = m 155 0 from by rw [xu_row (by decide)]; rfl] at hr
    replace hr := hr.go (s_iload_n t225_19 rfl)
    replace hr := hr.go (s_ishr t225_20)
    replace hr := hr.go (s_k t225_21)
    replace hr := hr.go (s_iand t225_22)
    replace hr := hr.go (s_k t225_23)
    rcases hr.bNe t225_24 with ⟨b24, hr⟩ | ⟨b24, hr⟩
    · replace hr := hr.go (s_k t225_31)
      have hb : bI (bj (m 155 0) p) = 0 := by
        cases e : bj (m 155 0) p with
        | false => rfl
        | true => exact absurd ((bj_tst (by omega)).mpr e) b24
      replace hr := hr.go (s_iload_n t225_32 rfl)
      rcases hr.bNe t225_33 with ⟨b33, hr⟩ | ⟨b33, hr⟩
      · replace hr := hr.go (s_aload_n t225_38 rfl)
        obtain ⟨_, m1, g1, ⟨rfl, hq⟩, hr⟩ := hr.callv t225_39 rfl rfl (ct_keepNow (n := n) hG hn (by rw [xu_oth (by decide), h54]))
        replace hr : RR nf xs d' 11 false 3 (some .boolean) zt225 G r h' N (42, [(0, .ref 128), (1, .int (Int32.ofNat p)), (2, .int y)], [], m1, g1) := hr
        skip
        replace hr := hr.go (s_aload_n t225_42 rfl)
        replace hr := hr.go (s_getr t225_43 (hG.1 42 (by decide) (by decide)))
        replace hr := hr.go (s_k t225_46)
        replace hr := hr.go (s_dup2 t225_47)
        replace hr := hr.go (s_iaload t225_48 (h155))
        replace hr := hr.go (s_k t225_49)
        replace hr := hr.go (s_iload_n t225_50 rfl)
        replace hr := hr.go (s_ishl t225_51)
        replace hr := hr.go (s_ixor t225_52)
        replace hr := hr.go (s_iastore t225_53)
        replace hr := hr.go (s_k t225_54)
        obtain ⟨rfl, hs⟩ := hr.iret t225_55
        exact ⟨_, _, hs, Or.inr ⟨p, hp, rfl, Or.inr ⟨fun q => b33 (hb.symm.trans q), rfl, m1, hq, rfl⟩⟩⟩
      · replace hr := hr.go (s_k t225_36)
        obtain ⟨rfl, hs⟩ := hr.iret t225_37
        exact ⟨_, _, hs, Or.inr ⟨p, hp, rfl, Or.inl ⟨hb.trans b33, rfl, NW.x⟩⟩⟩
    · replace hr := hr.go (s_k t225_27)
      replace hr := hr.go (s_goto t225_28)
      have hb : bI (bj (m 155 0) p) = 1 := by rw [(bj_tst (by omega)).mp b24]; rfl
      replace hr := hr.go (s_iload_n t225_32 rfl)
      rcases hr.bNe t225_33 with ⟨b33, hr⟩ | ⟨b33, hr⟩
      · replace hr := hr.go (s_aload_n t225_38 rfl)
        obtain ⟨_, m1, g1, ⟨rfl, hq⟩, hr⟩ := hr.callv t225_39 rfl rfl (ct_keepNow (n := n) hG hn (by rw [xu_oth (by decide), h54]))
        replace hr : RR nf xs d' 11 false 3 (some .boolean) zt225 G r h' N (42, [(0, .ref 128), (1, .int (Int32.ofNat p)), (2, .int y)], [], m1, g1) := hr
        skip
        replace hr := hr.go (s_aload_n t225_42 rfl)
        replace hr := hr.go (s_getr t225_43 (hG.1 42 (by decide) (by decide)))
        replace hr := hr.go (s_k t225_46)
        replace hr := hr.go (s_dup2 t225_47)
        replace hr := hr.go (s_iaload t225_48 (h155))
        replace hr := hr.go (s_k t225_49)
        replace hr := hr.go (s_iload_n t225_50 rfl)
        replace hr := hr.go (s_ishl t225_51)
        replace hr := hr.go (s_ixor t225_52)
        replace hr := hr.go (s_iastore t225_53)
        replace hr := hr.go (s_k t225_54)
        obtain ⟨rfl, hs⟩ := hr.iret t225_55
        exact ⟨_, _, hs, Or.inr ⟨p, hp, rfl, Or.inr ⟨fun q => b33 (hb.symm.trans q), rfl, m1, hq, rfl⟩⟩⟩
      · replace hr := hr.go (s_k t225_36)
        obtain ⟨rfl, hs⟩ := hr.iret t225_37
        exact ⟨_, _, hs, Or.inr ⟨p, hp, rfl, Or.inl ⟨hb.trans b33, rfl, NW.x⟩⟩⟩
theorem ct_seatR {nf : Bool} {xs : List Int32} {d : Nat} {m : xM} {g : xL} {G : xG} {x y : Int32} {R n : Nat} (hG : GW G) (g3 : G.1 128 3 = some 130) (hl : G.2 130 = (0, 1, 18)) (h3 : m 130 1 = Int32.ofNat R) (hR : R ≤ 6) (hn : n ≤ 20) (h54 : m 128 54 = Int32.ofNat n) : CT nf xs d 226 [.ref 128, .int x, .int y] m g G (fun r m' g' => SER x y R n m g r m' g') := by
  refine CT.of (c := 11) (ini := false) (nL := 3) (rt := some .boolean) (tab := zt226) rfl (fun d' r h' N hd hr => ?_)
  replace hr : RR nf xs d' 11 false 3 (some .boolean) zt226 G r h' N (0, [(0, .ref 128), (1, .int x), (2, .int y)], [], m, g) := hr
  have k1 : (1 : Int32).toInt = 1 := rfl
  have k9 : (9 : Int32).toInt = 9 := rfl
  obtain ⟨L156, h156⟩ := hG.2 156 (by decide) (by decide)
  replace hr := hr.go (s_aload_n t226_0 rfl)
  replace hr := hr.go (s_k t226_1)
  replace hr := hr.go (s_putf t226_2)
  replace hr := hr.go (s_aload_n t226_5 rfl)
  replace hr := hr.go (s_iload_n t226_6 rfl)
  replace hr := hr.cvI t226_7 rfl rfl (ct_isRiderR g3 hl)
  rw [show xu m 128 0 0 130 1 = Int32.ofNat R from by rw [xu_row (by decide), h3]] at hr
  rcases hr.zEq t226_10 with ⟨b10, hr⟩ | ⟨b10, hr⟩
  · replace hr := hr.go (s_k t226_33)
    obtain ⟨rfl, hs⟩ := hr.iret t226_34
    exact ⟨_, _, hs, Or.inl ⟨Or.inl b10, rfl, NW.x⟩⟩
  · replace hr := hr.go (s_iload_n t226_13 rfl)
    rcases hr.zLt t226_14 with ⟨b14, hr⟩ | ⟨b14, hr⟩
    · replace hr := hr.go (s_k t226_33)
      obtain ⟨rfl, hs⟩ := hr.iret t226_34
      exact ⟨_, _, hs, Or.inl ⟨Or.inr (Or.inl b14), rfl, NW.x⟩⟩
    · replace hr := hr.go (s_iload_n t226_17 rfl)
      replace hr := hr.go (s_k t226_18)
      rcases hr.bGt t226_20 with ⟨b20, hr⟩ | ⟨b20, hr⟩
      · replace hr := hr.go (s_k t226_33)
        obtain ⟨rfl, hs⟩ := hr.iret t226_34
        exact ⟨_, _, hs, Or.inl ⟨Or.inr (Or.inr (by omega)), rfl, NW.x⟩⟩
      · obtain ⟨p, hp, rfl⟩ := rdV_ok hR b10
        replace hr := hr.go (s_aload_n t226_23 rfl)
        replace hr := hr.go (s_getr t226_24 (hG.1 43 (by decide) (by decide)))
        replace hr := hr.go (s_iload_n t226_27 rfl)
        replace hr := hr.go (s_iaload t226_28 (h156))
        rw [xn_nat (show p < 2147483648 by omega), show xu m 128 0 0 156 p = m 156 p from by rw [xu_row (by decide)]] at hr
        replace hr := hr.go (s_iload_n t226_29 rfl)
        rcases hr.bNe t226_30 with ⟨b30, hr⟩ | ⟨b30, hr⟩
        · replace hr := hr.go (s_aload_n t226_35 rfl)
          obtain ⟨_, m1, g1, ⟨rfl, hq⟩, hr⟩ := hr.callv t226_36 rfl rfl (ct_keepNow (n := n) hG hn (by rw [xu_oth (by decide), h54]))
          replace hr : RR nf xs d' 11 false 3 (some .boolean) zt226 G r h' N (39, [(0, .ref 128), (1, .int (Int32.ofNat p)), (2, .int y)], [], m1, g1) := hr
          skip
          replace hr := hr.go (s_aload_n t226_39 rfl)
          replace hr := hr.go (s_getr t226_40 (hG.1 43 (by decide) (by decide)))
          replace hr := hr.go (s_iload_n t226_43 rfl)
          replace hr := hr.go (s_iload_n t226_44 rfl)
          replace hr := hr.go (s_iastore t226_45)
          rw [xn_nat (show p < 2147483648 by omega)] at hr
          replace hr := hr.go (s_k t226_46)
          obtain ⟨rfl, hs⟩ := hr.iret t226_47
          exact ⟨_, _, hs, Or.inr ⟨p, hp, rfl, b14, by omega, Or.inr ⟨b30, rfl, m1, hq, rfl⟩⟩⟩
        · replace hr := hr.go (s_k t226_33)
          obtain ⟨rfl, hs⟩ := hr.iret t226_34
          exact ⟨_, _, hs, Or.inr ⟨p, hp, rfl, b14, by omega, Or.inl ⟨b30, rfl, NW.x⟩⟩⟩
theorem ct_tellR {nf : Bool} {xs : List Int32} {d : Nat} {m : xM} {g : xL} {G : xG} {x y z : Int32} {J n : Nat} (hG : GW G) (g3 : G.1 128 3 = some 130) (hl : G.2 130 = (0, 1, 18)) (h3 : m 130 2 = Int32.ofNat J) (hJ : J ≤ 6) (hn : n ≤ 20) (h54 : m 128 54 = Int32.ofNat n) : CT nf xs d 227 [.ref 128, .int x, .int y, .int z] m g G (fun r m' g' => TER x y z J n m g r m' g') := by
  refine CT.of (c := 11) (ini := false) (nL := 4) (rt := some .boolean) (tab := zt227) rfl (fun d' r h' N hd hr => ?_)
  replace hr : RR nf xs d' 11 false 4 (some .boolean) zt227 G r h' N (0, [(0, .ref 128), (1, .int x), (2, .int y), (3, .int z)], [], m, g) := hr
  have k1 : (1 : Int32).toInt = 1 := rfl
  replace hr := hr.go (s_aload_n t227_0 rfl)
  replace hr := hr.go (s_k t227_1)
  replace hr := hr.go (s_putf t227_2)
  replace hr := hr.go (s_aload_n t227_5 rfl)
  replace hr := hr.go (s_iload_n t227_6 rfl)
  replace hr := hr.cvI t227_7 rfl rfl (ct_isJokeR g3 hl)
  rw [show xu m 128 0 0 130 2 = Int32.ofNat J from by rw [xu_row (by decide), h3]] at hr
  rcases hr.zEq t227_10 with ⟨b10, hr⟩ | ⟨b10, hr⟩
  · replace hr := hr.go (s_k t227_44)
    obtain ⟨rfl, hs⟩ := hr.iret t227_45
    exact ⟨_, _, hs, Or.inl ⟨Or.inl b10, rfl, NW.x⟩⟩
  · replace hr := hr.go (s_iload_n t227_13 rfl)
    replace hr := hr.csI t227_14 rfl rfl (ct_isMileR)
    rcases hr.zEq t227_17 with ⟨b17, hr⟩ | ⟨b17, hr⟩
    · replace hr := hr.go (s_k t227_44)
      obtain ⟨rfl, hs⟩ := hr.iret t227_45
      exact ⟨_, _, hs, Or.inl ⟨Or.inr b17, rfl, NW.x⟩⟩
    · obtain ⟨j, hj, rfl⟩ := rdV_ok hJ b10
      obtain ⟨v, hv, rfl⟩ := mlV_ok b17
      replace hr := hr.go (s_aload_n t227_20 rfl)
      replace hr := hr.go (s_getr t227_21 (hG.1 51 (by decide) (by decide)))
      replace hr := hr.go (s_iload_n t227_24 rfl)
      replace hr := hr.go (s_laload t227_25)
      rw [xn_nat (show j < 2147483648 by omega)] at hr
      replace hr := hr.go (s_iload_n t227_26 rfl)
      replace hr := hr.go (s_lshr t227_27)
      replace hr := hr.go (s_lconst t227_28)
      replace hr := hr.go (s_land t227_29)
      replace hr := hr.go (s_lconst t227_30)
      replace hr := hr.go (s_lcmp t227_31)
      rcases hr.zNe t227_32 with ⟨b32, hr⟩ | ⟨b32, hr⟩
      · replace hr := hr.go (s_k t227_39)
        have hb : bI (bl (g 164 j) v) = 0 := by
          cases e : bl (g 164 j) v with
          | false => rfl
          | true => exact absurd (cmp_1.mpr ((bl_tst (by omega)).mpr e)) b32
        replace hr := hr.go (s_iload_n t227_40 rfl)
        rcases hr.bNe t227_41 with ⟨b41, hr⟩ | ⟨b41, hr⟩
        · replace hr := hr.go (s_aload_n t227_46 rfl)
          obtain ⟨_, m1, g1, ⟨rfl, hq⟩, hr⟩ := hr.callv t227_47 rfl rfl (ct_keepNow (n := n) hG hn (by rw [xu_oth (by decide), h54]))
          replace hr : RR nf xs d' 11 false 4 (some .boolean) zt227 G r h' N (50, [(0, .ref 128), (1, .int (Int32.ofNat j)), (2, .int (Int32.ofNat v)), (3, .int z)], [], m1, g1) := hr
          skip
          replace hr := hr.go (s_aload_n t227_50 rfl)
          replace hr := hr.go (s_getr t227_51 (hG.1 51 (by decide) (by decide)))
          replace hr := hr.go (s_iload_n t227_54 rfl)
          replace hr := hr.go (s_dup2 t227_55)
          replace hr := hr.go (s_laload t227_56)
          replace hr := hr.go (s_lconst t227_57)
          replace hr := hr.go (s_iload_n t227_58 rfl)
          replace hr := hr.go (s_lshl t227_59)
          replace hr := hr.go (s_lxor t227_60)
          replace hr := hr.go (s_lastore t227_61)
          rw [xn_nat (show j < 2147483648 by omega)] at hr
          replace hr := hr.go (s_k t227_62)
          obtain ⟨rfl, hs⟩ := hr.iret t227_63
          exact ⟨_, _, hs, Or.inr ⟨j, hj, rfl, v, hv, rfl, Or.inr ⟨fun q => b41 (hb.symm.trans q), rfl, g1, hq, rfl⟩⟩⟩
        · replace hr := hr.go (s_k t227_44)
          obtain ⟨rfl, hs⟩ := hr.iret t227_45
          exact ⟨_, _, hs, Or.inr ⟨j, hj, rfl, v, hv, rfl, Or.inl ⟨hb.trans b41, rfl, NW.x⟩⟩⟩
      · replace hr := hr.go (s_k t227_35)
        replace hr := hr.go (s_goto t227_36)
        have hb : bI (bl (g 164 j) v) = 1 := by rw [(bl_tst (by omega)).mp (cmp_1.mp b32)]; rfl
        replace hr := hr.go (s_iload_n t227_40 rfl)
        rcases hr.bNe t227_41 with ⟨b41, hr⟩ | ⟨b41, hr⟩
        · replace hr := hr.go (s_aload_n t227_46 rfl)
          obtain ⟨_, m1, g1, ⟨rfl, hq⟩, hr⟩ := hr.callv t227_47 rfl rfl (ct_keepNow (n := n) hG hn (by rw [xu_oth (by decide), h54]))
          replace hr : RR nf xs d' 11 false 4 (some .boolean) zt227 G r h' N (50, [(0, .ref 128), (1, .int (Int32.ofNat j)), (2, .int (Int32.ofNat v)), (3, .int z)], [], m1, g1) := hr
          skip
          replace hr := hr.go (s_aload_n t227_50 rfl)
          replace hr := hr.go (s_getr t227_51 (hG.1 51 (by decide) (by decide)))
          replace hr := hr.go (s_iload_n t227_54 rfl)
          replace hr := hr.go (s_dup2 t227_55)
          replace hr := hr.go (s_laload t227_56)
          replace hr := hr.go (s_lconst t227_57)
          replace hr := hr.go (s_iload_n t227_58 rfl)
          replace hr := hr.go (s_lshl t227_59)
          replace hr := hr.go (s_lxor t227_60)
          replace hr := hr.go (s_lastore t227_61)
          rw [xn_nat (show j < 2147483648 by omega)] at hr
          replace hr := hr.go (s_k t227_62)
          obtain ⟨rfl, hs⟩ := hr.iret t227_63
          exact ⟨_, _, hs, Or.inr ⟨j, hj, rfl, v, hv, rfl, Or.inr ⟨fun q => b41 (hb.symm.trans q), rfl, g1, hq, rfl⟩⟩⟩
        · replace hr := hr.go (s_k t227_44)
          obtain ⟨rfl, hs⟩ := hr.iret t227_45
          exact ⟨_, _, hs, Or.inr ⟨j, hj, rfl, v, hv, rfl, Or.inl ⟨hb.trans b41, rfl, NW.x⟩⟩⟩
theorem ct_undoR0 {nf : Bool} {xs : List Int32} {d : Nat} {m : xM} {g : xL} {G : xG} (h54 : m 128 54 = 0) : CT nf xs d 257 [.ref 128] m g G (fun r m' g' => r = some (.int (-1)) ∧ NW m g m' g') := by
  refine CT.of (c := 11) (ini := false) (nL := 1) (rt := some .int) (tab := zt257) rfl (fun d' r h' N hd hr => ?_)
  replace hr : RR nf xs d' 11 false 1 (some .int) zt257 G r h' N (0, [(0, .ref 128)], [], m, g) := hr
  have km1 : (-1 : Int32).toInt = -1 := rfl
  have k1 : (1 : Int32).toInt = 1 := rfl
  have k4 : (4 : Int32).toInt = 4 := rfl
  replace hr := hr.go (s_aload_n t257_0 rfl)
  replace hr := hr.go (s_k t257_1)
  replace hr := hr.go (s_putf t257_2)
  replace hr := hr.go (s_aload_n t257_5 rfl)
  replace hr := hr.go (s_getf t257_6)
  rw [show xu m 128 0 0 128 54 = 0 from by rw [xu_oth (by decide), h54]] at hr
  rcases hr.zNe t257_9 with ⟨b9, hr⟩ | ⟨b9, hr⟩
  · exact absurd rfl b9
  · replace hr := hr.go (s_k t257_12)
    obtain ⟨rfl, hs⟩ := hr.iret t257_13
    exact ⟨_, _, hs, rfl, NW.x⟩
theorem ct_undoR {nf : Bool} {xs : List Int32} {d : Nat} {m : xM} {g : xL} {G : xG} {n : Nat} (hG : GW G) (hn : n < 20) (h54 : m 128 54 = Int32.ofNat (n + 1)) : CT nf xs d 257 [.ref 128] m g G (fun r m' g' => r = some (.int (Int32.ofNat n)) ∧ m' 128 54 = Int32.ofNat n ∧ (∀ c : Nat, ¬ c = 128 → c < 150 ∨ 163 < c → m' c = m c) ∧ (∀ k : Nat, ¬ k = 0 → ¬ k = 54 → m' 128 k = m 128 k) ∧ (∀ c : Nat, ¬ c = 164 → g' c = g c) ∧ rowOf m' g' 0 = rowOf m g (4 + n) ∧ ∀ q : Nat, ¬ q = 0 → rowOf m' g' q = rowOf m g q) := by
  refine CT.of (c := 11) (ini := false) (nL := 1) (rt := some .int) (tab := zt257) rfl (fun d' r h' N hd hr => ?_)
  replace hr : RR nf xs d' 11 false 1 (some .int) zt257 G r h' N (0, [(0, .ref 128)], [], m, g) := hr
  have km1 : (-1 : Int32).toInt = -1 := rfl
  have k1 : (1 : Int32).toInt = 1 := rfl
  have k4 : (4 : Int32).toInt = 4 := rfl
  replace hr := hr.go (s_aload_n t257_0 rfl)
  replace hr := hr.go (s_k t257_1)
  replace hr := hr.go (s_putf t257_2)
  replace hr := hr.go (s_aload_n t257_5 rfl)
  replace hr := hr.go (s_getf t257_6)
  rw [show xu m 128 0 0 128 54 = Int32.ofNat (n + 1) from by rw [xu_oth (by decide), h54]] at hr
  rcases hr.zNe t257_9 with ⟨b9, hr⟩ | ⟨b9, hr⟩
  · replace hr := hr.go (s_aload_n t257_14 rfl)
    replace hr := hr.go (s_dup t257_15 rfl)
    replace hr := hr.go (s_getf t257_16)
    replace hr := hr.go (s_k t257_19)
    replace hr := hr.go (s_isub t257_20)
    replace hr := hr.go (s_putf t257_21)
    replace hr := hr.go (s_aload_n t257_24 rfl)
    replace hr := hr.go (s_k t257_25)
    replace hr := hr.go (s_k t257_26)
    replace hr := hr.go (s_aload_n t257_27 rfl)
    replace hr := hr.go (s_getf t257_28)
    replace hr := hr.go (s_iadd t257_31)
    rw [show (4 : Int32) + (xu (xu m 128 0 0) 128 54 (xu m 128 0 0 128 54 - 1)) 128 54 = Int32.ofNat (4 + n) from by rw [xu_same, xu_oth (by decide), h54, xn_pred, show (4 : Int32) + Int32.ofNat n = Int32.ofNat (4 + n) from xn_add (p := 4)]] at hr
    obtain ⟨_, m1, g1, ⟨rfl, c1, c2, c3, c4⟩, hr⟩ := hr.callv t257_32 rfl rfl (ct_copies (t := 0) (a := 4 + n) hG (by omega) (by omega) (by omega))
    replace hr : RR nf xs d' 11 false 1 (some .int) zt257 G r h' N (35, [(0, .ref 128)], [], m1, g1) := hr
    skip
    replace hr := hr.go (s_aload_n t257_35 rfl)
    replace hr := hr.go (s_getf t257_36)
    obtain ⟨rfl, hs⟩ := hr.iret t257_39
    refine ⟨_, _, hs, by rw [c1 128 (by decide), xu_same, xu_oth (by decide), h54, xn_pred], ?_, fun c hc hc2 => ?_, fun k k1 k2 => ?_, c2, c3.trans ?_, fun q hq => (c4 q hq).trans ?_⟩
    · rw [c1 128 (by decide), xu_same, xu_oth (by decide), h54, xn_pred]
    · rw [c1 c hc2, xu_row hc, xu_row hc]
    · rw [c1 128 (by decide), xu_oth (by omega), xu_oth (by omega)]
    · exact (rowOf_st (fun c c0 _ => xu_row (by omega)) rfl).trans (row_er _)
    · exact (rowOf_st (fun c c0 _ => xu_row (by omega)) rfl).trans (row_er _)
  · exact absurd (xn_inj (a := n + 1) (b := 0) (by omega) (by decide) b9) (by omega)
