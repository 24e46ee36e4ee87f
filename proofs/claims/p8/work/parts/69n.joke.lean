/-! joke of both sides: bits counted (by program: wip/x/gVa.py). -/
theorem t263_0 : xt zt263 0 1 (.lload_n 0) := ⟨rfl, rfl⟩
theorem t263_1 : xt zt263 1 2 (.lload_n 0) := ⟨rfl, rfl⟩
theorem t263_2 : xtk zt263 2 3 (1) := Or.inl ⟨1, ⟨rfl, rfl⟩, by decide⟩
theorem t263_3 : xt zt263 3 4 .lushr := ⟨rfl, rfl⟩
theorem t263_4 : xt zt263 4 7 (.ldc2_w 314) := ⟨rfl, rfl⟩
theorem t263_7 : xt zt263 7 8 .land := ⟨rfl, rfl⟩
theorem t263_8 : xt zt263 8 9 .lsub := ⟨rfl, rfl⟩
theorem t263_9 : xt zt263 9 10 (.lstore_n 0) := ⟨rfl, rfl⟩
theorem t263_10 : xt zt263 10 11 (.lload_n 0) := ⟨rfl, rfl⟩
theorem t263_11 : xt zt263 11 14 (.ldc2_w 316) := ⟨rfl, rfl⟩
theorem t263_14 : xt zt263 14 15 .land := ⟨rfl, rfl⟩
theorem t263_15 : xt zt263 15 16 (.lload_n 0) := ⟨rfl, rfl⟩
theorem t263_16 : xtk zt263 16 17 (2) := Or.inl ⟨2, ⟨rfl, rfl⟩, by decide⟩
theorem t263_17 : xt zt263 17 18 .lushr := ⟨rfl, rfl⟩
theorem t263_18 : xt zt263 18 21 (.ldc2_w 316) := ⟨rfl, rfl⟩
theorem t263_21 : xt zt263 21 22 .land := ⟨rfl, rfl⟩
theorem t263_22 : xt zt263 22 23 .ladd := ⟨rfl, rfl⟩
theorem t263_23 : xt zt263 23 24 (.lstore_n 0) := ⟨rfl, rfl⟩
theorem t263_24 : xt zt263 24 25 (.lload_n 0) := ⟨rfl, rfl⟩
theorem t263_25 : xt zt263 25 26 (.lload_n 0) := ⟨rfl, rfl⟩
theorem t263_26 : xtk zt263 26 27 (4) := Or.inl ⟨4, ⟨rfl, rfl⟩, by decide⟩
theorem t263_27 : xt zt263 27 28 .lushr := ⟨rfl, rfl⟩
theorem t263_28 : xt zt263 28 29 .ladd := ⟨rfl, rfl⟩
theorem t263_29 : xt zt263 29 32 (.ldc2_w 318) := ⟨rfl, rfl⟩
theorem t263_32 : xt zt263 32 33 .land := ⟨rfl, rfl⟩
theorem t263_33 : xt zt263 33 34 (.lstore_n 0) := ⟨rfl, rfl⟩
theorem t263_34 : xt zt263 34 35 (.lload_n 0) := ⟨rfl, rfl⟩
theorem t263_35 : xt zt263 35 36 (.lload_n 0) := ⟨rfl, rfl⟩
theorem t263_36 : xtk zt263 36 38 (8) := Or.inr (Or.inl ⟨8, ⟨rfl, rfl⟩, by decide⟩)
theorem t263_38 : xt zt263 38 39 .lushr := ⟨rfl, rfl⟩
theorem t263_39 : xt zt263 39 40 .ladd := ⟨rfl, rfl⟩
theorem t263_40 : xt zt263 40 41 (.lstore_n 0) := ⟨rfl, rfl⟩
theorem t263_41 : xt zt263 41 42 (.lload_n 0) := ⟨rfl, rfl⟩
theorem t263_42 : xt zt263 42 43 (.lload_n 0) := ⟨rfl, rfl⟩
theorem t263_43 : xtk zt263 43 45 (16) := Or.inr (Or.inl ⟨16, ⟨rfl, rfl⟩, by decide⟩)
theorem t263_45 : xt zt263 45 46 .lushr := ⟨rfl, rfl⟩
theorem t263_46 : xt zt263 46 47 .ladd := ⟨rfl, rfl⟩
theorem t263_47 : xt zt263 47 48 (.lstore_n 0) := ⟨rfl, rfl⟩
theorem t263_48 : xt zt263 48 49 (.lload_n 0) := ⟨rfl, rfl⟩
theorem t263_49 : xt zt263 49 50 (.lload_n 0) := ⟨rfl, rfl⟩
theorem t263_50 : xtk zt263 50 52 (32) := Or.inr (Or.inl ⟨32, ⟨rfl, rfl⟩, by decide⟩)
theorem t263_52 : xt zt263 52 53 .lushr := ⟨rfl, rfl⟩
theorem t263_53 : xt zt263 53 54 .ladd := ⟨rfl, rfl⟩
theorem t263_54 : xt zt263 54 55 (.lstore_n 0) := ⟨rfl, rfl⟩
theorem t263_55 : xt zt263 55 56 (.lload_n 0) := ⟨rfl, rfl⟩
theorem t263_56 : xt zt263 56 57 .l2i := ⟨rfl, rfl⟩
theorem t263_57 : xtk zt263 57 59 (127) := Or.inr (Or.inl ⟨127, ⟨rfl, rfl⟩, by decide⟩)
theorem t263_59 : xt zt263 59 60 .iand := ⟨rfl, rfl⟩
theorem t263_60 : xt zt263 60 61 .ireturn := ⟨rfl, rfl⟩
theorem t218_0 : xtk zt218 0 1 (0) := Or.inl ⟨0, ⟨rfl, rfl⟩, by decide⟩
theorem t218_1 : xt zt218 1 2 (.istore_n 2) := ⟨rfl, rfl⟩
theorem t218_2 : xtk zt218 2 3 (0) := Or.inl ⟨0, ⟨rfl, rfl⟩, by decide⟩
theorem t218_3 : xt zt218 3 4 (.istore_n 3) := ⟨rfl, rfl⟩
theorem t218_4 : xt zt218 4 5 (.iload_n 3) := ⟨rfl, rfl⟩
theorem t218_5 : xtk zt218 5 7 (62) := Or.inr (Or.inl ⟨62, ⟨rfl, rfl⟩, by decide⟩)
theorem t218_7 : xtb zt218 7 10 25 (.if_icmp .ge 18) (18) := ⟨rfl, rfl, rfl⟩
theorem t218_10 : xt zt218 10 11 (.iload_n 2) := ⟨rfl, rfl⟩
theorem t218_11 : xt zt218 11 12 (.lload_n 0) := ⟨rfl, rfl⟩
theorem t218_12 : xt zt218 12 13 (.iload_n 3) := ⟨rfl, rfl⟩
theorem t218_13 : xt zt218 13 14 .lshr := ⟨rfl, rfl⟩
theorem t218_14 : xt zt218 14 15 (.lconst 1) := ⟨rfl, rfl⟩
theorem t218_15 : xt zt218 15 16 .land := ⟨rfl, rfl⟩
theorem t218_16 : xt zt218 16 17 .l2i := ⟨rfl, rfl⟩
theorem t218_17 : xt zt218 17 18 .iadd := ⟨rfl, rfl⟩
theorem t218_18 : xt zt218 18 19 (.istore_n 2) := ⟨rfl, rfl⟩
theorem t218_19 : xt zt218 19 22 (.iinc 3 1) := ⟨rfl, rfl⟩
theorem t218_22 : xtb zt218 22 25 4 (.goto (-18)) (-18) := ⟨rfl, rfl, rfl⟩
theorem t218_25 : xt zt218 25 26 (.iload_n 2) := ⟨rfl, rfl⟩
theorem t218_26 : xt zt218 26 27 .ireturn := ⟨rfl, rfl⟩
theorem t108_0 : xt zt108 0 1 (.aload_n 0) := ⟨rfl, rfl⟩
theorem t108_1 : xt zt108 1 2 (.iload_n 1) := ⟨rfl, rfl⟩
theorem t108_2 : xtc zt108 10 2 5 (.invokevirtual 185) 185 1 104 1 := ⟨rfl, rfl, rfl⟩
theorem t108_5 : xtb zt108 5 8 10 (.ifCond .ne 5) (5) := ⟨rfl, rfl, rfl⟩
theorem t108_8 : xtk zt108 8 9 (-1) := Or.inl ⟨-1, ⟨rfl, rfl⟩, by decide⟩
theorem t108_9 : xt zt108 9 10 .ireturn := ⟨rfl, rfl⟩
theorem t108_10 : xt zt108 10 11 (.iload_n 2) := ⟨rfl, rfl⟩
theorem t108_11 : zt108 11 = some (.tableswitch 64 0 2 #[25, 38, 51], 25) := rfl
theorem t108_36 : xt zt108 36 37 (.aload_n 0) := ⟨rfl, rfl⟩
theorem t108_37 : xtf zt108 10 37 40 (.getfield 33) 33 10 5 3 := ⟨rfl, rfl, rfl, rfl⟩
theorem t108_40 : xtf zt108 10 40 43 (.getfield 123) 123 3 2 3 := ⟨rfl, rfl, rfl, rfl⟩
theorem t108_43 : xt zt108 43 44 (.iload_n 1) := ⟨rfl, rfl⟩
theorem t108_44 : xtk zt108 44 45 (1) := Or.inl ⟨1, ⟨rfl, rfl⟩, by decide⟩
theorem t108_45 : xtc zt108 10 45 48 (.invokevirtual 147) 147 1 83 2 := ⟨rfl, rfl, rfl⟩
theorem t108_48 : xt zt108 48 49 .ireturn := ⟨rfl, rfl⟩
theorem t108_49 : xt zt108 49 50 (.aload_n 0) := ⟨rfl, rfl⟩
theorem t108_50 : xtf zt108 10 50 53 (.getfield 33) 33 10 5 3 := ⟨rfl, rfl, rfl, rfl⟩
theorem t108_53 : xtf zt108 10 53 56 (.getfield 123) 123 3 2 3 := ⟨rfl, rfl, rfl, rfl⟩
theorem t108_56 : xt zt108 56 57 (.iload_n 1) := ⟨rfl, rfl⟩
theorem t108_57 : xtk zt108 57 58 (2) := Or.inl ⟨2, ⟨rfl, rfl⟩, by decide⟩
theorem t108_58 : xtc zt108 10 58 61 (.invokevirtual 147) 147 1 83 2 := ⟨rfl, rfl, rfl⟩
theorem t108_61 : xt zt108 61 62 .ireturn := ⟨rfl, rfl⟩
theorem t108_62 : xt zt108 62 63 (.aload_n 0) := ⟨rfl, rfl⟩
theorem t108_63 : xtf zt108 10 63 66 (.getfield 45) 45 10 7 3 := ⟨rfl, rfl, rfl, rfl⟩
theorem t108_66 : xtf zt108 10 66 69 (.getfield 188) 188 5 1 3 := ⟨rfl, rfl, rfl, rfl⟩
theorem t108_69 : xt zt108 69 70 (.iload_n 1) := ⟨rfl, rfl⟩
theorem t108_70 : xt zt108 70 71 .laload := ⟨rfl, rfl⟩
theorem t108_71 : xtc zt108 10 71 74 (.invokestatic 192) 192 2 263 1 := ⟨rfl, rfl, rfl⟩
theorem t108_74 : xt zt108 74 75 .ireturn := ⟨rfl, rfl⟩
theorem t108_75 : xtk zt108 75 76 (-1) := Or.inl ⟨-1, ⟨rfl, rfl⟩, by decide⟩
theorem t108_76 : xt zt108 76 77 .ireturn := ⟨rfl, rfl⟩
theorem t219_0 : xt zt219 0 1 (.aload_n 0) := ⟨rfl, rfl⟩
theorem t219_1 : xtk zt219 1 2 (0) := Or.inl ⟨0, ⟨rfl, rfl⟩, by decide⟩
theorem t219_2 : xtf zt219 11 2 5 (.putfield 166) 166 11 0 1 := ⟨rfl, rfl, rfl, rfl⟩
theorem t219_5 : xt zt219 5 6 (.aload_n 0) := ⟨rfl, rfl⟩
theorem t219_6 : xt zt219 6 7 (.iload_n 1) := ⟨rfl, rfl⟩
theorem t219_7 : xtc zt219 11 7 10 (.invokevirtual 458) 458 1 192 1 := ⟨rfl, rfl, rfl⟩
theorem t219_10 : xtb zt219 10 13 15 (.ifCond .ne 5) (5) := ⟨rfl, rfl, rfl⟩
theorem t219_13 : xtk zt219 13 14 (-1) := Or.inl ⟨-1, ⟨rfl, rfl⟩, by decide⟩
theorem t219_14 : xt zt219 14 15 .ireturn := ⟨rfl, rfl⟩
theorem t219_15 : xt zt219 15 16 (.iload_n 2) := ⟨rfl, rfl⟩
theorem t219_16 : xtb zt219 16 19 28 (.ifCond .ne 12) (12) := ⟨rfl, rfl, rfl⟩
theorem t219_19 : xt zt219 19 20 (.aload_n 0) := ⟨rfl, rfl⟩
theorem t219_20 : xtf zt219 11 20 23 (.getfield 34) 34 11 10 3 := ⟨rfl, rfl, rfl, rfl⟩
theorem t219_23 : xt zt219 23 24 (.iload_n 1) := ⟨rfl, rfl⟩
theorem t219_24 : xt zt219 24 25 .iaload := ⟨rfl, rfl⟩
theorem t219_25 : xtb zt219 25 28 60 (.goto 35) (35) := ⟨rfl, rfl, rfl⟩
theorem t219_28 : xt zt219 28 29 (.iload_n 2) := ⟨rfl, rfl⟩
theorem t219_29 : xtk zt219 29 30 (1) := Or.inl ⟨1, ⟨rfl, rfl⟩, by decide⟩
theorem t219_30 : xtb zt219 30 33 42 (.if_icmp .ne 12) (12) := ⟨rfl, rfl, rfl⟩
theorem t219_33 : xt zt219 33 34 (.aload_n 0) := ⟨rfl, rfl⟩
theorem t219_34 : xtf zt219 11 34 37 (.getfield 37) 37 11 11 3 := ⟨rfl, rfl, rfl, rfl⟩
theorem t219_37 : xt zt219 37 38 (.iload_n 1) := ⟨rfl, rfl⟩
theorem t219_38 : xt zt219 38 39 .iaload := ⟨rfl, rfl⟩
theorem t219_39 : xtb zt219 39 42 60 (.goto 21) (21) := ⟨rfl, rfl, rfl⟩
theorem t219_42 : xt zt219 42 43 (.iload_n 2) := ⟨rfl, rfl⟩
theorem t219_43 : xtk zt219 43 44 (2) := Or.inl ⟨2, ⟨rfl, rfl⟩, by decide⟩
theorem t219_44 : xtb zt219 44 47 59 (.if_icmp .ne 15) (15) := ⟨rfl, rfl, rfl⟩
theorem t219_47 : xt zt219 47 48 (.aload_n 0) := ⟨rfl, rfl⟩
theorem t219_48 : xtf zt219 11 48 51 (.getfield 120) 120 11 51 3 := ⟨rfl, rfl, rfl, rfl⟩
theorem t219_51 : xt zt219 51 52 (.iload_n 1) := ⟨rfl, rfl⟩
theorem t219_52 : xt zt219 52 53 .laload := ⟨rfl, rfl⟩
theorem t219_53 : xtc zt219 11 53 56 (.invokestatic 461) 461 2 218 1 := ⟨rfl, rfl, rfl⟩
theorem t219_56 : xtb zt219 56 59 60 (.goto 4) (4) := ⟨rfl, rfl, rfl⟩
theorem t219_59 : xtk zt219 59 60 (-1) := Or.inl ⟨-1, ⟨rfl, rfl⟩, by decide⟩
theorem t219_60 : xt zt219 60 61 .ireturn := ⟨rfl, rfl⟩
section XI
variable {nf : Bool} {xs : List Int32} {d c : Nat} {ini : Bool} {nL : Nat} {rt : Option FieldType} {tab : Nat → Option (Instr × Nat)} {G : xG} {r : Option Value} {h' : zH} {pc pc' len : Nat} {ls ls' : zL} {st : List Value} {m : xM} {g : xL} {N : Nat}
theorem s_ladd {x y : Int64} (t : xt tab pc pc' .ladd) : XS nf xs d c ini nL rt tab G r h' (pc, ls, .long y :: .long x :: st, m, g) (pc', ls, .long (x + y) :: st, m, g) := by
  obtain ⟨t, rfl⟩ := t
  exact xpure t rfl rfl (fun _ => rfl) (fun h s q => by cases q; rfl)
theorem s_lsub {x y : Int64} (t : xt tab pc pc' .lsub) : XS nf xs d c ini nL rt tab G r h' (pc, ls, .long y :: .long x :: st, m, g) (pc', ls, .long (x - y) :: st, m, g) := by
  obtain ⟨t, rfl⟩ := t
  exact xpure t rfl rfl (fun _ => rfl) (fun h s q => by cases q; rfl)
theorem s_lstore_n {k : Fin 4} {x : Int64} (t : xt tab pc pc' (.lstore_n k)) (e : zset2 ls k (.long x) = ls') : XS nf xs d c ini nL rt tab G r h' (pc, ls, .long x :: st, m, g) (pc', ls', st, m, g) := by
  obtain ⟨t, rfl⟩ := t
  exact xpure t rfl rfl (fun _ => rfl) (fun h s q => by
    simp only [zstep, zstI, zstL, e] at q
    split at q
    · next q2 => split at q2 <;> cases q2; cases q; rfl
    · next q2 => split at q2 <;> cases q2; cases q)
end XI
theorem ct_bitCount {nf : Bool} {xs : List Int32} {d : Nat} {m : xM} {g : xL} {G : xG} {x : Int64} : CT nf xs d 263 [.long x] m g G (PE (some (.int (SW x))) m g) := by
  refine CT.of (c := 14) (ini := false) (nL := 2) (rt := some .int) (tab := zt263) rfl (fun d' r h' N hd hr => ?_)
  replace hr : RR nf xs d' 14 false 2 (some .int) zt263 G r h' N (0, [(0, .long x)], [], m, g) := hr
  replace hr := hr.go (s_lload_n t263_0 rfl)
  replace hr := hr.go (s_lload_n t263_1 rfl)
  replace hr := hr.go (s_k t263_2)
  replace hr := hr.go (s_lushr t263_3)
  replace hr := hr.go (s_ldc2 t263_4 rfl)
  replace hr := hr.go (s_land t263_7)
  replace hr := hr.go (s_lsub t263_8)
  replace hr := hr.go (s_lstore_n (ls' := [(0, _)]) t263_9 rfl)
  replace hr := hr.go (s_lload_n t263_10 rfl)
  replace hr := hr.go (s_ldc2 t263_11 rfl)
  replace hr := hr.go (s_land t263_14)
  replace hr := hr.go (s_lload_n t263_15 rfl)
  replace hr := hr.go (s_k t263_16)
  replace hr := hr.go (s_lushr t263_17)
  replace hr := hr.go (s_ldc2 t263_18 rfl)
  replace hr := hr.go (s_land t263_21)
  replace hr := hr.go (s_ladd t263_22)
  replace hr := hr.go (s_lstore_n (ls' := [(0, _)]) t263_23 rfl)
  replace hr := hr.go (s_lload_n t263_24 rfl)
  replace hr := hr.go (s_lload_n t263_25 rfl)
  replace hr := hr.go (s_k t263_26)
  replace hr := hr.go (s_lushr t263_27)
  replace hr := hr.go (s_ladd t263_28)
  replace hr := hr.go (s_ldc2 t263_29 rfl)
  replace hr := hr.go (s_land t263_32)
  replace hr := hr.go (s_lstore_n (ls' := [(0, _)]) t263_33 rfl)
  replace hr := hr.go (s_lload_n t263_34 rfl)
  replace hr := hr.go (s_lload_n t263_35 rfl)
  replace hr := hr.go (s_k t263_36)
  replace hr := hr.go (s_lushr t263_38)
  replace hr := hr.go (s_ladd t263_39)
  replace hr := hr.go (s_lstore_n (ls' := [(0, _)]) t263_40 rfl)
  replace hr := hr.go (s_lload_n t263_41 rfl)
  replace hr := hr.go (s_lload_n t263_42 rfl)
  replace hr := hr.go (s_k t263_43)
  replace hr := hr.go (s_lushr t263_45)
  replace hr := hr.go (s_ladd t263_46)
  replace hr := hr.go (s_lstore_n (ls' := [(0, _)]) t263_47 rfl)
  replace hr := hr.go (s_lload_n t263_48 rfl)
  replace hr := hr.go (s_lload_n t263_49 rfl)
  replace hr := hr.go (s_k t263_50)
  replace hr := hr.go (s_lushr t263_52)
  replace hr := hr.go (s_ladd t263_53)
  replace hr := hr.go (s_lstore_n (ls' := [(0, _)]) t263_54 rfl)
  replace hr := hr.go (s_lload_n t263_55 rfl)
  replace hr := hr.go (s_l2i t263_56)
  replace hr := hr.go (s_k t263_57)
  replace hr := hr.go (s_iand t263_59)
  obtain ⟨rfl, hs⟩ := hr.iret t263_60
  exact ⟨_, _, hs, rfl, rfl, rfl⟩
theorem ct_bI {X k : Nat} {b : Bool} (h : X.testBit k = b) : Int32.ofNat (ctN X k) + bI b = Int32.ofNat (ctN X (k + 1)) := by
  show _ = Int32.ofNat (ctN X k + (if X.testBit k then 1 else 0))
  rw [h]
  cases b
  · exact xn_add (p := ctN X k) (k := 0)
  · exact xn_add (p := ctN X k) (k := 1)
theorem lp218 {nf : Bool} {xs : List Int32} {d : Nat} {m : xM} {g : xL} {G : xG} {r : Option Value} {h' : zH} {x : Int64} : ∀ (N k : Nat), k ≤ 62 → RR nf xs d 11 false 4 (some .int) zt218 G r h' N (4, [(3, .int (Int32.ofNat k)), (2, .int (Int32.ofNat (ctN (uN x) k))), (0, .long x)], [], m, g) → ∃ (m' : xM) (g' : xL), HS h' m' g' G ∧ r = some (.int (Int32.ofNat (ctN (uN x) 62))) ∧ m' = m ∧ g' = g := by
  intro N
  induction N with
  | zero => intro k _ hr; exact hr.no.elim
  | succ N ih =>
    intro k hk hr
    have qk : (Int32.ofNat k).toInt = (k : Int) := xn_int (by omega)
    have k62 : (62 : Int32).toInt = 62 := rfl
    replace hr := hr.go1 (s_iload_n t218_4 rfl)
    replace hr := hr.go (s_k t218_5)
    rcases hr.bGe t218_7 with ⟨b7, hr⟩ | ⟨b7, hr⟩
    · replace hr := hr.go (s_iload_n t218_25 rfl)
      obtain ⟨rfl, hs⟩ := hr.iret t218_26
      have e : k = 62 := by omega
      subst e
      exact ⟨_, _, hs, rfl, rfl, rfl⟩
    · replace hr := hr.go (s_iload_n t218_10 rfl)
      replace hr := hr.go (s_lload_n t218_11 rfl)
      replace hr := hr.go (s_iload_n t218_12 rfl)
      replace hr := hr.go (s_lshr t218_13)
      replace hr := hr.go (s_lconst t218_14)
      replace hr := hr.go (s_land t218_15)
      replace hr := hr.go (s_l2i t218_16)
      replace hr := hr.go (s_iadd t218_17)
      replace hr := hr.go (s_istore_n (ls' := [(2, _), (3, _), (0, _)]) t218_18 rfl)
      replace hr := hr.go (s_iinc (ls' := [(3, _), (2, _), (0, _)]) t218_19 rfl rfl)
      rw [xn_1i] at hr
      replace hr := hr.go (s_goto t218_22)
      have e : Int32.ofNat (ctN (uN x) k) + (x >>> ((Int32.ofNat k).toInt64 &&& 63) &&& 1).toInt32 = Int32.ofNat (ctN (uN x) (k + 1)) := by
        rw [sh_b (by omega)]
        exact ct_bI rfl
      exact ih (k + 1) (by omega) (by rw [← e]; exact hr)
theorem ct_bitsOf {nf : Bool} {xs : List Int32} {d : Nat} {m : xM} {g : xL} {G : xG} {x : Int64} : CT nf xs d 218 [.long x] m g G (PE (some (.int (Int32.ofNat (ctN (uN x) 62)))) m g) := by
  refine CT.of (c := 11) (ini := false) (nL := 4) (rt := some .int) (tab := zt218) rfl (fun d' r h' N hd hr => ?_)
  replace hr : RR nf xs d' 11 false 4 (some .int) zt218 G r h' N (0, [(0, .long x)], [], m, g) := hr
  replace hr := hr.go (s_k t218_0)
  replace hr := hr.go (s_istore_n (ls' := [(2, _), (0, _)]) t218_1 rfl)
  replace hr := hr.go (s_k t218_2)
  replace hr := hr.go (s_istore_n (ls' := [(3, _), (2, _), (0, _)]) t218_3 rfl)
  obtain ⟨m', g', hs, e1, e2, e3⟩ := lp218 (x := x) _ 0 (by decide) hr
  exact ⟨m', g', hs, e1, e2, e3⟩
/-- what joke answers: a fun, a kind, how often told -/
def JK (x y : Int32) (J : Nat) (a b c : Nat → Int32) (r : Option Value) : Prop := (rdV x (Int32.ofNat J) = 0 ∧ r = some (.int (-1))) ∨ ∃ j : Nat, j < J ∧ x = Int32.ofNat j ∧ r = some (.int (if y = 0 then a j else if y = 1 then b j else if y = 2 then c j else -1))
theorem ct_jokeC {nf : Bool} {xs : List Int32} {d : Nat} {m : xM} {g : xL} {G : xG} {P : Nat} {x y : Int32} {J : Nat} (h7 : G.1 0 7 = some 55) (h5 : G.1 0 5 = some P) (h2 : G.1 P 2 = some (P + 5)) (hA : GQ G 55) (hc : G.1 (P + 5) 2 = some (P + 6)) (hl18 : G.2 (P + 6) = (0, 1, 18)) (h0 : m (P + 5) 0 = Int32.ofNat 3) (h1 : m (P + 5) 1 = Int32.ofNat 6) (h3 : m (P + 5) 3 = Int32.ofNat J) (hJ : J ≤ 6) : CT nf xs d 108 [.ref 0, .int x, .int y] m g G (fun r m' g' => JK x y J (fun j => m (P + 6) (j * 3 + 1)) (fun j => m (P + 6) (j * 3 + 2)) (fun j => SW (g 57 j)) r ∧ m' = m ∧ g' = g) := by
  refine CT.of (c := 10) (ini := false) (nL := 3) (rt := some .int) (tab := zt108) rfl (fun d' r h' N hd hr => ?_)
  replace hr : RR nf xs d' 10 false 3 (some .int) zt108 G r h' N (0, [(0, .ref 0), (1, .int x), (2, .int y)], [], m, g) := hr
  have km1 : (-1 : Int32).toInt = -1 := rfl
  have k0 : (0 : Int32).toInt = 0 := rfl
  have k1 : (1 : Int32).toInt = 1 := rfl
  have k2 : (2 : Int32).toInt = 2 := rfl
  replace hr := hr.go (s_aload_n t108_0 rfl)
  replace hr := hr.go (s_iload_n t108_1 rfl)
  replace hr := hr.cvI t108_2 rfl rfl (ct_isJokeC h5 h2)
  rw [h3] at hr
  rcases hr.zNe t108_5 with ⟨b5, hr⟩ | ⟨b5, hr⟩
  · obtain ⟨j, hj, rfl⟩ := rdV_ok hJ b5
    replace hr := hr.go (s_iload_n t108_10 rfl)
    by_cases e11_0 : y = 0
    · subst e11_0
      replace hr := hr.go (s_tswitch (q := 36) t108_11 (by decide) (by decide) rfl rfl)
      replace hr := hr.go (s_aload_n t108_36 rfl)
      replace hr := hr.go (s_getr t108_37 (h5))
      replace hr := hr.go (s_getr t108_40 (h2))
      replace hr := hr.go (s_iload_n t108_43 rfl)
      replace hr := hr.go (s_k t108_44)
      replace hr := hr.cvI t108_45 rfl rfl (ct_at (cols := 3) (most := 6) (ro := j) (k := 1) (len := 18) hc hl18 h0 h1 (by decide) (by decide) (by omega) (by decide))
      obtain ⟨rfl, hs⟩ := hr.iret t108_48
      exact ⟨_, _, hs, Or.inr ⟨j, hj, rfl, by rw [if_pos rfl]⟩, rfl, rfl⟩
    by_cases e11_1 : y = 1
    · subst e11_1
      replace hr := hr.go (s_tswitch (q := 49) t108_11 (by decide) (by decide) rfl rfl)
      replace hr := hr.go (s_aload_n t108_49 rfl)
      replace hr := hr.go (s_getr t108_50 (h5))
      replace hr := hr.go (s_getr t108_53 (h2))
      replace hr := hr.go (s_iload_n t108_56 rfl)
      replace hr := hr.go (s_k t108_57)
      replace hr := hr.cvI t108_58 rfl rfl (ct_at (cols := 3) (most := 6) (ro := j) (k := 2) (len := 18) hc hl18 h0 h1 (by decide) (by decide) (by omega) (by decide))
      obtain ⟨rfl, hs⟩ := hr.iret t108_61
      exact ⟨_, _, hs, Or.inr ⟨j, hj, rfl, by rw [if_neg (by decide), if_pos rfl]⟩, rfl, rfl⟩
    by_cases e11_2 : y = 2
    · subst e11_2
      replace hr := hr.go (s_tswitch (q := 62) t108_11 (by decide) (by decide) rfl rfl)
      replace hr := hr.go (s_aload_n t108_62 rfl)
      replace hr := hr.go (s_getr t108_63 (h7))
      replace hr := hr.go (s_getr t108_66 (hA.2.1))
      replace hr := hr.go (s_iload_n t108_69 rfl)
      replace hr := hr.go (s_laload t108_70)
      rw [xn_nat (show j < 2147483648 by omega)] at hr
      replace hr := hr.csI t108_71 rfl rfl (ct_bitCount)
      obtain ⟨rfl, hs⟩ := hr.iret t108_74
      exact ⟨_, _, hs, Or.inr ⟨j, hj, rfl, by rw [if_neg (by decide), if_neg (by decide), if_pos rfl]⟩, rfl, rfl⟩
    replace hr := hr.go (s_tswitchD (q := 75) t108_11 (by have := xne e11_0; have := xne e11_1; have := xne e11_2; omega) rfl)
    replace hr := hr.go (s_k t108_75)
    obtain ⟨rfl, hs⟩ := hr.iret t108_76
    exact ⟨_, _, hs, Or.inr ⟨j, hj, rfl, by rw [if_neg e11_0, if_neg e11_1, if_neg e11_2]⟩, rfl, rfl⟩
  · replace hr := hr.go (s_k t108_8)
    obtain ⟨rfl, hs⟩ := hr.iret t108_9
    exact ⟨_, _, hs, Or.inl ⟨b5, rfl⟩, rfl, rfl⟩
theorem ct_jokeR {nf : Bool} {xs : List Int32} {d : Nat} {m : xM} {g : xL} {G : xG} {x y : Int32} {J L1 L2 : Nat} (hG : GW G) (g3 : G.1 128 3 = some 130) (hl : G.2 130 = (0, 1, 18)) (h10 : G.1 128 10 = some 137) (h11 : G.1 128 11 = some 138) (hl137 : G.2 137 = (0, 1, L1)) (hl138 : G.2 138 = (0, 1, L2)) (h3 : m 130 2 = Int32.ofNat J) (hJ : J ≤ 6) : CT nf xs d 219 [.ref 128, .int x, .int y] m g G (fun r m' g' => JK x y J (m 137) (m 138) (fun j => Int32.ofNat (ctN (uN (g 164 j)) 62)) r ∧ NW m g m' g') := by
  refine CT.of (c := 11) (ini := false) (nL := 3) (rt := some .int) (tab := zt219) rfl (fun d' r h' N hd hr => ?_)
  replace hr : RR nf xs d' 11 false 3 (some .int) zt219 G r h' N (0, [(0, .ref 128), (1, .int x), (2, .int y)], [], m, g) := hr
  have km1 : (-1 : Int32).toInt = -1 := rfl
  have k1 : (1 : Int32).toInt = 1 := rfl
  have k2 : (2 : Int32).toInt = 2 := rfl
  replace hr := hr.go (s_aload_n t219_0 rfl)
  replace hr := hr.go (s_k t219_1)
  replace hr := hr.go (s_putf t219_2)
  replace hr := hr.go (s_aload_n t219_5 rfl)
  replace hr := hr.go (s_iload_n t219_6 rfl)
  replace hr := hr.cvI t219_7 rfl rfl (ct_isJokeR g3 hl)
  rw [show xu m 128 0 0 130 2 = Int32.ofNat J from by rw [xu_row (by decide), h3]] at hr
  rcases hr.zNe t219_10 with ⟨b10, hr⟩ | ⟨b10, hr⟩
  · obtain ⟨j, hj, rfl⟩ := rdV_ok hJ b10
    replace hr := hr.go (s_iload_n t219_15 rfl)
    rcases hr.zNe t219_16 with ⟨b16, hr⟩ | ⟨b16, hr⟩
    · replace hr := hr.go (s_iload_n t219_28 rfl)
      replace hr := hr.go (s_k t219_29)
      rcases hr.bNe t219_30 with ⟨b30, hr⟩ | ⟨b30, hr⟩
      · replace hr := hr.go (s_iload_n t219_42 rfl)
        replace hr := hr.go (s_k t219_43)
        rcases hr.bNe t219_44 with ⟨b44, hr⟩ | ⟨b44, hr⟩
        · replace hr := hr.go (s_k t219_59)
          obtain ⟨rfl, hs⟩ := hr.iret t219_60
          exact ⟨_, _, hs, Or.inr ⟨j, hj, rfl, by rw [if_neg b16, if_neg b30, if_neg b44]⟩, NW.x⟩
        · replace hr := hr.go (s_aload_n t219_47 rfl)
          replace hr := hr.go (s_getr (b := 164) t219_48 (hG.1 51 (by decide) (by decide)))
          replace hr := hr.go (s_iload_n t219_51 rfl)
          replace hr := hr.go (s_laload t219_52)
          rw [xn_nat (show j < 2147483648 by omega)] at hr
          replace hr := hr.csI t219_53 rfl rfl (ct_bitsOf)
          replace hr := hr.go (s_goto t219_56)
          obtain ⟨rfl, hs⟩ := hr.iret t219_60
          exact ⟨_, _, hs, Or.inr ⟨j, hj, rfl, by rw [if_neg b16, if_neg b30, if_pos b44]⟩, NW.x⟩
      · replace hr := hr.go (s_aload_n t219_33 rfl)
        replace hr := hr.go (s_getr t219_34 (h11))
        replace hr := hr.go (s_iload_n t219_37 rfl)
        replace hr := hr.go (s_iaload t219_38 (hl138))
        rw [xn_nat (show j < 2147483648 by omega)] at hr
        replace hr := hr.go (s_goto t219_39)
        obtain ⟨rfl, hs⟩ := hr.iret t219_60
        exact ⟨_, _, hs, Or.inr ⟨j, hj, rfl, by rw [if_neg b16, if_pos b30, xu_row (by decide)]⟩, NW.x⟩
    · replace hr := hr.go (s_aload_n t219_19 rfl)
      replace hr := hr.go (s_getr t219_20 (h10))
      replace hr := hr.go (s_iload_n t219_23 rfl)
      replace hr := hr.go (s_iaload t219_24 (hl137))
      rw [xn_nat (show j < 2147483648 by omega)] at hr
      replace hr := hr.go (s_goto t219_25)
      obtain ⟨rfl, hs⟩ := hr.iret t219_60
      exact ⟨_, _, hs, Or.inr ⟨j, hj, rfl, by rw [if_pos b16, xu_row (by decide)]⟩, NW.x⟩
  · replace hr := hr.go (s_k t219_13)
    obtain ⟨rfl, hs⟩ := hr.iret t219_14
    exact ⟨_, _, hs, Or.inl ⟨b10, rfl⟩, NW.x⟩
