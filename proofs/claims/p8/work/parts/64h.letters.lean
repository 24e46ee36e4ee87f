/-! The letters of the text WORDS (java/lang/String). -/
section XI
variable {nf : Bool} {xs : List Int32} {d c : Nat} {ini : Bool} {nL : Nat} {rt : Option FieldType} {tab : Nat → Option (Instr × Nat)} {G : xG} {r : Option Value} {h' : zH} {pc pc' len q : Nat} {ls ls' : zL} {st : List Value} {m m1 : xM} {g g1 : xL} {N : Nat} {off : Int} {x y : Int32}
theorem s_aloadV {k : Fin 4} {v : Value} (t : xt tab pc pc' (.aload_n k)) (e : zget ls k = some v) (hv : xvk v = 3) : XS nf xs d c ini nL rt tab G r h' (pc, ls, st, m, g) (pc', ls, v :: st, m, g) := by
  obtain ⟨t, rfl⟩ := t
  exact xpure t rfl rfl (fun _ => rfl) (fun h s q => by
    simp only [zstep, zstI, zstL, e] at q
    cases v <;> first | (cases q; rfl) | (exact absurd hv (by simp [xvk])))
theorem RR.stuckS {j : Nat} (hr : RR nf xs d c ini nL rt tab G r h' N (pc, ls, st, m, g)) (t : tab pc = some (.invokestatic j, 3)) (e : zIT c j = none) : False := by
  obtain ⟨n, hn, h, hs, q2⟩ := hr
  obtain ⟨n', mi', as, rest', r1, k1, en, z, q3, q⟩ := zinvC t rfl (by simp only [zobjI, e]) rfl q2
  simp only [zcall, e] at z
  cases z
theorem s_i2c (t : xt tab pc pc' .i2c) : XS nf xs d c ini nL rt tab G r h' (pc, ls, .int x :: st, m, g) (pc', ls, .int (x.toUInt32 % 65536).toInt32 :: st, m, g) := by
  obtain ⟨t, rfl⟩ := t
  exact xpure t rfl rfl (fun _ => rfl) (fun h s q => by cases q; rfl)
end XI
theorem t274_0 : xt zt274 0 1 (.iload_n 0) := ⟨rfl, rfl⟩
theorem t274_1 : xtb zt274 1 4 9 (.ifCond .lt 8) (8) := ⟨rfl, rfl, rfl⟩
theorem t274_4 : xt zt274 4 5 (.iload_n 0) := ⟨rfl, rfl⟩
theorem t274_5 : xt zt274 5 6 (.iload_n 1) := ⟨rfl, rfl⟩
theorem t274_6 : xtb zt274 6 9 16 (.if_icmp .lt 10) (10) := ⟨rfl, rfl, rfl⟩
theorem t274_9 : xt zt274 9 10 (.aload_n 2) := ⟨rfl, rfl⟩
theorem t274_10 : xt zt274 10 11 (.iload_n 0) := ⟨rfl, rfl⟩
theorem t274_11 : xt zt274 11 12 (.iload_n 1) := ⟨rfl, rfl⟩
theorem t274_12 : zt274 12 = some (.invokestatic 95, 3) := rfl
theorem t274_16 : xt zt274 16 17 (.iload_n 0) := ⟨rfl, rfl⟩
theorem t274_17 : xt zt274 17 18 .ireturn := ⟨rfl, rfl⟩

theorem t264_0 : xt zt264 0 1 (.aload_n 0) := ⟨rfl, rfl⟩
theorem t264_1 : xt zt264 1 4 (.getfield 9) := ⟨rfl, rfl⟩
theorem t264_4 : xt zt264 4 5 .arraylength := ⟨rfl, rfl⟩
theorem t264_5 : xt zt264 5 6 (.aload_n 0) := ⟨rfl, rfl⟩
theorem t264_6 : xtc zt264 15 6 9 (.invokevirtual 335) 335 1 266 0 := ⟨rfl, rfl, rfl⟩
theorem t264_9 : xt zt264 9 10 .ishr := ⟨rfl, rfl⟩
theorem t264_10 : xt zt264 10 11 .ireturn := ⟨rfl, rfl⟩
theorem t265_0 : xt zt265 0 1 (.aload_n 0) := ⟨rfl, rfl⟩
theorem t265_1 : xtc zt265 15 1 4 (.invokevirtual 492) 492 1 267 0 := ⟨rfl, rfl, rfl⟩
theorem t265_4 : xtb zt265 4 7 16 (.ifCond .eq 12) (12) := ⟨rfl, rfl, rfl⟩
theorem t265_7 : xt zt265 7 8 (.aload_n 0) := ⟨rfl, rfl⟩
theorem t265_8 : xt zt265 8 11 (.getfield 9) := ⟨rfl, rfl⟩
theorem t265_11 : xt zt265 11 12 (.iload_n 1) := ⟨rfl, rfl⟩
theorem t265_12 : xtc zt265 15 12 15 (.invokestatic 495) 495 2 269 2 := ⟨rfl, rfl, rfl⟩
theorem t265_15 : xt zt265 15 16 .ireturn := ⟨rfl, rfl⟩
theorem t265_16 : xt zt265 16 17 (.aload_n 0) := ⟨rfl, rfl⟩
theorem t265_17 : xt zt265 17 20 (.getfield 9) := ⟨rfl, rfl⟩
theorem t265_20 : xt zt265 20 21 (.iload_n 1) := ⟨rfl, rfl⟩
theorem t265_21 : xtc zt265 15 21 24 (.invokestatic 498) 498 2 272 2 := ⟨rfl, rfl, rfl⟩
theorem t265_24 : xt zt265 24 25 .ireturn := ⟨rfl, rfl⟩
theorem t266_0 : xt zt266 0 3 (.getstatic 38) := ⟨rfl, rfl⟩
theorem t266_3 : xtb zt266 3 6 13 (.ifCond .eq 10) (10) := ⟨rfl, rfl, rfl⟩
theorem t266_6 : xt zt266 6 7 (.aload_n 0) := ⟨rfl, rfl⟩
theorem t266_7 : xt zt266 7 10 (.getfield 15) := ⟨rfl, rfl⟩
theorem t266_10 : xtb zt266 10 13 14 (.goto 4) (4) := ⟨rfl, rfl, rfl⟩
theorem t266_13 : xtk zt266 13 14 (1) := Or.inl ⟨1, ⟨rfl, rfl⟩, by decide⟩
theorem t266_14 : xt zt266 14 15 .ireturn := ⟨rfl, rfl⟩
theorem t267_0 : xt zt267 0 3 (.getstatic 38) := ⟨rfl, rfl⟩
theorem t267_3 : xtb zt267 3 6 17 (.ifCond .eq 14) (14) := ⟨rfl, rfl, rfl⟩
theorem t267_6 : xt zt267 6 7 (.aload_n 0) := ⟨rfl, rfl⟩
theorem t267_7 : xt zt267 7 10 (.getfield 15) := ⟨rfl, rfl⟩
theorem t267_10 : xtb zt267 10 13 17 (.ifCond .ne 7) (7) := ⟨rfl, rfl, rfl⟩
theorem t267_13 : xtk zt267 13 14 (1) := Or.inl ⟨1, ⟨rfl, rfl⟩, by decide⟩
theorem t267_14 : xtb zt267 14 17 18 (.goto 4) (4) := ⟨rfl, rfl, rfl⟩
theorem t267_17 : xtk zt267 17 18 (0) := Or.inl ⟨0, ⟨rfl, rfl⟩, by decide⟩
theorem t267_18 : xt zt267 18 19 .ireturn := ⟨rfl, rfl⟩
theorem t268_0 : xt zt268 0 1 (.iload_n 0) := ⟨rfl, rfl⟩
theorem t268_1 : xt zt268 1 2 (.iload_n 1) := ⟨rfl, rfl⟩
theorem t268_2 : xt zt268 2 5 (.getstatic 1053) := ⟨rfl, rfl⟩
theorem t268_5 : xtc zt268 15 5 8 (.invokestatic 1059) 1059 2 274 3 := ⟨rfl, rfl, rfl⟩
theorem t268_8 : xt zt268 8 9 .pop := ⟨rfl, rfl⟩
theorem t268_9 : xt zt268 9 10 .return_ := ⟨rfl, rfl⟩
theorem t269_0 : xt zt269 0 1 (.iload_n 1) := ⟨rfl, rfl⟩
theorem t269_1 : xt zt269 1 2 (.aload_n 0) := ⟨rfl, rfl⟩
theorem t269_2 : xt zt269 2 3 .arraylength := ⟨rfl, rfl⟩
theorem t269_3 : xtc zt269 16 3 6 (.invokestatic 9) 9 2 268 2 := ⟨rfl, rfl, rfl⟩
theorem t269_6 : xt zt269 6 7 (.aload_n 0) := ⟨rfl, rfl⟩
theorem t269_7 : xt zt269 7 8 (.iload_n 1) := ⟨rfl, rfl⟩
theorem t269_8 : xt zt269 8 9 .baload := ⟨rfl, rfl⟩
theorem t269_9 : xtk zt269 9 12 (255) := Or.inr (Or.inr ⟨255, ⟨rfl, rfl⟩, by decide⟩)
theorem t269_12 : xt zt269 12 13 .iand := ⟨rfl, rfl⟩
theorem t269_13 : xt zt269 13 14 .i2c := ⟨rfl, rfl⟩
theorem t269_14 : xt zt269 14 15 .ireturn := ⟨rfl, rfl⟩
theorem ct_chk3 {nf : Bool} {xs : List Int32} {d : Nat} {m : xM} {g : xL} {G : xG} {x y : Int32} {v : Value} (hv : xvk v = 3) : CT nf xs d 274 [.int x, .int y, v] m g G (PE (some (.int x)) m g) := by
  refine CT.of (c := 18) (ini := false) (nL := 3) (rt := some .int) (tab := zt274) rfl (fun d' r h' N hd hr => ?_)
  replace hr : RR nf xs d' 18 false 3 (some .int) zt274 G r h' N (0, [(0, .int x), (1, .int y), (2, v)], [], m, g) := hr
  replace hr := hr.go (s_iload_n t274_0 rfl)
  rcases hr.zLt t274_1 with ⟨c1, hr⟩ | ⟨c1, hr⟩
  · replace hr := hr.go (s_aloadV t274_9 rfl hv)
    replace hr := hr.go (s_iload_n t274_10 rfl)
    replace hr := hr.go (s_iload_n t274_11 rfl)
    exact (hr.stuckS t274_12 rfl).elim
  · replace hr := hr.go (s_iload_n t274_4 rfl)
    replace hr := hr.go (s_iload_n t274_5 rfl)
    rcases hr.bLt t274_6 with ⟨c2, hr⟩ | ⟨c2, hr⟩
    · replace hr := hr.go (s_iload_n t274_16 rfl)
      obtain ⟨rfl, hs⟩ := hr.iret t274_17
      exact ⟨_, _, hs, rfl, rfl, rfl⟩
    · replace hr := hr.go (s_aloadV t274_9 rfl hv)
      replace hr := hr.go (s_iload_n t274_10 rfl)
      replace hr := hr.go (s_iload_n t274_11 rfl)
      exact (hr.stuckS t274_12 rfl).elim
theorem ct_chk2 {nf : Bool} {xs : List Int32} {d : Nat} {m : xM} {g : xL} {G : xG} {x y : Int32} : CT nf xs d 268 [.int x, .int y] m g G (PE none m g) := by
  refine CT.of (c := 15) (ini := false) (nL := 2) (rt := none) (tab := zt268) rfl (fun d' r h' N hd hr => ?_)
  replace hr : RR nf xs d' 15 false 2 none zt268 G r h' N (0, [(0, .int x), (1, .int y)], [], m, g) := hr
  replace hr := hr.go (s_iload_n t268_0 rfl)
  replace hr := hr.go (s_iload_n t268_1 rfl)
  replace hr := hr.go (s_getstatic (v := bif nf then .null else .retAddr 5) t268_2 rfl)
  replace hr := hr.csI t268_5 rfl rfl (ct_chk3 (by cases nf <;> rfl))
  replace hr := hr.go (s_pop t268_8)
  obtain ⟨rfl, hs⟩ := hr.ret t268_9
  exact ⟨_, _, hs, rfl, rfl, rfl⟩
def chW (i : Nat) : Int32 := ((zwords.getD i 0 &&& 255).toUInt32 % 65536).toInt32
theorem ct_lch {nf : Bool} {xs : List Int32} {d : Nat} {m : xM} {g : xL} {G : xG} {x : Int32} : CT nf xs d 269 [.retAddr 3, .int x] m g G (PE (some (.int (chW x.toNatClampNeg))) m g) := by
  refine CT.of (c := 16) (ini := false) (nL := 2) (rt := some .char) (tab := zt269) rfl (fun d' r h' N hd hr => ?_)
  replace hr : RR nf xs d' 16 false 2 (some .char) zt269 G r h' N (0, [(0, .retAddr 3), (1, .int x)], [], m, g) := hr
  replace hr := hr.go (s_iload_n t269_0 rfl)
  replace hr := hr.go (s_aloadX_n t269_1 rfl)
  replace hr := hr.go (s_alenX t269_2 rfl)
  replace hr := hr.csN t269_3 rfl rfl ct_chk2
  replace hr := hr.go (s_aloadX_n t269_6 rfl)
  replace hr := hr.go (s_iload_n t269_7 rfl)
  replace hr := hr.go (s_baloadX t269_8 rfl)
  replace hr := hr.go (s_k t269_9)
  replace hr := hr.go (s_iand t269_12)
  replace hr := hr.go (s_i2c t269_13)
  obtain ⟨rfl, hs⟩ := hr.iret t269_14
  exact ⟨_, _, hs, rfl, rfl, rfl⟩
theorem ct_coder {nf : Bool} {xs : List Int32} {d : Nat} {m : xM} {g : xL} {G : xG} : CT nf xs d 266 [.retAddr 1] m g G (PE (some (.int 0)) m g) := by
  refine CT.of (c := 15) (ini := false) (nL := 1) (rt := some .byte) (tab := zt266) rfl (fun d' r h' N hd hr => ?_)
  replace hr : RR nf xs d' 15 false 1 (some .byte) zt266 G r h' N (0, [(0, .retAddr 1)], [], m, g) := hr
  replace hr := hr.go (s_getstatic (v := .int 1) t266_0 rfl)
  rcases hr.zEq t266_3 with ⟨c1, hr⟩ | ⟨c1, hr⟩
  · exact absurd c1 (by decide)
  · replace hr := hr.go (s_aloadX_n t266_6 rfl)
    replace hr := hr.go (s_getfX (v := .int 0) t266_7 rfl)
    replace hr := hr.go (s_goto t266_10)
    obtain ⟨rfl, hs⟩ := hr.iret t266_14
    exact ⟨_, _, hs, rfl, rfl, rfl⟩
theorem ct_latin {nf : Bool} {xs : List Int32} {d : Nat} {m : xM} {g : xL} {G : xG} : CT nf xs d 267 [.retAddr 1] m g G (PE (some (.int 1)) m g) := by
  refine CT.of (c := 15) (ini := false) (nL := 1) (rt := some .boolean) (tab := zt267) rfl (fun d' r h' N hd hr => ?_)
  replace hr : RR nf xs d' 15 false 1 (some .boolean) zt267 G r h' N (0, [(0, .retAddr 1)], [], m, g) := hr
  replace hr := hr.go (s_getstatic (v := .int 1) t267_0 rfl)
  rcases hr.zEq t267_3 with ⟨c1, hr⟩ | ⟨c1, hr⟩
  · exact absurd c1 (by decide)
  · replace hr := hr.go (s_aloadX_n t267_6 rfl)
    replace hr := hr.go (s_getfX (v := .int 0) t267_7 rfl)
    rcases hr.zNe t267_10 with ⟨c2, hr⟩ | ⟨c2, hr⟩
    · exact absurd rfl c2
    · replace hr := hr.go (s_k t267_13)
      replace hr := hr.go (s_goto t267_14)
      obtain ⟨rfl, hs⟩ := hr.iret t267_18
      exact ⟨_, _, hs, rfl, rfl, rfl⟩
theorem ct_len {nf : Bool} {xs : List Int32} {d : Nat} {m : xM} {g : xL} {G : xG} : CT nf xs d 264 [.retAddr 1] m g G (PE (some (.int (Int32.ofNat zwords.length >>> (0 &&& 31)))) m g) := by
  refine CT.of (c := 15) (ini := false) (nL := 1) (rt := some .int) (tab := zt264) rfl (fun d' r h' N hd hr => ?_)
  replace hr : RR nf xs d' 15 false 1 (some .int) zt264 G r h' N (0, [(0, .retAddr 1)], [], m, g) := hr
  replace hr := hr.go (s_aloadX_n t264_0 rfl)
  replace hr := hr.go (s_getfX (v := .retAddr 3) t264_1 rfl)
  replace hr := hr.go (s_alenX t264_4 rfl)
  replace hr := hr.go (s_aloadX_n t264_5 rfl)
  replace hr := hr.cXI t264_6 rfl rfl ct_coder
  replace hr := hr.go (s_ishr t264_9)
  obtain ⟨rfl, hs⟩ := hr.iret t264_10
  exact ⟨_, _, hs, rfl, rfl, rfl⟩
theorem ct_char {nf : Bool} {xs : List Int32} {d : Nat} {m : xM} {g : xL} {G : xG} {x : Int32} : CT nf xs d 265 [.retAddr 1, .int x] m g G (PE (some (.int (chW x.toNatClampNeg))) m g) := by
  refine CT.of (c := 15) (ini := false) (nL := 2) (rt := some .char) (tab := zt265) rfl (fun d' r h' N hd hr => ?_)
  replace hr : RR nf xs d' 15 false 2 (some .char) zt265 G r h' N (0, [(0, .retAddr 1), (1, .int x)], [], m, g) := hr
  replace hr := hr.go (s_aloadX_n t265_0 rfl)
  replace hr := hr.cXI t265_1 rfl rfl ct_latin
  rcases hr.zEq t265_4 with ⟨c1, hr⟩ | ⟨c1, hr⟩
  · exact absurd c1 (by decide)
  · replace hr := hr.go (s_aloadX_n t265_7 rfl)
    replace hr := hr.go (s_getfX (v := .retAddr 3) t265_8 rfl)
    replace hr := hr.go (s_iload_n t265_11 rfl)
    replace hr := hr.csI t265_12 rfl rfl ct_lch
    obtain ⟨rfl, hs⟩ := hr.iret t265_15
    exact ⟨_, _, hs, rfl, rfl, rfl⟩
