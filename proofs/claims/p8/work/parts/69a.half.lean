/-! The reference: a whole text; rules for constants. -/
theorem t189_0 : xt zt189 0 1 (.aload_n 0) := ⟨rfl, rfl⟩
theorem t189_1 : xtk zt189 1 2 (0) := Or.inl ⟨0, ⟨rfl, rfl⟩, by decide⟩
theorem t189_2 : xtc zt189 11 2 5 (.invokevirtual 349) 349 1 188 1 := ⟨rfl, rfl, rfl⟩
theorem t189_5 : xt zt189 5 6 .return_ := ⟨rfl, rfl⟩
theorem t188_0 : xt zt188 0 1 (.aload_n 0) := ⟨rfl, rfl⟩
theorem t188_1 : xtf zt188 11 1 4 (.getfield 78) 78 11 37 3 := ⟨rfl, rfl, rfl, rfl⟩
theorem t188_4 : xt zt188 4 5 (.iload_n 1) := ⟨rfl, rfl⟩
theorem t188_5 : xtk zt188 5 6 (0) := Or.inl ⟨0, ⟨rfl, rfl⟩, by decide⟩
theorem t188_6 : xt zt188 6 7 .iastore := ⟨rfl, rfl⟩
theorem t188_7 : xt zt188 7 8 (.aload_n 0) := ⟨rfl, rfl⟩
theorem t188_8 : xtf zt188 11 8 11 (.getfield 81) 81 11 38 3 := ⟨rfl, rfl, rfl, rfl⟩
theorem t188_11 : xt zt188 11 12 (.iload_n 1) := ⟨rfl, rfl⟩
theorem t188_12 : xtk zt188 12 13 (0) := Or.inl ⟨0, ⟨rfl, rfl⟩, by decide⟩
theorem t188_13 : xt zt188 13 14 .iastore := ⟨rfl, rfl⟩
theorem t188_14 : xt zt188 14 15 (.aload_n 0) := ⟨rfl, rfl⟩
theorem t188_15 : xtf zt188 11 15 18 (.getfield 84) 84 11 39 3 := ⟨rfl, rfl, rfl, rfl⟩
theorem t188_18 : xt zt188 18 19 (.iload_n 1) := ⟨rfl, rfl⟩
theorem t188_19 : xtk zt188 19 20 (0) := Or.inl ⟨0, ⟨rfl, rfl⟩, by decide⟩
theorem t188_20 : xt zt188 20 21 .iastore := ⟨rfl, rfl⟩
theorem t188_21 : xt zt188 21 22 (.aload_n 0) := ⟨rfl, rfl⟩
theorem t188_22 : xtf zt188 11 22 25 (.getfield 87) 87 11 40 3 := ⟨rfl, rfl, rfl, rfl⟩
theorem t188_25 : xt zt188 25 26 (.iload_n 1) := ⟨rfl, rfl⟩
theorem t188_26 : xtk zt188 26 27 (0) := Or.inl ⟨0, ⟨rfl, rfl⟩, by decide⟩
theorem t188_27 : xt zt188 27 28 .iastore := ⟨rfl, rfl⟩
theorem t188_28 : xt zt188 28 29 (.aload_n 0) := ⟨rfl, rfl⟩
theorem t188_29 : xtf zt188 11 29 32 (.getfield 90) 90 11 41 3 := ⟨rfl, rfl, rfl, rfl⟩
theorem t188_32 : xt zt188 32 33 (.iload_n 1) := ⟨rfl, rfl⟩
theorem t188_33 : xtk zt188 33 34 (0) := Or.inl ⟨0, ⟨rfl, rfl⟩, by decide⟩
theorem t188_34 : xt zt188 34 35 .iastore := ⟨rfl, rfl⟩
theorem t188_35 : xt zt188 35 36 (.aload_n 0) := ⟨rfl, rfl⟩
theorem t188_36 : xtf zt188 11 36 39 (.getfield 93) 93 11 42 3 := ⟨rfl, rfl, rfl, rfl⟩
theorem t188_39 : xt zt188 39 40 (.iload_n 1) := ⟨rfl, rfl⟩
theorem t188_40 : xtk zt188 40 41 (0) := Or.inl ⟨0, ⟨rfl, rfl⟩, by decide⟩
theorem t188_41 : xt zt188 41 42 .iastore := ⟨rfl, rfl⟩
theorem t188_42 : xtk zt188 42 43 (0) := Or.inl ⟨0, ⟨rfl, rfl⟩, by decide⟩
theorem t188_43 : xt zt188 43 44 (.istore_n 2) := ⟨rfl, rfl⟩
theorem t188_44 : xt zt188 44 45 (.iload_n 2) := ⟨rfl, rfl⟩
theorem t188_45 : xtk zt188 45 47 (6) := Or.inr (Or.inl ⟨6, ⟨rfl, rfl⟩, by decide⟩)
theorem t188_47 : xtb zt188 47 50 178 (.if_icmp .ge 131) (131) := ⟨rfl, rfl, rfl⟩
theorem t188_50 : xtk zt188 50 52 (6) := Or.inr (Or.inl ⟨6, ⟨rfl, rfl⟩, by decide⟩)
theorem t188_52 : xt zt188 52 53 (.iload_n 1) := ⟨rfl, rfl⟩
theorem t188_53 : xt zt188 53 54 .imul := ⟨rfl, rfl⟩
theorem t188_54 : xt zt188 54 55 (.iload_n 2) := ⟨rfl, rfl⟩
theorem t188_55 : xt zt188 55 56 .iadd := ⟨rfl, rfl⟩
theorem t188_56 : xt zt188 56 57 (.istore_n 3) := ⟨rfl, rfl⟩
theorem t188_57 : xt zt188 57 58 (.iload_n 2) := ⟨rfl, rfl⟩
theorem t188_58 : xt zt188 58 59 (.aload_n 0) := ⟨rfl, rfl⟩
theorem t188_59 : xtf zt188 11 59 62 (.getfield 13) 13 11 3 3 := ⟨rfl, rfl, rfl, rfl⟩
theorem t188_62 : xtk zt188 62 63 (1) := Or.inl ⟨1, ⟨rfl, rfl⟩, by decide⟩
theorem t188_63 : xt zt188 63 64 .iaload := ⟨rfl, rfl⟩
theorem t188_64 : xtb zt188 64 67 71 (.if_icmp .ge 7) (7) := ⟨rfl, rfl, rfl⟩
theorem t188_67 : xtk zt188 67 68 (1) := Or.inl ⟨1, ⟨rfl, rfl⟩, by decide⟩
theorem t188_68 : xtb zt188 68 71 72 (.goto 4) (4) := ⟨rfl, rfl, rfl⟩
theorem t188_71 : xtk zt188 71 72 (0) := Or.inl ⟨0, ⟨rfl, rfl⟩, by decide⟩
theorem t188_72 : xt zt188 72 74 (.istore 4) := ⟨rfl, rfl⟩
theorem t188_74 : xt zt188 74 75 (.aload_n 0) := ⟨rfl, rfl⟩
theorem t188_75 : xtf zt188 11 75 78 (.getfield 96) 96 11 43 3 := ⟨rfl, rfl, rfl, rfl⟩
theorem t188_78 : xt zt188 78 79 (.iload_n 3) := ⟨rfl, rfl⟩
theorem t188_79 : xt zt188 79 81 (.iload 4) := ⟨rfl, rfl⟩
theorem t188_81 : xtb zt188 81 84 93 (.ifCond .eq 12) (12) := ⟨rfl, rfl, rfl⟩
theorem t188_84 : xt zt188 84 85 (.aload_n 0) := ⟨rfl, rfl⟩
theorem t188_85 : xtf zt188 11 85 88 (.getfield 25) 25 11 7 3 := ⟨rfl, rfl, rfl, rfl⟩
theorem t188_88 : xt zt188 88 89 (.iload_n 2) := ⟨rfl, rfl⟩
theorem t188_89 : xt zt188 89 90 .iaload := ⟨rfl, rfl⟩
theorem t188_90 : xtb zt188 90 93 94 (.goto 4) (4) := ⟨rfl, rfl, rfl⟩
theorem t188_93 : xtk zt188 93 94 (0) := Or.inl ⟨0, ⟨rfl, rfl⟩, by decide⟩
theorem t188_94 : xt zt188 94 95 .iastore := ⟨rfl, rfl⟩
theorem t188_95 : xt zt188 95 96 (.aload_n 0) := ⟨rfl, rfl⟩
theorem t188_96 : xtf zt188 11 96 99 (.getfield 99) 99 11 44 3 := ⟨rfl, rfl, rfl, rfl⟩
theorem t188_99 : xt zt188 99 100 (.iload_n 3) := ⟨rfl, rfl⟩
theorem t188_100 : xtk zt188 100 101 (0) := Or.inl ⟨0, ⟨rfl, rfl⟩, by decide⟩
theorem t188_101 : xt zt188 101 102 .iastore := ⟨rfl, rfl⟩
theorem t188_102 : xt zt188 102 103 (.aload_n 0) := ⟨rfl, rfl⟩
theorem t188_103 : xtf zt188 11 103 106 (.getfield 102) 102 11 45 3 := ⟨rfl, rfl, rfl, rfl⟩
theorem t188_106 : xt zt188 106 107 (.iload_n 3) := ⟨rfl, rfl⟩
theorem t188_107 : xt zt188 107 109 (.iload 4) := ⟨rfl, rfl⟩
theorem t188_109 : xtb zt188 109 112 116 (.ifCond .eq 7) (7) := ⟨rfl, rfl, rfl⟩
theorem t188_112 : xtk zt188 112 113 (1) := Or.inl ⟨1, ⟨rfl, rfl⟩, by decide⟩
theorem t188_113 : xtb zt188 113 116 117 (.goto 4) (4) := ⟨rfl, rfl, rfl⟩
theorem t188_116 : xtk zt188 116 117 (0) := Or.inl ⟨0, ⟨rfl, rfl⟩, by decide⟩
theorem t188_117 : xt zt188 117 118 .iastore := ⟨rfl, rfl⟩
theorem t188_118 : xt zt188 118 119 (.aload_n 0) := ⟨rfl, rfl⟩
theorem t188_119 : xtf zt188 11 119 122 (.getfield 105) 105 11 46 3 := ⟨rfl, rfl, rfl, rfl⟩
theorem t188_122 : xt zt188 122 123 (.iload_n 3) := ⟨rfl, rfl⟩
theorem t188_123 : xtk zt188 123 124 (-1) := Or.inl ⟨-1, ⟨rfl, rfl⟩, by decide⟩
theorem t188_124 : xt zt188 124 125 .iastore := ⟨rfl, rfl⟩
theorem t188_125 : xt zt188 125 126 (.aload_n 0) := ⟨rfl, rfl⟩
theorem t188_126 : xtf zt188 11 126 129 (.getfield 108) 108 11 47 3 := ⟨rfl, rfl, rfl, rfl⟩
theorem t188_129 : xt zt188 129 130 (.iload_n 3) := ⟨rfl, rfl⟩
theorem t188_130 : xtk zt188 130 131 (0) := Or.inl ⟨0, ⟨rfl, rfl⟩, by decide⟩
theorem t188_131 : xt zt188 131 132 .iastore := ⟨rfl, rfl⟩
theorem t188_132 : xt zt188 132 133 (.aload_n 0) := ⟨rfl, rfl⟩
theorem t188_133 : xtf zt188 11 133 136 (.getfield 111) 111 11 48 3 := ⟨rfl, rfl, rfl, rfl⟩
theorem t188_136 : xt zt188 136 137 (.iload_n 3) := ⟨rfl, rfl⟩
theorem t188_137 : xtk zt188 137 138 (0) := Or.inl ⟨0, ⟨rfl, rfl⟩, by decide⟩
theorem t188_138 : xt zt188 138 139 .iastore := ⟨rfl, rfl⟩
theorem t188_139 : xt zt188 139 140 (.aload_n 0) := ⟨rfl, rfl⟩
theorem t188_140 : xtf zt188 11 140 143 (.getfield 114) 114 11 49 3 := ⟨rfl, rfl, rfl, rfl⟩
theorem t188_143 : xt zt188 143 144 (.iload_n 3) := ⟨rfl, rfl⟩
theorem t188_144 : xtk zt188 144 145 (0) := Or.inl ⟨0, ⟨rfl, rfl⟩, by decide⟩
theorem t188_145 : xt zt188 145 146 .iastore := ⟨rfl, rfl⟩
theorem t188_146 : xt zt188 146 147 (.aload_n 0) := ⟨rfl, rfl⟩
theorem t188_147 : xtf zt188 11 147 150 (.getfield 120) 120 11 51 3 := ⟨rfl, rfl, rfl, rfl⟩
theorem t188_150 : xt zt188 150 151 (.iload_n 3) := ⟨rfl, rfl⟩
theorem t188_151 : xt zt188 151 152 (.iload_n 2) := ⟨rfl, rfl⟩
theorem t188_152 : xt zt188 152 153 (.aload_n 0) := ⟨rfl, rfl⟩
theorem t188_153 : xtf zt188 11 153 156 (.getfield 13) 13 11 3 3 := ⟨rfl, rfl, rfl, rfl⟩
theorem t188_156 : xtk zt188 156 157 (2) := Or.inl ⟨2, ⟨rfl, rfl⟩, by decide⟩
theorem t188_157 : xt zt188 157 158 .iaload := ⟨rfl, rfl⟩
theorem t188_158 : xtb zt188 158 161 170 (.if_icmp .ge 12) (12) := ⟨rfl, rfl, rfl⟩
theorem t188_161 : xt zt188 161 162 (.aload_n 0) := ⟨rfl, rfl⟩
theorem t188_162 : xtf zt188 11 162 165 (.getfield 40) 40 11 12 3 := ⟨rfl, rfl, rfl, rfl⟩
theorem t188_165 : xt zt188 165 166 (.iload_n 2) := ⟨rfl, rfl⟩
theorem t188_166 : xt zt188 166 167 .laload := ⟨rfl, rfl⟩
theorem t188_167 : xtb zt188 167 170 171 (.goto 4) (4) := ⟨rfl, rfl, rfl⟩
theorem t188_170 : xt zt188 170 171 (.lconst 0) := ⟨rfl, rfl⟩
theorem t188_171 : xt zt188 171 172 .lastore := ⟨rfl, rfl⟩
theorem t188_172 : xt zt188 172 175 (.iinc 2 1) := ⟨rfl, rfl⟩
theorem t188_175 : xtb zt188 175 178 44 (.goto (-131)) (-131) := ⟨rfl, rfl, rfl⟩
theorem t188_178 : xtk zt188 178 179 (0) := Or.inl ⟨0, ⟨rfl, rfl⟩, by decide⟩
theorem t188_179 : xt zt188 179 180 (.istore_n 2) := ⟨rfl, rfl⟩
theorem t188_180 : xt zt188 180 181 (.iload_n 2) := ⟨rfl, rfl⟩
theorem t188_181 : xtk zt188 181 183 (36) := Or.inr (Or.inl ⟨36, ⟨rfl, rfl⟩, by decide⟩)
theorem t188_183 : xtb zt188 183 186 204 (.if_icmp .ge 21) (21) := ⟨rfl, rfl, rfl⟩
theorem t188_186 : xt zt188 186 187 (.aload_n 0) := ⟨rfl, rfl⟩
theorem t188_187 : xtf zt188 11 187 190 (.getfield 117) 117 11 50 3 := ⟨rfl, rfl, rfl, rfl⟩
theorem t188_190 : xtk zt188 190 192 (36) := Or.inr (Or.inl ⟨36, ⟨rfl, rfl⟩, by decide⟩)
theorem t188_192 : xt zt188 192 193 (.iload_n 1) := ⟨rfl, rfl⟩
theorem t188_193 : xt zt188 193 194 .imul := ⟨rfl, rfl⟩
theorem t188_194 : xt zt188 194 195 (.iload_n 2) := ⟨rfl, rfl⟩
theorem t188_195 : xt zt188 195 196 .iadd := ⟨rfl, rfl⟩
theorem t188_196 : xtk zt188 196 197 (0) := Or.inl ⟨0, ⟨rfl, rfl⟩, by decide⟩
theorem t188_197 : xt zt188 197 198 .iastore := ⟨rfl, rfl⟩
theorem t188_198 : xt zt188 198 201 (.iinc 2 1) := ⟨rfl, rfl⟩
theorem t188_201 : xtb zt188 201 204 180 (.goto (-21)) (-21) := ⟨rfl, rfl, rfl⟩
theorem t188_204 : xt zt188 204 205 .return_ := ⟨rfl, rfl⟩
section XI
variable {nf : Bool} {xs : List Int32} {d c : Nat} {ini : Bool} {nL : Nat} {rt : Option FieldType} {tab : Nat → Option (Instr × Nat)} {G : xG} {r : Option Value} {h' : zH} {pc pc' len q : Nat} {ls ls' : zL} {st : List Value} {m : xM} {g : xL} {N : Nat} {off : Int} {x y : Int32}
theorem RR.brT {cnd : Jvm.ClassFile.Cond} (hr : RR nf xs d c ini nL rt tab G r h' N (pc, ls, .int y :: .int x :: st, m, g)) (t : xtb tab pc pc' q (.if_icmp cnd off) off) (h : zicmp cnd x y = true) : RR nf xs d c ini nL rt tab G r h' N (q, ls, st, m, g) := by
  rcases hr.br t with ⟨-, b⟩ | ⟨a, -⟩
  · exact b
  · rw [h] at a; cases a
theorem RR.brF {cnd : Jvm.ClassFile.Cond} (hr : RR nf xs d c ini nL rt tab G r h' N (pc, ls, .int y :: .int x :: st, m, g)) (t : xtb tab pc pc' q (.if_icmp cnd off) off) (h : zicmp cnd x y = false) : RR nf xs d c ini nL rt tab G r h' N (pc', ls, st, m, g) := by
  rcases hr.br t with ⟨a, -⟩ | ⟨-, b⟩
  · rw [h] at a; cases a
  · exact b
theorem RR.bzT {cnd : Jvm.ClassFile.Cond} (hr : RR nf xs d c ini nL rt tab G r h' N (pc, ls, .int x :: st, m, g)) (t : xtb tab pc pc' q (.ifCond cnd off) off) (h : zicmp cnd x 0 = true) : RR nf xs d c ini nL rt tab G r h' N (q, ls, st, m, g) := by
  rcases hr.bz t with ⟨-, b⟩ | ⟨a, -⟩
  · exact b
  · rw [h] at a; cases a
theorem RR.bzF {cnd : Jvm.ClassFile.Cond} (hr : RR nf xs d c ini nL rt tab G r h' N (pc, ls, .int x :: st, m, g)) (t : xtb tab pc pc' q (.ifCond cnd off) off) (h : zicmp cnd x 0 = false) : RR nf xs d c ini nL rt tab G r h' N (pc', ls, st, m, g) := by
  rcases hr.bz t with ⟨a, -⟩ | ⟨-, b⟩
  · rw [h] at a; cases a
  · exact b
theorem s_idiv (hy : ¬ y = 0) (t : xt tab pc pc' .idiv) : XS nf xs d c ini nL rt tab G r h' (pc, ls, .int y :: .int x :: st, m, g) (pc', ls, .int (x / y) :: st, m, g) := by
  obtain ⟨t, rfl⟩ := t
  exact xpure t rfl rfl (fun _ => rfl) (fun h s q => by
    simp only [zstep, zstI, if_neg hy] at q
    cases q
    rfl)
theorem s_irem (hy : ¬ y = 0) (t : xt tab pc pc' .irem) : XS nf xs d c ini nL rt tab G r h' (pc, ls, .int y :: .int x :: st, m, g) (pc', ls, .int (x - x / y * y) :: st, m, g) := by
  obtain ⟨t, rfl⟩ := t
  exact xpure t rfl rfl (fun _ => rfl) (fun h s q => by
    simp only [zstep, zstI, if_neg hy] at q
    cases q
    rfl)
theorem s_iushr (t : xt tab pc pc' .iushr) : XS nf xs d c ini nL rt tab G r h' (pc, ls, .int y :: .int x :: st, m, g) (pc', ls, .int ((x.toUInt32 >>> (y.toUInt32 &&& Int32.toUInt32 31)).toInt32) :: st, m, g) := by
  obtain ⟨t, rfl⟩ := t
  exact xpure t rfl rfl (fun _ => rfl) (fun h s q => by cases q; rfl)
theorem s_lxor {x y : Int64} (t : xt tab pc pc' .lxor) : XS nf xs d c ini nL rt tab G r h' (pc, ls, .long y :: .long x :: st, m, g) (pc', ls, .long (x ^^^ y) :: st, m, g) := by
  obtain ⟨t, rfl⟩ := t
  exact xpure t rfl rfl (fun _ => rfl) (fun h s q => by cases q; rfl)
theorem s_ldc2 {j : Nat} {x : Int64} (t : xt tab pc pc' (.ldc2_w j)) (e : zkonT c j = some (.long x)) : XS nf xs d c ini nL rt tab G r h' (pc, ls, st, m, g) (pc', ls, .long x :: st, m, g) := by
  obtain ⟨t, rfl⟩ := t
  exact xpure t rfl rfl (fun _ => rfl) (fun h s q => by
    have e' : zkon (zXt nf xs) c j = some (.long x) := e
    simp only [zstep, zstI, zstL, zstH, e'] at q
    cases q
    rfl)
theorem s_aaload {a b : Nat} {i : Int32} (t : xt tab pc pc' .aaload) (hb : G.1 a i.toNatClampNeg = some b) : XS nf xs d c ini nL rt tab G r h' (pc, ls, .int i :: .ref a :: st, m, g) (pc', ls, .ref b :: st, m, g) := by
  obtain ⟨t, rfl⟩ := t
  intro n ⟨h, hs, q2⟩
  obtain ⟨n', p1, l1, s1, k1, en, z, q⟩ := zinv t rfl rfl rfl q2
  simp only [zstep, zstI, zstL, zstH] at z
  split at z
  · next l hh =>
    split at z
    · next qi =>
      cases z
      refine ⟨n', en, h, hs, ?_⟩
      have : zrv (l.getD i.toNatClampNeg none) = .ref b := by
        have q := hs.2.2.2.1
        rw [← q] at hb
        have hb : xr (rd h a i.toNatClampNeg) = some b := hb
        unfold rd at hb
        rw [hh] at hb
        have hb : xr (l[i.toNatClampNeg]?.map zrv) = some b := hb
        rw [List.getElem?_eq_getElem (xidx qi).1] at hb
        rw [List.getD_eq_getElem?_getD, List.getElem?_eq_getElem (xidx qi).1]
        cases hv : l[i.toNatClampNeg]'(xidx qi).1 with
        | none =>
          rw [hv] at hb
          cases hb
        | some k =>
          rw [hv] at hb
          have hb : some k = some b := hb
          cases hb
          rfl
      dsimp only
      rw [← this]
      exact q
    · cases z
  · cases z
end XI
theorem lp180 {nf : Bool} {xs : List Int32} {d : Nat} {g : xL} {G : xG} {r : Option Value} {h' : zH} {a n L : Nat} {m0 : xM} (ha : G.2 a = (0, 1, L)) (hn : n ≤ 100) : ∀ (N k : Nat) (m : xM), k ≤ n → (∀ b : Nat, ¬ b = a → m b = m0 b) → (∀ j : Nat, j < k → m a j = m0 a (n + j)) → (∀ j : Nat, k ≤ j → m a j = m0 a j) → RR nf xs d 11 false 3 none zt180 G r h' N (7, [(2, .int (Int32.ofNat k)), (1, .int (Int32.ofNat n)), (0, .ref a)], [], m, g) → ∃ (m' : xM) (g' : xL), HS h' m' g' G ∧ PF none g (fun m' => (∀ b : Nat, ¬ b = a → m' b = m0 b) ∧ ∀ j : Nat, j < n → m' a j = m0 a (n + j)) r m' g' := by
  intro N
  induction N with
  | zero => intro k m _ _ _ _ hr; exact hr.no.elim
  | succ N ih =>
    intro k m hk h1 h2 h3 hr
    have qk : (Int32.ofNat k).toInt = (k : Int) := xn_int (by omega)
    have qn : (Int32.ofNat n).toInt = (n : Int) := xn_int (by omega)
    replace hr := hr.go1 (s_iload_n t180_7 rfl)
    replace hr := hr.go (s_iload_n t180_8 rfl)
    rcases hr.bGe t180_9 with ⟨b9, hr⟩ | ⟨b9, hr⟩
    · obtain ⟨rfl, hs⟩ := hr.ret t180_26
      have e : k = n := by omega
      subst e
      exact ⟨_, _, hs, rfl, rfl, h1, h2⟩
    · replace hr := hr.go (s_aload_n t180_12 rfl)
      replace hr := hr.go (s_iload_n t180_13 rfl)
      replace hr := hr.go (s_aload_n t180_14 rfl)
      replace hr := hr.go (s_iload_n t180_15 rfl)
      replace hr := hr.go (s_iload_n t180_16 rfl)
      replace hr := hr.go (s_iadd t180_17)
      rw [show Int32.ofNat n + Int32.ofNat k = Int32.ofNat (n + k) from xn_add] at hr
      replace hr := hr.go (s_iaload t180_18 (ha))
      rw [xn_nat (show n + k < 2147483648 by omega)] at hr
      replace hr := hr.go (s_iastore t180_19)
      rw [xn_nat (show k < 2147483648 by omega)] at hr
      replace hr := hr.go (s_iinc (ls' := [(2, _), (1, _), (0, _)]) t180_20 rfl rfl)
      rw [xn_1i] at hr
      replace hr := hr.go (s_goto t180_23)
      exact ih (k + 1) (xu m a k (m a (n + k))) (by omega) (fun b hb => by rw [xu_row hb]; exact h1 b hb) (fun j hj => by
        by_cases e : j = k
        · rw [e, xu_same]; exact h3 (n + k) (by omega)
        · rw [xu_oth (fun q => e q.2)]; exact h2 j (by omega)) (fun j hj => by rw [xu_oth (fun q => by omega)]; exact h3 j (by omega)) hr
theorem ct_half {nf : Bool} {xs : List Int32} {d : Nat} {m : xM} {g : xL} {G : xG} {a n L : Nat} (ha : G.2 a = (0, 1, L)) (hd : Int32.ofNat L / 2 = Int32.ofNat n) (hn : n ≤ 100) : CT nf xs d 180 [.ref a] m g G (PF none g (fun m' => (∀ b : Nat, ¬ b = a → m' b = m b) ∧ ∀ j : Nat, j < n → m' a j = m a (n + j))) := by
  refine CT.of (c := 11) (ini := false) (nL := 3) (rt := none) (tab := zt180) rfl (fun d' r h' N hd' hr => ?_)
  replace hr : RR nf xs d' 11 false 3 none zt180 G r h' N (0, [(0, .ref a)], [], m, g) := hr
  replace hr := hr.go (s_aload_n t180_0 rfl)
  replace hr := hr.go (s_alen t180_1 (ha))
  replace hr := hr.go (s_k t180_2)
  replace hr := hr.go (s_idiv (by decide) t180_3)
  rw [hd] at hr
  replace hr := hr.go (s_istore_n (ls' := [(1, _), (0, _)]) t180_4 rfl)
  replace hr := hr.go (s_k t180_5)
  replace hr := hr.go (s_istore_n (ls' := [(2, _), (1, _), (0, _)]) t180_6 rfl)
  exact lp180 ha hn N 0 m (by omega) (fun _ _ => rfl) (fun j hj => by omega) (fun _ _ => rfl) hr
/-- the reference's rows, all of them -/
def GT (G : xG) : Prop := GL G ∧ (∀ k : Nat, 37 ≤ k → k ≤ 51 → G.1 128 k = some (113 + k)) ∧ (∀ a L : Nat, (a, L) ∈ ([(130, 18), (131, 12), (132, 12), (133, 12), (134, 12), (135, 12), (136, 12), (137, 12), (138, 12), (140, 10), (141, 10), (142, 6), (143, 6), (144, 6), (145, 6), (146, 128), (147, 128)] : List (Nat × Nat)) → G.2 a = (0, 1, L)) ∧ G.1 128 1 = some 129
theorem lp188b {nf : Bool} {xs : List Int32} {d : Nat} {G : xG} {r : Option Value} {h' : zH} {m0 : xM} (hG : GT G) : ∀ (N : Nat) (k b i : Int32) (m : xM) (g : xL), (∀ a : Nat, a < 150 → m a = m0 a) → RR nf xs d 11 false 5 none zt188 G r h' N (180, [(2, .int k), (4, .int b), (3, .int i), (0, .ref 128), (1, .int 0)], [], m, g) → ∃ (m' : xM) (g' : xL), HS h' m' g' G ∧ r = none ∧ ∀ a : Nat, a < 150 → m' a = m0 a := by
  have hF := hG.2.1
  intro N
  induction N with
  | zero => intro k b i m g _ hr; exact hr.no.elim
  | succ N ih =>
    intro k b i m g hm hr
    replace hr := hr.go1 (s_iload_n t188_180 rfl)
    replace hr := hr.go (s_k t188_181)
    rcases hr.bGe t188_183 with ⟨b183, hr⟩ | ⟨b183, hr⟩
    · obtain ⟨rfl, hs⟩ := hr.ret t188_204
      exact ⟨_, _, hs, rfl, hm⟩
    · replace hr := hr.go (s_aload_n t188_186 rfl)
      replace hr := hr.go (s_getr t188_187 (hF 50 (by decide) (by decide)))
      replace hr := hr.go (s_k t188_190)
      replace hr := hr.go (s_iload_n t188_192 rfl)
      replace hr := hr.go (s_imul t188_193)
      replace hr := hr.go (s_iload_n t188_194 rfl)
      replace hr := hr.go (s_iadd t188_195)
      replace hr := hr.go (s_k t188_196)
      replace hr := hr.go (s_iastore t188_197)
      replace hr := hr.go (s_iinc (ls' := [(2, _), (4, _), (3, _), (0, _), (1, _)]) t188_198 rfl rfl)
      replace hr := hr.go (s_goto t188_201)
      exact ih _ b i _ g (fun a ha => by (repeat rw [xu_row (by omega)]); exact hm a ha) hr
theorem bd188 {nf : Bool} {xs : List Int32} {d : Nat} {G : xG} {r : Option Value} {h' : zH} {m0 : xM} (hG : GT G) {N : Nat} {k b i : Int32} {m : xM} {g : xL} (hm : ∀ a : Nat, a < 150 → m a = m0 a) (ih : ∀ (k b i : Int32) (m : xM) (g : xL), (∀ a : Nat, a < 150 → m a = m0 a) → RR nf xs d 11 false 5 none zt188 G r h' N (44, [(2, .int k), (4, .int b), (3, .int i), (0, .ref 128), (1, .int 0)], [], m, g) → ∃ (m' : xM) (g' : xL), HS h' m' g' G ∧ r = none ∧ ∀ a : Nat, a < 150 → m' a = m0 a) (hr : RR nf xs d 11 false 5 none zt188 G r h' N (74, [(4, .int b), (3, .int i), (2, .int k), (0, .ref 128), (1, .int 0)], [], m, g)) : ∃ (m' : xM) (g' : xL), HS h' m' g' G ∧ r = none ∧ ∀ a : Nat, a < 150 → m' a = m0 a := by
  have hF := hG.2.1
  have k171 : ∀ (x : Int64) (m : xM) (g : xL), (∀ a : Nat, a < 150 → m a = m0 a) → RR nf xs d 11 false 5 none zt188 G r h' N (171, [(4, .int b), (3, .int i), (2, .int k), (0, .ref 128), (1, .int 0)], [.long x, .int i, .ref 164], m, g) → ∃ (m' : xM) (g' : xL), HS h' m' g' G ∧ r = none ∧ ∀ a : Nat, a < 150 → m' a = m0 a := by
    intro x m g hm hr
    replace hr := hr.go (s_lastore t188_171)
    replace hr := hr.go (s_iinc (ls' := [(2, _), (4, _), (3, _), (0, _), (1, _)]) t188_172 rfl rfl)
    replace hr := hr.go (s_goto t188_175)
    exact ih _ b i _ _ (fun a ha => by (repeat rw [xu_row (by omega)]); exact hm a ha) hr
  have k117 : ∀ (x : Int32) (m : xM) (g : xL), (∀ a : Nat, a < 150 → m a = m0 a) → RR nf xs d 11 false 5 none zt188 G r h' N (117, [(4, .int b), (3, .int i), (2, .int k), (0, .ref 128), (1, .int 0)], [.int x, .int i, .ref 158], m, g) → ∃ (m' : xM) (g' : xL), HS h' m' g' G ∧ r = none ∧ ∀ a : Nat, a < 150 → m' a = m0 a := by
    intro x m g hm hr
    replace hr := hr.go (s_iastore t188_117)
    replace hr := hr.go (s_aload_n t188_118 rfl)
    replace hr := hr.go (s_getr t188_119 (hF 46 (by decide) (by decide)))
    replace hr := hr.go (s_iload_n t188_122 rfl)
    replace hr := hr.go (s_k t188_123)
    replace hr := hr.go (s_iastore t188_124)
    replace hr := hr.go (s_aload_n t188_125 rfl)
    replace hr := hr.go (s_getr t188_126 (hF 47 (by decide) (by decide)))
    replace hr := hr.go (s_iload_n t188_129 rfl)
    replace hr := hr.go (s_k t188_130)
    replace hr := hr.go (s_iastore t188_131)
    replace hr := hr.go (s_aload_n t188_132 rfl)
    replace hr := hr.go (s_getr t188_133 (hF 48 (by decide) (by decide)))
    replace hr := hr.go (s_iload_n t188_136 rfl)
    replace hr := hr.go (s_k t188_137)
    replace hr := hr.go (s_iastore t188_138)
    replace hr := hr.go (s_aload_n t188_139 rfl)
    replace hr := hr.go (s_getr t188_140 (hF 49 (by decide) (by decide)))
    replace hr := hr.go (s_iload_n t188_143 rfl)
    replace hr := hr.go (s_k t188_144)
    replace hr := hr.go (s_iastore t188_145)
    replace hr := hr.go (s_aload_n t188_146 rfl)
    replace hr := hr.go (s_getr t188_147 (hF 51 (by decide) (by decide)))
    replace hr := hr.go (s_iload_n t188_150 rfl)
    replace hr := hr.go (s_iload_n t188_151 rfl)
    replace hr := hr.go (s_aload_n t188_152 rfl)
    replace hr := hr.go (s_getr t188_153 (hG.1.2.1.1))
    replace hr := hr.go (s_k t188_156)
    replace hr := hr.go (s_iaload t188_157 (hG.1.2.1.2.1))
    rcases hr.bGe t188_158 with ⟨b158, hr⟩ | ⟨b158, hr⟩
    · replace hr := hr.go (s_lconst t188_170)
      exact k171 _ _ _ (fun a ha => by (repeat rw [xu_row (by omega)]); exact hm a ha) hr
    · replace hr := hr.go (s_aload_n t188_161 rfl)
      replace hr := hr.go (s_getr t188_162 (hG.1.2.2.1 12 (by decide) (by decide)))
      replace hr := hr.go (s_iload_n t188_165 rfl)
      replace hr := hr.go (s_laload t188_166)
      replace hr := hr.go (s_goto t188_167)
      exact k171 _ _ _ (fun a ha => by (repeat rw [xu_row (by omega)]); exact hm a ha) hr
  have k94 : ∀ (x : Int32) (m : xM) (g : xL), (∀ a : Nat, a < 150 → m a = m0 a) → RR nf xs d 11 false 5 none zt188 G r h' N (94, [(4, .int b), (3, .int i), (2, .int k), (0, .ref 128), (1, .int 0)], [.int x, .int i, .ref 156], m, g) → ∃ (m' : xM) (g' : xL), HS h' m' g' G ∧ r = none ∧ ∀ a : Nat, a < 150 → m' a = m0 a := by
    intro x m g hm hr
    replace hr := hr.go (s_iastore t188_94)
    replace hr := hr.go (s_aload_n t188_95 rfl)
    replace hr := hr.go (s_getr t188_96 (hF 44 (by decide) (by decide)))
    replace hr := hr.go (s_iload_n t188_99 rfl)
    replace hr := hr.go (s_k t188_100)
    replace hr := hr.go (s_iastore t188_101)
    replace hr := hr.go (s_aload_n t188_102 rfl)
    replace hr := hr.go (s_getr t188_103 (hF 45 (by decide) (by decide)))
    replace hr := hr.go (s_iload_n t188_106 rfl)
    replace hr := hr.go (s_iload t188_107 rfl)
    rcases hr.zEq t188_109 with ⟨b109, hr⟩ | ⟨b109, hr⟩
    · replace hr := hr.go (s_k t188_116)
      exact k117 _ _ _ (fun a ha => by (repeat rw [xu_row (by omega)]); exact hm a ha) hr
    · replace hr := hr.go (s_k t188_112)
      replace hr := hr.go (s_goto t188_113)
      exact k117 _ _ _ (fun a ha => by (repeat rw [xu_row (by omega)]); exact hm a ha) hr
  replace hr := hr.go (s_aload_n t188_74 rfl)
  replace hr := hr.go (s_getr t188_75 (hF 43 (by decide) (by decide)))
  replace hr := hr.go (s_iload_n t188_78 rfl)
  replace hr := hr.go (s_iload t188_79 rfl)
  rcases hr.zEq t188_81 with ⟨b81, hr⟩ | ⟨b81, hr⟩
  · replace hr := hr.go (s_k t188_93)
    exact k94 _ _ _ (fun a ha => by (repeat rw [xu_row (by omega)]); exact hm a ha) hr
  · replace hr := hr.go (s_aload_n t188_84 rfl)
    replace hr := hr.go (s_getr t188_85 (hG.1.2.2.1 7 (by decide) (by decide)))
    replace hr := hr.go (s_iload_n t188_88 rfl)
    replace hr := hr.go (s_iaload t188_89 (hG.2.2.1 134 12 (by decide)))
    replace hr := hr.go (s_goto t188_90)
    exact k94 _ _ _ (fun a ha => by (repeat rw [xu_row (by omega)]); exact hm a ha) hr
theorem lp188a {nf : Bool} {xs : List Int32} {d : Nat} {G : xG} {r : Option Value} {h' : zH} {m0 : xM} (hG : GT G) : ∀ (N : Nat) (k b i : Int32) (m : xM) (g : xL), (∀ a : Nat, a < 150 → m a = m0 a) → RR nf xs d 11 false 5 none zt188 G r h' N (44, [(2, .int k), (4, .int b), (3, .int i), (0, .ref 128), (1, .int 0)], [], m, g) → ∃ (m' : xM) (g' : xL), HS h' m' g' G ∧ r = none ∧ ∀ a : Nat, a < 150 → m' a = m0 a := by
  have hF := hG.2.1
  intro N
  induction N with
  | zero => intro k b i m g _ hr; exact hr.no.elim
  | succ N ih =>
    intro k b i m g hm hr
    replace hr := hr.go1 (s_iload_n t188_44 rfl)
    replace hr := hr.go (s_k t188_45)
    rcases hr.bGe t188_47 with ⟨b47, hr⟩ | ⟨b47, hr⟩
    · replace hr := hr.go (s_k t188_178)
      replace hr := hr.go (s_istore_n (ls' := [(2, _), (4, _), (3, _), (0, _), (1, _)]) t188_179 rfl)
      exact lp188b hG _ _ _ _ _ _ hm hr
    · replace hr := hr.go (s_k t188_50)
      replace hr := hr.go (s_iload_n t188_52 rfl)
      replace hr := hr.go (s_imul t188_53)
      replace hr := hr.go (s_iload_n t188_54 rfl)
      replace hr := hr.go (s_iadd t188_55)
      replace hr := hr.go (s_istore_n (ls' := [(3, _), (2, _), (4, _), (0, _), (1, _)]) t188_56 rfl)
      replace hr := hr.go (s_iload_n t188_57 rfl)
      replace hr := hr.go (s_aload_n t188_58 rfl)
      replace hr := hr.go (s_getr t188_59 (hG.1.2.1.1))
      replace hr := hr.go (s_k t188_62)
      replace hr := hr.go (s_iaload t188_63 (hG.1.2.1.2.1))
      rcases hr.bGe t188_64 with ⟨b64, hr⟩ | ⟨b64, hr⟩
      · replace hr := hr.go (s_k t188_71)
        replace hr := hr.go (s_istore (ls' := [(4, _), (3, _), (2, _), (0, _), (1, _)]) t188_72 rfl)
        exact bd188 hG hm (fun k b i m g q1 q2 => ih k b i m g q1 q2) hr
      · replace hr := hr.go (s_k t188_67)
        replace hr := hr.go (s_goto t188_68)
        replace hr := hr.go (s_istore (ls' := [(4, _), (3, _), (2, _), (0, _), (1, _)]) t188_72 rfl)
        exact bd188 hG hm (fun k b i m g q1 q2 => ih k b i m g q1 q2) hr
theorem ct_starts {nf : Bool} {xs : List Int32} {d : Nat} {m : xM} {g : xL} {G : xG} (hG : GT G) : CT nf xs d 188 [.ref 128, .int 0] m g G (fun r m' _ => r = none ∧ ∀ a : Nat, a < 150 → m' a = m a) := by
  have hF := hG.2.1
  refine CT.of (c := 11) (ini := false) (nL := 5) (rt := none) (tab := zt188) rfl (fun d' r h' N hd' hr => ?_)
  replace hr : RR nf xs d' 11 false 5 none zt188 G r h' N (0, [(0, .ref 128), (1, .int 0)], [], m, g) := hr
  have hr : RR nf xs d' 11 false 5 none zt188 G r h' N (0, [(0, .ref 128), (1, .int 0)], [], m, g) := hr
  replace hr := hr.go (s_aload_n t188_0 rfl)
  replace hr := hr.go (s_getr t188_1 (hF 37 (by decide) (by decide)))
  replace hr := hr.go (s_iload_n t188_4 rfl)
  replace hr := hr.go (s_k t188_5)
  replace hr := hr.go (s_iastore t188_6)
  replace hr := hr.go (s_aload_n t188_7 rfl)
  replace hr := hr.go (s_getr t188_8 (hF 38 (by decide) (by decide)))
  replace hr := hr.go (s_iload_n t188_11 rfl)
  replace hr := hr.go (s_k t188_12)
  replace hr := hr.go (s_iastore t188_13)
  replace hr := hr.go (s_aload_n t188_14 rfl)
  replace hr := hr.go (s_getr t188_15 (hF 39 (by decide) (by decide)))
  replace hr := hr.go (s_iload_n t188_18 rfl)
  replace hr := hr.go (s_k t188_19)
  replace hr := hr.go (s_iastore t188_20)
  replace hr := hr.go (s_aload_n t188_21 rfl)
  replace hr := hr.go (s_getr t188_22 (hF 40 (by decide) (by decide)))
  replace hr := hr.go (s_iload_n t188_25 rfl)
  replace hr := hr.go (s_k t188_26)
  replace hr := hr.go (s_iastore t188_27)
  replace hr := hr.go (s_aload_n t188_28 rfl)
  replace hr := hr.go (s_getr t188_29 (hF 41 (by decide) (by decide)))
  replace hr := hr.go (s_iload_n t188_32 rfl)
  replace hr := hr.go (s_k t188_33)
  replace hr := hr.go (s_iastore t188_34)
  replace hr := hr.go (s_aload_n t188_35 rfl)
  replace hr := hr.go (s_getr t188_36 (hF 42 (by decide) (by decide)))
  replace hr := hr.go (s_iload_n t188_39 rfl)
  replace hr := hr.go (s_k t188_40)
  replace hr := hr.go (s_iastore t188_41)
  replace hr := hr.go (s_k t188_42)
  replace hr := hr.go (s_istore_n (ls' := [(2, _), (0, _), (1, _)]) t188_43 rfl)
  replace hr := hr.go (s_iload_n t188_44 rfl)
  replace hr := hr.go (s_k t188_45)
  replace hr := hr.brF t188_47 (by decide)
  replace hr := hr.go (s_k t188_50)
  replace hr := hr.go (s_iload_n t188_52 rfl)
  replace hr := hr.go (s_imul t188_53)
  replace hr := hr.go (s_iload_n t188_54 rfl)
  replace hr := hr.go (s_iadd t188_55)
  replace hr := hr.go (s_istore_n (ls' := [(3, _), (2, _), (0, _), (1, _)]) t188_56 rfl)
  replace hr := hr.go (s_iload_n t188_57 rfl)
  replace hr := hr.go (s_aload_n t188_58 rfl)
  replace hr := hr.go (s_getr t188_59 (hG.1.2.1.1))
  replace hr := hr.go (s_k t188_62)
  replace hr := hr.go (s_iaload t188_63 (hG.1.2.1.2.1))
  rcases hr.bGe t188_64 with ⟨b64, hr⟩ | ⟨b64, hr⟩
  · replace hr := hr.go (s_k t188_71)
    replace hr := hr.go (s_istore (ls' := [(4, _), (3, _), (2, _), (0, _), (1, _)]) t188_72 rfl)
    exact bd188 (m0 := m) hG (fun a ha => by (repeat rw [xu_row (by omega)])) (fun k b i m g q1 q2 => lp188a hG _ k b i m g q1 q2) hr
  · replace hr := hr.go (s_k t188_67)
    replace hr := hr.go (s_goto t188_68)
    replace hr := hr.go (s_istore (ls' := [(4, _), (3, _), (2, _), (0, _), (1, _)]) t188_72 rfl)
    exact bd188 (m0 := m) hG (fun a ha => by (repeat rw [xu_row (by omega)])) (fun k b i m g q1 q2 => lp188a hG _ k b i m g q1 q2) hr
theorem ct_begins {nf : Bool} {xs : List Int32} {d : Nat} {m : xM} {g : xL} {G : xG} (hG : GT G) : CT nf xs d 189 [.ref 128] m g G (fun r m' _ => r = none ∧ ∀ a : Nat, a < 150 → m' a = m a) := by
  refine CT.of (c := 11) (ini := false) (nL := 1) (rt := none) (tab := zt189) rfl (fun d' r h' N hd' hr => ?_)
  replace hr : RR nf xs d' 11 false 1 none zt189 G r h' N (0, [(0, .ref 128)], [], m, g) := hr
  replace hr := hr.go (s_aload_n t189_0 rfl)
  replace hr := hr.go (s_k t189_1)
  obtain ⟨_, m1, g1, ⟨rfl, h1⟩, hr⟩ := hr.callv t189_2 rfl rfl (ct_starts hG)
  replace hr : RR nf xs d' 11 false 1 none zt189 G r h' N (5, [(0, .ref 128)], [], m1, g1) := hr
  obtain ⟨rfl, hs⟩ := hr.ret t189_5
  exact ⟨_, _, hs, rfl, h1⟩
