/-! Joined: 65a.refrows, 65b.refsign, 65c.refword, 65d.reftoken, 66a.tokens, 66b.words, 66c.packed, 66d.spelt. -/
section
/-! The reference: instructions of its parser. -/
theorem t151_0 : xt zt151 0 1 (.aload_n 0) := ⟨rfl, rfl⟩
theorem t151_1 : xtf zt151 11 1 4 (.getfield 172) 172 11 24 1 := ⟨rfl, rfl, rfl, rfl⟩
theorem t151_4 : xt zt151 4 5 (.aload_n 0) := ⟨rfl, rfl⟩
theorem t151_5 : xtf zt151 11 5 8 (.getfield 175) 175 11 23 1 := ⟨rfl, rfl, rfl, rfl⟩
theorem t151_8 : xtb zt151 8 11 23 (.if_icmp .ge 15) (15) := ⟨rfl, rfl, rfl⟩
theorem t151_11 : xt zt151 11 12 (.aload_n 0) := ⟨rfl, rfl⟩
theorem t151_12 : xtf zt151 11 12 15 (.getfield 7) 7 11 1 3 := ⟨rfl, rfl, rfl, rfl⟩
theorem t151_15 : xt zt151 15 16 (.aload_n 0) := ⟨rfl, rfl⟩
theorem t151_16 : xtf zt151 11 16 19 (.getfield 172) 172 11 24 1 := ⟨rfl, rfl, rfl, rfl⟩
theorem t151_19 : xt zt151 19 20 .iaload := ⟨rfl, rfl⟩
theorem t151_20 : xtb zt151 20 23 24 (.goto 4) (4) := ⟨rfl, rfl, rfl⟩
theorem t151_23 : xtk zt151 23 24 (-1) := Or.inl ⟨-1, ⟨rfl, rfl⟩, by decide⟩
theorem t151_24 : xt zt151 24 25 .ireturn := ⟨rfl, rfl⟩
theorem t152_0 : xt zt152 0 1 (.iload_n 0) := ⟨rfl, rfl⟩
theorem t152_1 : xtk zt152 1 3 (97) := Or.inr (Or.inl ⟨97, ⟨rfl, rfl⟩, by decide⟩)
theorem t152_3 : xtb zt152 3 6 16 (.if_icmp .lt 13) (13) := ⟨rfl, rfl, rfl⟩
theorem t152_6 : xt zt152 6 7 (.iload_n 0) := ⟨rfl, rfl⟩
theorem t152_7 : xtk zt152 7 9 (122) := Or.inr (Or.inl ⟨122, ⟨rfl, rfl⟩, by decide⟩)
theorem t152_9 : xtb zt152 9 12 16 (.if_icmp .gt 7) (7) := ⟨rfl, rfl, rfl⟩
theorem t152_12 : xtk zt152 12 13 (1) := Or.inl ⟨1, ⟨rfl, rfl⟩, by decide⟩
theorem t152_13 : xtb zt152 13 16 17 (.goto 4) (4) := ⟨rfl, rfl, rfl⟩
theorem t152_16 : xtk zt152 16 17 (0) := Or.inl ⟨0, ⟨rfl, rfl⟩, by decide⟩
theorem t152_17 : xt zt152 17 18 .ireturn := ⟨rfl, rfl⟩
theorem t153_0 : xt zt153 0 1 (.iload_n 0) := ⟨rfl, rfl⟩
theorem t153_1 : xtk zt153 1 3 (48) := Or.inr (Or.inl ⟨48, ⟨rfl, rfl⟩, by decide⟩)
theorem t153_3 : xtb zt153 3 6 16 (.if_icmp .lt 13) (13) := ⟨rfl, rfl, rfl⟩
theorem t153_6 : xt zt153 6 7 (.iload_n 0) := ⟨rfl, rfl⟩
theorem t153_7 : xtk zt153 7 9 (57) := Or.inr (Or.inl ⟨57, ⟨rfl, rfl⟩, by decide⟩)
theorem t153_9 : xtb zt153 9 12 16 (.if_icmp .gt 7) (7) := ⟨rfl, rfl, rfl⟩
theorem t153_12 : xtk zt153 12 13 (1) := Or.inl ⟨1, ⟨rfl, rfl⟩, by decide⟩
theorem t153_13 : xtb zt153 13 16 17 (.goto 4) (4) := ⟨rfl, rfl, rfl⟩
theorem t153_16 : xtk zt153 16 17 (0) := Or.inl ⟨0, ⟨rfl, rfl⟩, by decide⟩
theorem t153_17 : xt zt153 17 18 .ireturn := ⟨rfl, rfl⟩
theorem t154_0 : xt zt154 0 1 (.aload_n 0) := ⟨rfl, rfl⟩
theorem t154_1 : xtc zt154 11 1 4 (.invokevirtual 178) 178 1 151 0 := ⟨rfl, rfl, rfl⟩
theorem t154_4 : xtk zt154 4 6 (10) := Or.inr (Or.inl ⟨10, ⟨rfl, rfl⟩, by decide⟩)
theorem t154_6 : xtb zt154 6 9 18 (.if_icmp .eq 12) (12) := ⟨rfl, rfl, rfl⟩
theorem t154_9 : xt zt154 9 10 (.aload_n 0) := ⟨rfl, rfl⟩
theorem t154_10 : xtc zt154 11 10 13 (.invokevirtual 178) 178 1 151 0 := ⟨rfl, rfl, rfl⟩
theorem t154_13 : xtk zt154 13 15 (32) := Or.inr (Or.inl ⟨32, ⟨rfl, rfl⟩, by decide⟩)
theorem t154_15 : xtb zt154 15 18 31 (.if_icmp .ne 16) (16) := ⟨rfl, rfl, rfl⟩
theorem t154_18 : xt zt154 18 19 (.aload_n 0) := ⟨rfl, rfl⟩
theorem t154_19 : xt zt154 19 20 .dup := ⟨rfl, rfl⟩
theorem t154_20 : xtf zt154 11 20 23 (.getfield 172) 172 11 24 1 := ⟨rfl, rfl, rfl, rfl⟩
theorem t154_23 : xtk zt154 23 24 (1) := Or.inl ⟨1, ⟨rfl, rfl⟩, by decide⟩
theorem t154_24 : xt zt154 24 25 .iadd := ⟨rfl, rfl⟩
theorem t154_25 : xtf zt154 11 25 28 (.putfield 172) 172 11 24 1 := ⟨rfl, rfl, rfl, rfl⟩
theorem t154_28 : xtb zt154 28 31 0 (.goto (-28)) (-28) := ⟨rfl, rfl, rfl⟩
theorem t154_31 : xt zt154 31 32 (.aload_n 0) := ⟨rfl, rfl⟩
theorem t154_32 : xt zt154 32 33 (.aload_n 0) := ⟨rfl, rfl⟩
theorem t154_33 : xtf zt154 11 33 36 (.getfield 172) 172 11 24 1 := ⟨rfl, rfl, rfl, rfl⟩
theorem t154_36 : xtf zt154 11 36 39 (.putfield 182) 182 11 25 1 := ⟨rfl, rfl, rfl, rfl⟩
theorem t154_39 : xt zt154 39 40 (.aload_n 0) := ⟨rfl, rfl⟩
theorem t154_40 : xtc zt154 11 40 43 (.invokevirtual 178) 178 1 151 0 := ⟨rfl, rfl, rfl⟩
theorem t154_43 : xt zt154 43 44 (.istore_n 1) := ⟨rfl, rfl⟩
theorem t154_44 : xt zt154 44 45 (.iload_n 1) := ⟨rfl, rfl⟩
theorem t154_45 : xtk zt154 45 46 (-1) := Or.inl ⟨-1, ⟨rfl, rfl⟩, by decide⟩
theorem t154_46 : xtb zt154 46 49 57 (.if_icmp .ne 11) (11) := ⟨rfl, rfl, rfl⟩
theorem t154_49 : xt zt154 49 50 (.aload_n 0) := ⟨rfl, rfl⟩
theorem t154_50 : xtk zt154 50 51 (4) := Or.inl ⟨4, ⟨rfl, rfl⟩, by decide⟩
theorem t154_51 : xtf zt154 11 51 54 (.putfield 185) 185 11 26 1 := ⟨rfl, rfl, rfl, rfl⟩
theorem t154_54 : xtb zt154 54 57 225 (.goto 171) (171) := ⟨rfl, rfl, rfl⟩
theorem t154_57 : xt zt154 57 58 (.iload_n 1) := ⟨rfl, rfl⟩
theorem t154_58 : xtc zt154 11 58 61 (.invokestatic 188) 188 2 152 1 := ⟨rfl, rfl, rfl⟩
theorem t154_61 : xtb zt154 61 64 145 (.ifCond .eq 84) (84) := ⟨rfl, rfl, rfl⟩
theorem t154_64 : xt zt154 64 65 (.aload_n 0) := ⟨rfl, rfl⟩
theorem t154_65 : xtc zt154 11 65 68 (.invokevirtual 178) 178 1 151 0 := ⟨rfl, rfl, rfl⟩
theorem t154_68 : xtc zt154 11 68 71 (.invokestatic 188) 188 2 152 1 := ⟨rfl, rfl, rfl⟩
theorem t154_71 : xtb zt154 71 74 87 (.ifCond .eq 16) (16) := ⟨rfl, rfl, rfl⟩
theorem t154_74 : xt zt154 74 75 (.aload_n 0) := ⟨rfl, rfl⟩
theorem t154_75 : xt zt154 75 76 .dup := ⟨rfl, rfl⟩
theorem t154_76 : xtf zt154 11 76 79 (.getfield 172) 172 11 24 1 := ⟨rfl, rfl, rfl, rfl⟩
theorem t154_79 : xtk zt154 79 80 (1) := Or.inl ⟨1, ⟨rfl, rfl⟩, by decide⟩
theorem t154_80 : xt zt154 80 81 .iadd := ⟨rfl, rfl⟩
theorem t154_81 : xtf zt154 11 81 84 (.putfield 172) 172 11 24 1 := ⟨rfl, rfl, rfl, rfl⟩
theorem t154_84 : xtb zt154 84 87 64 (.goto (-20)) (-20) := ⟨rfl, rfl, rfl⟩
theorem t154_87 : xt zt154 87 88 (.aload_n 0) := ⟨rfl, rfl⟩
theorem t154_88 : xt zt154 88 89 (.aload_n 0) := ⟨rfl, rfl⟩
theorem t154_89 : xtc zt154 11 89 92 (.invokevirtual 192) 192 1 156 0 := ⟨rfl, rfl, rfl⟩
theorem t154_92 : xtf zt154 11 92 95 (.putfield 195) 195 11 27 1 := ⟨rfl, rfl, rfl, rfl⟩
theorem t154_95 : xt zt154 95 96 (.aload_n 0) := ⟨rfl, rfl⟩
theorem t154_96 : xt zt154 96 97 (.aload_n 0) := ⟨rfl, rfl⟩
theorem t154_97 : xtf zt154 11 97 100 (.getfield 195) 195 11 27 1 := ⟨rfl, rfl, rfl, rfl⟩
theorem t154_100 : xtk zt154 100 101 (-1) := Or.inl ⟨-1, ⟨rfl, rfl⟩, by decide⟩
theorem t154_101 : xtb zt154 101 104 108 (.if_icmp .eq 7) (7) := ⟨rfl, rfl, rfl⟩
theorem t154_104 : xtk zt154 104 105 (0) := Or.inl ⟨0, ⟨rfl, rfl⟩, by decide⟩
theorem t154_105 : xtb zt154 105 108 127 (.goto 22) (22) := ⟨rfl, rfl, rfl⟩
theorem t154_108 : xt zt154 108 109 (.aload_n 0) := ⟨rfl, rfl⟩
theorem t154_109 : xtf zt154 11 109 112 (.getfield 172) 172 11 24 1 := ⟨rfl, rfl, rfl, rfl⟩
theorem t154_112 : xt zt154 112 113 (.aload_n 0) := ⟨rfl, rfl⟩
theorem t154_113 : xtf zt154 11 113 116 (.getfield 182) 182 11 25 1 := ⟨rfl, rfl, rfl, rfl⟩
theorem t154_116 : xt zt154 116 117 .isub := ⟨rfl, rfl⟩
theorem t154_117 : xtk zt154 117 119 (6) := Or.inr (Or.inl ⟨6, ⟨rfl, rfl⟩, by decide⟩)
theorem t154_119 : xtb zt154 119 122 126 (.if_icmp .le 7) (7) := ⟨rfl, rfl, rfl⟩
theorem t154_122 : xtk zt154 122 123 (5) := Or.inl ⟨5, ⟨rfl, rfl⟩, by decide⟩
theorem t154_123 : xtb zt154 123 126 127 (.goto 4) (4) := ⟨rfl, rfl, rfl⟩
theorem t154_126 : xtk zt154 126 127 (1) := Or.inl ⟨1, ⟨rfl, rfl⟩, by decide⟩
theorem t154_127 : xtf zt154 11 127 130 (.putfield 185) 185 11 26 1 := ⟨rfl, rfl, rfl, rfl⟩
theorem t154_130 : xt zt154 130 131 (.aload_n 0) := ⟨rfl, rfl⟩
theorem t154_131 : xtf zt154 11 131 134 (.getfield 185) 185 11 26 1 := ⟨rfl, rfl, rfl, rfl⟩
theorem t154_134 : xtk zt154 134 135 (1) := Or.inl ⟨1, ⟨rfl, rfl⟩, by decide⟩
theorem t154_135 : xtb zt154 135 138 225 (.if_icmp .ne 90) (90) := ⟨rfl, rfl, rfl⟩
theorem t154_138 : xt zt154 138 139 (.aload_n 0) := ⟨rfl, rfl⟩
theorem t154_139 : xtc zt154 11 139 142 (.invokevirtual 198) 198 1 157 0 := ⟨rfl, rfl, rfl⟩
theorem t154_142 : xtb zt154 142 145 225 (.goto 83) (83) := ⟨rfl, rfl, rfl⟩
theorem t154_145 : xt zt154 145 146 (.iload_n 1) := ⟨rfl, rfl⟩
theorem t154_146 : xtc zt154 11 146 149 (.invokestatic 201) 201 2 153 1 := ⟨rfl, rfl, rfl⟩
theorem t154_149 : xtb zt154 149 152 220 (.ifCond .eq 71) (71) := ⟨rfl, rfl, rfl⟩
theorem t154_152 : xt zt154 152 153 (.aload_n 0) := ⟨rfl, rfl⟩
theorem t154_153 : xtk zt154 153 154 (2) := Or.inl ⟨2, ⟨rfl, rfl⟩, by decide⟩
theorem t154_154 : xtf zt154 11 154 157 (.putfield 185) 185 11 26 1 := ⟨rfl, rfl, rfl, rfl⟩
theorem t154_157 : xt zt154 157 158 (.aload_n 0) := ⟨rfl, rfl⟩
theorem t154_158 : xtk zt154 158 159 (0) := Or.inl ⟨0, ⟨rfl, rfl⟩, by decide⟩
theorem t154_159 : xtf zt154 11 159 162 (.putfield 195) 195 11 27 1 := ⟨rfl, rfl, rfl, rfl⟩
theorem t154_162 : xt zt154 162 163 (.aload_n 0) := ⟨rfl, rfl⟩
theorem t154_163 : xtc zt154 11 163 166 (.invokevirtual 178) 178 1 151 0 := ⟨rfl, rfl, rfl⟩
theorem t154_166 : xtc zt154 11 166 169 (.invokestatic 201) 201 2 153 1 := ⟨rfl, rfl, rfl⟩
theorem t154_169 : xtb zt154 169 172 225 (.ifCond .eq 56) (56) := ⟨rfl, rfl, rfl⟩
theorem t154_172 : xt zt154 172 173 (.aload_n 0) := ⟨rfl, rfl⟩
theorem t154_173 : xt zt154 173 174 (.aload_n 0) := ⟨rfl, rfl⟩
theorem t154_174 : xtf zt154 11 174 177 (.getfield 195) 195 11 27 1 := ⟨rfl, rfl, rfl, rfl⟩
theorem t154_177 : xt zt154 177 179 (.ldc 204) := ⟨rfl, rfl⟩
theorem t154_179 : xtb zt154 179 182 189 (.if_icmp .le 10) (10) := ⟨rfl, rfl, rfl⟩
theorem t154_182 : xt zt154 182 183 (.aload_n 0) := ⟨rfl, rfl⟩
theorem t154_183 : xtf zt154 11 183 186 (.getfield 195) 195 11 27 1 := ⟨rfl, rfl, rfl, rfl⟩
theorem t154_186 : xtb zt154 186 189 204 (.goto 18) (18) := ⟨rfl, rfl, rfl⟩
theorem t154_189 : xtk zt154 189 191 (10) := Or.inr (Or.inl ⟨10, ⟨rfl, rfl⟩, by decide⟩)
theorem t154_191 : xt zt154 191 192 (.aload_n 0) := ⟨rfl, rfl⟩
theorem t154_192 : xtf zt154 11 192 195 (.getfield 195) 195 11 27 1 := ⟨rfl, rfl, rfl, rfl⟩
theorem t154_195 : xt zt154 195 196 .imul := ⟨rfl, rfl⟩
theorem t154_196 : xt zt154 196 197 (.aload_n 0) := ⟨rfl, rfl⟩
theorem t154_197 : xtc zt154 11 197 200 (.invokevirtual 178) 178 1 151 0 := ⟨rfl, rfl, rfl⟩
theorem t154_200 : xt zt154 200 201 .iadd := ⟨rfl, rfl⟩
theorem t154_201 : xtk zt154 201 203 (48) := Or.inr (Or.inl ⟨48, ⟨rfl, rfl⟩, by decide⟩)
theorem t154_203 : xt zt154 203 204 .isub := ⟨rfl, rfl⟩
theorem t154_204 : xtf zt154 11 204 207 (.putfield 195) 195 11 27 1 := ⟨rfl, rfl, rfl, rfl⟩
theorem t154_207 : xt zt154 207 208 (.aload_n 0) := ⟨rfl, rfl⟩
theorem t154_208 : xt zt154 208 209 .dup := ⟨rfl, rfl⟩
theorem t154_209 : xtf zt154 11 209 212 (.getfield 172) 172 11 24 1 := ⟨rfl, rfl, rfl, rfl⟩
theorem t154_212 : xtk zt154 212 213 (1) := Or.inl ⟨1, ⟨rfl, rfl⟩, by decide⟩
theorem t154_213 : xt zt154 213 214 .iadd := ⟨rfl, rfl⟩
theorem t154_214 : xtf zt154 11 214 217 (.putfield 172) 172 11 24 1 := ⟨rfl, rfl, rfl, rfl⟩
theorem t154_217 : xtb zt154 217 220 162 (.goto (-55)) (-55) := ⟨rfl, rfl, rfl⟩
theorem t154_220 : xt zt154 220 221 (.aload_n 0) := ⟨rfl, rfl⟩
theorem t154_221 : xt zt154 221 222 (.iload_n 1) := ⟨rfl, rfl⟩
theorem t154_222 : xtc zt154 11 222 225 (.invokevirtual 205) 205 1 155 1 := ⟨rfl, rfl, rfl⟩
theorem t154_225 : xt zt154 225 226 .return_ := ⟨rfl, rfl⟩
theorem t155_0 : xt zt155 0 1 (.aload_n 0) := ⟨rfl, rfl⟩
theorem t155_1 : xt zt155 1 2 .dup := ⟨rfl, rfl⟩
theorem t155_2 : xtf zt155 11 2 5 (.getfield 172) 172 11 24 1 := ⟨rfl, rfl, rfl, rfl⟩
theorem t155_5 : xtk zt155 5 6 (1) := Or.inl ⟨1, ⟨rfl, rfl⟩, by decide⟩
theorem t155_6 : xt zt155 6 7 .iadd := ⟨rfl, rfl⟩
theorem t155_7 : xtf zt155 11 7 10 (.putfield 172) 172 11 24 1 := ⟨rfl, rfl, rfl, rfl⟩
theorem t155_10 : xt zt155 10 11 (.aload_n 0) := ⟨rfl, rfl⟩
theorem t155_11 : xt zt155 11 12 (.iload_n 1) := ⟨rfl, rfl⟩
theorem t155_12 : xtk zt155 12 14 (59) := Or.inr (Or.inl ⟨59, ⟨rfl, rfl⟩, by decide⟩)
theorem t155_14 : xtb zt155 14 17 71 (.if_icmp .eq 57) (57) := ⟨rfl, rfl, rfl⟩
theorem t155_17 : xt zt155 17 18 (.iload_n 1) := ⟨rfl, rfl⟩
theorem t155_18 : xtk zt155 18 20 (40) := Or.inr (Or.inl ⟨40, ⟨rfl, rfl⟩, by decide⟩)
theorem t155_20 : xtb zt155 20 23 71 (.if_icmp .eq 51) (51) := ⟨rfl, rfl, rfl⟩
theorem t155_23 : xt zt155 23 24 (.iload_n 1) := ⟨rfl, rfl⟩
theorem t155_24 : xtk zt155 24 26 (41) := Or.inr (Or.inl ⟨41, ⟨rfl, rfl⟩, by decide⟩)
theorem t155_26 : xtb zt155 26 29 71 (.if_icmp .eq 45) (45) := ⟨rfl, rfl, rfl⟩
theorem t155_29 : xt zt155 29 30 (.iload_n 1) := ⟨rfl, rfl⟩
theorem t155_30 : xtk zt155 30 32 (43) := Or.inr (Or.inl ⟨43, ⟨rfl, rfl⟩, by decide⟩)
theorem t155_32 : xtb zt155 32 35 71 (.if_icmp .eq 39) (39) := ⟨rfl, rfl, rfl⟩
theorem t155_35 : xt zt155 35 36 (.iload_n 1) := ⟨rfl, rfl⟩
theorem t155_36 : xtk zt155 36 38 (45) := Or.inr (Or.inl ⟨45, ⟨rfl, rfl⟩, by decide⟩)
theorem t155_38 : xtb zt155 38 41 71 (.if_icmp .eq 33) (33) := ⟨rfl, rfl, rfl⟩
theorem t155_41 : xt zt155 41 42 (.iload_n 1) := ⟨rfl, rfl⟩
theorem t155_42 : xtk zt155 42 44 (42) := Or.inr (Or.inl ⟨42, ⟨rfl, rfl⟩, by decide⟩)
theorem t155_44 : xtb zt155 44 47 71 (.if_icmp .eq 27) (27) := ⟨rfl, rfl, rfl⟩
theorem t155_47 : xt zt155 47 48 (.iload_n 1) := ⟨rfl, rfl⟩
theorem t155_48 : xtk zt155 48 50 (47) := Or.inr (Or.inl ⟨47, ⟨rfl, rfl⟩, by decide⟩)
theorem t155_50 : xtb zt155 50 53 71 (.if_icmp .eq 21) (21) := ⟨rfl, rfl, rfl⟩
theorem t155_53 : xt zt155 53 54 (.iload_n 1) := ⟨rfl, rfl⟩
theorem t155_54 : xtk zt155 54 56 (60) := Or.inr (Or.inl ⟨60, ⟨rfl, rfl⟩, by decide⟩)
theorem t155_56 : xtb zt155 56 59 71 (.if_icmp .eq 15) (15) := ⟨rfl, rfl, rfl⟩
theorem t155_59 : xt zt155 59 60 (.iload_n 1) := ⟨rfl, rfl⟩
theorem t155_60 : xtk zt155 60 62 (61) := Or.inr (Or.inl ⟨61, ⟨rfl, rfl⟩, by decide⟩)
theorem t155_62 : xtb zt155 62 65 71 (.if_icmp .eq 9) (9) := ⟨rfl, rfl, rfl⟩
theorem t155_65 : xt zt155 65 66 (.iload_n 1) := ⟨rfl, rfl⟩
theorem t155_66 : xtk zt155 66 68 (62) := Or.inr (Or.inl ⟨62, ⟨rfl, rfl⟩, by decide⟩)
theorem t155_68 : xtb zt155 68 71 75 (.if_icmp .ne 7) (7) := ⟨rfl, rfl, rfl⟩
theorem t155_71 : xtk zt155 71 72 (3) := Or.inl ⟨3, ⟨rfl, rfl⟩, by decide⟩
theorem t155_72 : xtb zt155 72 75 76 (.goto 4) (4) := ⟨rfl, rfl, rfl⟩
theorem t155_75 : xtk zt155 75 76 (5) := Or.inl ⟨5, ⟨rfl, rfl⟩, by decide⟩
theorem t155_76 : xtf zt155 11 76 79 (.putfield 185) 185 11 26 1 := ⟨rfl, rfl, rfl, rfl⟩
theorem t155_79 : xt zt155 79 80 (.aload_n 0) := ⟨rfl, rfl⟩
theorem t155_80 : xt zt155 80 81 (.iload_n 1) := ⟨rfl, rfl⟩
theorem t155_81 : xtf zt155 11 81 84 (.putfield 195) 195 11 27 1 := ⟨rfl, rfl, rfl, rfl⟩
theorem t155_84 : xt zt155 84 85 (.iload_n 1) := ⟨rfl, rfl⟩
theorem t155_85 : xtk zt155 85 87 (60) := Or.inr (Or.inl ⟨60, ⟨rfl, rfl⟩, by decide⟩)
theorem t155_87 : xtb zt155 87 90 106 (.if_icmp .ne 19) (19) := ⟨rfl, rfl, rfl⟩
theorem t155_90 : xt zt155 90 91 (.aload_n 0) := ⟨rfl, rfl⟩
theorem t155_91 : xtc zt155 11 91 94 (.invokevirtual 178) 178 1 151 0 := ⟨rfl, rfl, rfl⟩
theorem t155_94 : xtk zt155 94 96 (61) := Or.inr (Or.inl ⟨61, ⟨rfl, rfl⟩, by decide⟩)
theorem t155_96 : xtb zt155 96 99 106 (.if_icmp .ne 10) (10) := ⟨rfl, rfl, rfl⟩
theorem t155_99 : xt zt155 99 100 (.aload_n 0) := ⟨rfl, rfl⟩
theorem t155_100 : xtk zt155 100 103 (256) := Or.inr (Or.inr ⟨256, ⟨rfl, rfl⟩, by decide⟩)
theorem t155_103 : xtf zt155 11 103 106 (.putfield 195) 195 11 27 1 := ⟨rfl, rfl, rfl, rfl⟩
theorem t155_106 : xt zt155 106 107 (.iload_n 1) := ⟨rfl, rfl⟩
theorem t155_107 : xtk zt155 107 109 (60) := Or.inr (Or.inl ⟨60, ⟨rfl, rfl⟩, by decide⟩)
theorem t155_109 : xtb zt155 109 112 128 (.if_icmp .ne 19) (19) := ⟨rfl, rfl, rfl⟩
theorem t155_112 : xt zt155 112 113 (.aload_n 0) := ⟨rfl, rfl⟩
theorem t155_113 : xtc zt155 11 113 116 (.invokevirtual 178) 178 1 151 0 := ⟨rfl, rfl, rfl⟩
theorem t155_116 : xtk zt155 116 118 (62) := Or.inr (Or.inl ⟨62, ⟨rfl, rfl⟩, by decide⟩)
theorem t155_118 : xtb zt155 118 121 128 (.if_icmp .ne 10) (10) := ⟨rfl, rfl, rfl⟩
theorem t155_121 : xt zt155 121 122 (.aload_n 0) := ⟨rfl, rfl⟩
theorem t155_122 : xtk zt155 122 125 (257) := Or.inr (Or.inr ⟨257, ⟨rfl, rfl⟩, by decide⟩)
theorem t155_125 : xtf zt155 11 125 128 (.putfield 195) 195 11 27 1 := ⟨rfl, rfl, rfl, rfl⟩
theorem t155_128 : xt zt155 128 129 (.iload_n 1) := ⟨rfl, rfl⟩
theorem t155_129 : xtk zt155 129 131 (62) := Or.inr (Or.inl ⟨62, ⟨rfl, rfl⟩, by decide⟩)
theorem t155_131 : xtb zt155 131 134 150 (.if_icmp .ne 19) (19) := ⟨rfl, rfl, rfl⟩
theorem t155_134 : xt zt155 134 135 (.aload_n 0) := ⟨rfl, rfl⟩
theorem t155_135 : xtc zt155 11 135 138 (.invokevirtual 178) 178 1 151 0 := ⟨rfl, rfl, rfl⟩
theorem t155_138 : xtk zt155 138 140 (61) := Or.inr (Or.inl ⟨61, ⟨rfl, rfl⟩, by decide⟩)
theorem t155_140 : xtb zt155 140 143 150 (.if_icmp .ne 10) (10) := ⟨rfl, rfl, rfl⟩
theorem t155_143 : xt zt155 143 144 (.aload_n 0) := ⟨rfl, rfl⟩
theorem t155_144 : xtk zt155 144 147 (258) := Or.inr (Or.inr ⟨258, ⟨rfl, rfl⟩, by decide⟩)
theorem t155_147 : xtf zt155 11 147 150 (.putfield 195) 195 11 27 1 := ⟨rfl, rfl, rfl, rfl⟩
theorem t155_150 : xt zt155 150 151 (.aload_n 0) := ⟨rfl, rfl⟩
theorem t155_151 : xtf zt155 11 151 154 (.getfield 195) 195 11 27 1 := ⟨rfl, rfl, rfl, rfl⟩
theorem t155_154 : xtk zt155 154 157 (256) := Or.inr (Or.inr ⟨256, ⟨rfl, rfl⟩, by decide⟩)
theorem t155_157 : xtb zt155 157 160 170 (.if_icmp .lt 13) (13) := ⟨rfl, rfl, rfl⟩
theorem t155_160 : xt zt155 160 161 (.aload_n 0) := ⟨rfl, rfl⟩
theorem t155_161 : xt zt155 161 162 .dup := ⟨rfl, rfl⟩
theorem t155_162 : xtf zt155 11 162 165 (.getfield 172) 172 11 24 1 := ⟨rfl, rfl, rfl, rfl⟩
theorem t155_165 : xtk zt155 165 166 (1) := Or.inl ⟨1, ⟨rfl, rfl⟩, by decide⟩
theorem t155_166 : xt zt155 166 167 .iadd := ⟨rfl, rfl⟩
theorem t155_167 : xtf zt155 11 167 170 (.putfield 172) 172 11 24 1 := ⟨rfl, rfl, rfl, rfl⟩
theorem t155_170 : xt zt155 170 171 .return_ := ⟨rfl, rfl⟩
theorem t156_0 : xtk zt156 0 1 (0) := Or.inl ⟨0, ⟨rfl, rfl⟩, by decide⟩
theorem t156_1 : xt zt156 1 2 (.istore_n 1) := ⟨rfl, rfl⟩
theorem t156_2 : xtk zt156 2 3 (0) := Or.inl ⟨0, ⟨rfl, rfl⟩, by decide⟩
theorem t156_3 : xt zt156 3 4 (.istore_n 2) := ⟨rfl, rfl⟩
theorem t156_4 : xt zt156 4 5 (.iload_n 2) := ⟨rfl, rfl⟩
theorem t156_5 : xt zt156 5 7 (.ldc 209) := ⟨rfl, rfl⟩
theorem t156_7 : xtc zt156 11 7 10 (.invokevirtual 211) 211 1 264 0 := ⟨rfl, rfl, rfl⟩
theorem t156_10 : xtb zt156 10 13 123 (.if_icmp .ge 113) (113) := ⟨rfl, rfl, rfl⟩
theorem t156_13 : xtk zt156 13 14 (0) := Or.inl ⟨0, ⟨rfl, rfl⟩, by decide⟩
theorem t156_14 : xt zt156 14 15 (.istore_n 3) := ⟨rfl, rfl⟩
theorem t156_15 : xt zt156 15 17 (.ldc 209) := ⟨rfl, rfl⟩
theorem t156_17 : xt zt156 17 18 (.iload_n 2) := ⟨rfl, rfl⟩
theorem t156_18 : xt zt156 18 19 (.iload_n 3) := ⟨rfl, rfl⟩
theorem t156_19 : xt zt156 19 20 .iadd := ⟨rfl, rfl⟩
theorem t156_20 : xtc zt156 11 20 23 (.invokevirtual 216) 216 1 265 1 := ⟨rfl, rfl, rfl⟩
theorem t156_23 : xtk zt156 23 25 (32) := Or.inr (Or.inl ⟨32, ⟨rfl, rfl⟩, by decide⟩)
theorem t156_25 : xtb zt156 25 28 69 (.if_icmp .eq 44) (44) := ⟨rfl, rfl, rfl⟩
theorem t156_28 : xt zt156 28 29 (.aload_n 0) := ⟨rfl, rfl⟩
theorem t156_29 : xtf zt156 11 29 32 (.getfield 182) 182 11 25 1 := ⟨rfl, rfl, rfl, rfl⟩
theorem t156_32 : xt zt156 32 33 (.iload_n 3) := ⟨rfl, rfl⟩
theorem t156_33 : xt zt156 33 34 .iadd := ⟨rfl, rfl⟩
theorem t156_34 : xt zt156 34 35 (.aload_n 0) := ⟨rfl, rfl⟩
theorem t156_35 : xtf zt156 11 35 38 (.getfield 172) 172 11 24 1 := ⟨rfl, rfl, rfl, rfl⟩
theorem t156_38 : xtb zt156 38 41 69 (.if_icmp .ge 31) (31) := ⟨rfl, rfl, rfl⟩
theorem t156_41 : xt zt156 41 42 (.aload_n 0) := ⟨rfl, rfl⟩
theorem t156_42 : xtf zt156 11 42 45 (.getfield 7) 7 11 1 3 := ⟨rfl, rfl, rfl, rfl⟩
theorem t156_45 : xt zt156 45 46 (.aload_n 0) := ⟨rfl, rfl⟩
theorem t156_46 : xtf zt156 11 46 49 (.getfield 182) 182 11 25 1 := ⟨rfl, rfl, rfl, rfl⟩
theorem t156_49 : xt zt156 49 50 (.iload_n 3) := ⟨rfl, rfl⟩
theorem t156_50 : xt zt156 50 51 .iadd := ⟨rfl, rfl⟩
theorem t156_51 : xt zt156 51 52 .iaload := ⟨rfl, rfl⟩
theorem t156_52 : xt zt156 52 54 (.ldc 209) := ⟨rfl, rfl⟩
theorem t156_54 : xt zt156 54 55 (.iload_n 2) := ⟨rfl, rfl⟩
theorem t156_55 : xt zt156 55 56 (.iload_n 3) := ⟨rfl, rfl⟩
theorem t156_56 : xt zt156 56 57 .iadd := ⟨rfl, rfl⟩
theorem t156_57 : xtc zt156 11 57 60 (.invokevirtual 216) 216 1 265 1 := ⟨rfl, rfl, rfl⟩
theorem t156_60 : xtb zt156 60 63 69 (.if_icmp .ne 9) (9) := ⟨rfl, rfl, rfl⟩
theorem t156_63 : xt zt156 63 66 (.iinc 3 1) := ⟨rfl, rfl⟩
theorem t156_66 : xtb zt156 66 69 15 (.goto (-51)) (-51) := ⟨rfl, rfl, rfl⟩
theorem t156_69 : xt zt156 69 71 (.ldc 209) := ⟨rfl, rfl⟩
theorem t156_71 : xt zt156 71 72 (.iload_n 2) := ⟨rfl, rfl⟩
theorem t156_72 : xt zt156 72 73 (.iload_n 3) := ⟨rfl, rfl⟩
theorem t156_73 : xt zt156 73 74 .iadd := ⟨rfl, rfl⟩
theorem t156_74 : xtc zt156 11 74 77 (.invokevirtual 216) 216 1 265 1 := ⟨rfl, rfl, rfl⟩
theorem t156_77 : xtk zt156 77 79 (32) := Or.inr (Or.inl ⟨32, ⟨rfl, rfl⟩, by decide⟩)
theorem t156_79 : xtb zt156 79 82 97 (.if_icmp .ne 18) (18) := ⟨rfl, rfl, rfl⟩
theorem t156_82 : xt zt156 82 83 (.aload_n 0) := ⟨rfl, rfl⟩
theorem t156_83 : xtf zt156 11 83 86 (.getfield 182) 182 11 25 1 := ⟨rfl, rfl, rfl, rfl⟩
theorem t156_86 : xt zt156 86 87 (.iload_n 3) := ⟨rfl, rfl⟩
theorem t156_87 : xt zt156 87 88 .iadd := ⟨rfl, rfl⟩
theorem t156_88 : xt zt156 88 89 (.aload_n 0) := ⟨rfl, rfl⟩
theorem t156_89 : xtf zt156 11 89 92 (.getfield 172) 172 11 24 1 := ⟨rfl, rfl, rfl, rfl⟩
theorem t156_92 : xtb zt156 92 95 97 (.if_icmp .ne 5) (5) := ⟨rfl, rfl, rfl⟩
theorem t156_95 : xt zt156 95 96 (.iload_n 1) := ⟨rfl, rfl⟩
theorem t156_96 : xt zt156 96 97 .ireturn := ⟨rfl, rfl⟩
theorem t156_97 : xt zt156 97 99 (.ldc 209) := ⟨rfl, rfl⟩
theorem t156_99 : xt zt156 99 100 (.iload_n 2) := ⟨rfl, rfl⟩
theorem t156_100 : xtc zt156 11 100 103 (.invokevirtual 216) 216 1 265 1 := ⟨rfl, rfl, rfl⟩
theorem t156_103 : xtk zt156 103 105 (32) := Or.inr (Or.inl ⟨32, ⟨rfl, rfl⟩, by decide⟩)
theorem t156_105 : xtb zt156 105 108 114 (.if_icmp .eq 9) (9) := ⟨rfl, rfl, rfl⟩
theorem t156_108 : xt zt156 108 111 (.iinc 2 1) := ⟨rfl, rfl⟩
theorem t156_111 : xtb zt156 111 114 97 (.goto (-14)) (-14) := ⟨rfl, rfl, rfl⟩
theorem t156_114 : xt zt156 114 117 (.iinc 2 1) := ⟨rfl, rfl⟩
theorem t156_117 : xt zt156 117 120 (.iinc 1 1) := ⟨rfl, rfl⟩
theorem t156_120 : xtb zt156 120 123 4 (.goto (-116)) (-116) := ⟨rfl, rfl, rfl⟩
theorem t156_123 : xtk zt156 123 124 (-1) := Or.inl ⟨-1, ⟨rfl, rfl⟩, by decide⟩
theorem t156_124 : xt zt156 124 125 .ireturn := ⟨rfl, rfl⟩
theorem t157_0 : xt zt157 0 1 (.aload_n 0) := ⟨rfl, rfl⟩
theorem t157_1 : xtk zt157 1 2 (0) := Or.inl ⟨0, ⟨rfl, rfl⟩, by decide⟩
theorem t157_2 : xtf zt157 11 2 5 (.putfield 195) 195 11 27 1 := ⟨rfl, rfl, rfl, rfl⟩
theorem t157_5 : xtk zt157 5 6 (0) := Or.inl ⟨0, ⟨rfl, rfl⟩, by decide⟩
theorem t157_6 : xt zt157 6 7 (.istore_n 1) := ⟨rfl, rfl⟩
theorem t157_7 : xt zt157 7 8 (.iload_n 1) := ⟨rfl, rfl⟩
theorem t157_8 : xtk zt157 8 10 (6) := Or.inr (Or.inl ⟨6, ⟨rfl, rfl⟩, by decide⟩)
theorem t157_10 : xtb zt157 10 13 63 (.if_icmp .ge 53) (53) := ⟨rfl, rfl, rfl⟩
theorem t157_13 : xt zt157 13 14 (.aload_n 0) := ⟨rfl, rfl⟩
theorem t157_14 : xt zt157 14 15 (.aload_n 0) := ⟨rfl, rfl⟩
theorem t157_15 : xtf zt157 11 15 18 (.getfield 195) 195 11 27 1 := ⟨rfl, rfl, rfl, rfl⟩
theorem t157_18 : xtk zt157 18 19 (5) := Or.inl ⟨5, ⟨rfl, rfl⟩, by decide⟩
theorem t157_19 : xt zt157 19 20 .ishl := ⟨rfl, rfl⟩
theorem t157_20 : xt zt157 20 21 (.aload_n 0) := ⟨rfl, rfl⟩
theorem t157_21 : xtf zt157 11 21 24 (.getfield 182) 182 11 25 1 := ⟨rfl, rfl, rfl, rfl⟩
theorem t157_24 : xt zt157 24 25 (.iload_n 1) := ⟨rfl, rfl⟩
theorem t157_25 : xt zt157 25 26 .iadd := ⟨rfl, rfl⟩
theorem t157_26 : xt zt157 26 27 (.aload_n 0) := ⟨rfl, rfl⟩
theorem t157_27 : xtf zt157 11 27 30 (.getfield 172) 172 11 24 1 := ⟨rfl, rfl, rfl, rfl⟩
theorem t157_30 : xtb zt157 30 33 52 (.if_icmp .ge 22) (22) := ⟨rfl, rfl, rfl⟩
theorem t157_33 : xt zt157 33 34 (.aload_n 0) := ⟨rfl, rfl⟩
theorem t157_34 : xtf zt157 11 34 37 (.getfield 7) 7 11 1 3 := ⟨rfl, rfl, rfl, rfl⟩
theorem t157_37 : xt zt157 37 38 (.aload_n 0) := ⟨rfl, rfl⟩
theorem t157_38 : xtf zt157 11 38 41 (.getfield 182) 182 11 25 1 := ⟨rfl, rfl, rfl, rfl⟩
theorem t157_41 : xt zt157 41 42 (.iload_n 1) := ⟨rfl, rfl⟩
theorem t157_42 : xt zt157 42 43 .iadd := ⟨rfl, rfl⟩
theorem t157_43 : xt zt157 43 44 .iaload := ⟨rfl, rfl⟩
theorem t157_44 : xtk zt157 44 46 (97) := Or.inr (Or.inl ⟨97, ⟨rfl, rfl⟩, by decide⟩)
theorem t157_46 : xt zt157 46 47 .isub := ⟨rfl, rfl⟩
theorem t157_47 : xtk zt157 47 48 (1) := Or.inl ⟨1, ⟨rfl, rfl⟩, by decide⟩
theorem t157_48 : xt zt157 48 49 .iadd := ⟨rfl, rfl⟩
theorem t157_49 : xtb zt157 49 52 53 (.goto 4) (4) := ⟨rfl, rfl, rfl⟩
theorem t157_52 : xtk zt157 52 53 (0) := Or.inl ⟨0, ⟨rfl, rfl⟩, by decide⟩
theorem t157_53 : xt zt157 53 54 .ior := ⟨rfl, rfl⟩
theorem t157_54 : xtf zt157 11 54 57 (.putfield 195) 195 11 27 1 := ⟨rfl, rfl, rfl, rfl⟩
theorem t157_57 : xt zt157 57 60 (.iinc 1 1) := ⟨rfl, rfl⟩
theorem t157_60 : xtb zt157 60 63 7 (.goto (-53)) (-53) := ⟨rfl, rfl, rfl⟩
theorem t157_63 : xt zt157 63 64 .return_ := ⟨rfl, rfl⟩
theorem t158_0 : xt zt158 0 1 (.aload_n 0) := ⟨rfl, rfl⟩
theorem t158_1 : xtf zt158 11 1 4 (.getfield 220) 220 11 28 1 := ⟨rfl, rfl, rfl, rfl⟩
theorem t158_4 : xtb zt158 4 7 8 (.ifCond .eq 4) (4) := ⟨rfl, rfl, rfl⟩
theorem t158_7 : xt zt158 7 8 .return_ := ⟨rfl, rfl⟩
theorem t158_8 : xt zt158 8 9 (.aload_n 0) := ⟨rfl, rfl⟩
theorem t158_9 : xt zt158 9 10 (.iload_n 1) := ⟨rfl, rfl⟩
theorem t158_10 : xtf zt158 11 10 13 (.putfield 220) 220 11 28 1 := ⟨rfl, rfl, rfl, rfl⟩
theorem t158_13 : xt zt158 13 14 (.aload_n 0) := ⟨rfl, rfl⟩
theorem t158_14 : xt zt158 14 15 (.aload_n 0) := ⟨rfl, rfl⟩
theorem t158_15 : xtf zt158 11 15 18 (.getfield 182) 182 11 25 1 := ⟨rfl, rfl, rfl, rfl⟩
theorem t158_18 : xtf zt158 11 18 21 (.putfield 223) 223 11 29 1 := ⟨rfl, rfl, rfl, rfl⟩
theorem t158_21 : xt zt158 21 22 .return_ := ⟨rfl, rfl⟩
theorem t159_0 : xt zt159 0 1 (.aload_n 0) := ⟨rfl, rfl⟩
theorem t159_1 : xtf zt159 11 1 4 (.getfield 220) 220 11 28 1 := ⟨rfl, rfl, rfl, rfl⟩
theorem t159_4 : xtb zt159 4 7 26 (.ifCond .ne 22) (22) := ⟨rfl, rfl, rfl⟩
theorem t159_7 : xt zt159 7 8 (.aload_n 0) := ⟨rfl, rfl⟩
theorem t159_8 : xtf zt159 11 8 11 (.getfield 185) 185 11 26 1 := ⟨rfl, rfl, rfl, rfl⟩
theorem t159_11 : xtb zt159 11 14 26 (.ifCond .ne 15) (15) := ⟨rfl, rfl, rfl⟩
theorem t159_14 : xt zt159 14 15 (.aload_n 0) := ⟨rfl, rfl⟩
theorem t159_15 : xtf zt159 11 15 18 (.getfield 195) 195 11 27 1 := ⟨rfl, rfl, rfl, rfl⟩
theorem t159_18 : xt zt159 18 19 (.iload_n 1) := ⟨rfl, rfl⟩
theorem t159_19 : xtb zt159 19 22 26 (.if_icmp .ne 7) (7) := ⟨rfl, rfl, rfl⟩
theorem t159_22 : xtk zt159 22 23 (1) := Or.inl ⟨1, ⟨rfl, rfl⟩, by decide⟩
theorem t159_23 : xtb zt159 23 26 27 (.goto 4) (4) := ⟨rfl, rfl, rfl⟩
theorem t159_26 : xtk zt159 26 27 (0) := Or.inl ⟨0, ⟨rfl, rfl⟩, by decide⟩
theorem t159_27 : xt zt159 27 28 .ireturn := ⟨rfl, rfl⟩
theorem t160_0 : xt zt160 0 1 (.aload_n 0) := ⟨rfl, rfl⟩
theorem t160_1 : xtf zt160 11 1 4 (.getfield 220) 220 11 28 1 := ⟨rfl, rfl, rfl, rfl⟩
theorem t160_4 : xtb zt160 4 7 27 (.ifCond .ne 23) (23) := ⟨rfl, rfl, rfl⟩
theorem t160_7 : xt zt160 7 8 (.aload_n 0) := ⟨rfl, rfl⟩
theorem t160_8 : xtf zt160 11 8 11 (.getfield 185) 185 11 26 1 := ⟨rfl, rfl, rfl, rfl⟩
theorem t160_11 : xtk zt160 11 12 (3) := Or.inl ⟨3, ⟨rfl, rfl⟩, by decide⟩
theorem t160_12 : xtb zt160 12 15 27 (.if_icmp .ne 15) (15) := ⟨rfl, rfl, rfl⟩
theorem t160_15 : xt zt160 15 16 (.aload_n 0) := ⟨rfl, rfl⟩
theorem t160_16 : xtf zt160 11 16 19 (.getfield 195) 195 11 27 1 := ⟨rfl, rfl, rfl, rfl⟩
theorem t160_19 : xt zt160 19 20 (.iload_n 1) := ⟨rfl, rfl⟩
theorem t160_20 : xtb zt160 20 23 27 (.if_icmp .ne 7) (7) := ⟨rfl, rfl, rfl⟩
theorem t160_23 : xtk zt160 23 24 (1) := Or.inl ⟨1, ⟨rfl, rfl⟩, by decide⟩
theorem t160_24 : xtb zt160 24 27 28 (.goto 4) (4) := ⟨rfl, rfl, rfl⟩
theorem t160_27 : xtk zt160 27 28 (0) := Or.inl ⟨0, ⟨rfl, rfl⟩, by decide⟩
theorem t160_28 : xt zt160 28 29 .ireturn := ⟨rfl, rfl⟩
theorem t161_0 : xt zt161 0 1 (.aload_n 0) := ⟨rfl, rfl⟩
theorem t161_1 : xtf zt161 11 1 4 (.getfield 220) 220 11 28 1 := ⟨rfl, rfl, rfl, rfl⟩
theorem t161_4 : xtb zt161 4 7 11 (.ifCond .ne 7) (7) := ⟨rfl, rfl, rfl⟩
theorem t161_7 : xt zt161 7 8 (.aload_n 0) := ⟨rfl, rfl⟩
theorem t161_8 : xtc zt161 11 8 11 (.invokevirtual 226) 226 1 154 0 := ⟨rfl, rfl, rfl⟩
theorem t161_11 : xt zt161 11 12 .return_ := ⟨rfl, rfl⟩
theorem t162_0 : xt zt162 0 1 (.aload_n 0) := ⟨rfl, rfl⟩
theorem t162_1 : xtf zt162 11 1 4 (.getfield 220) 220 11 28 1 := ⟨rfl, rfl, rfl, rfl⟩
theorem t162_4 : xtb zt162 4 7 9 (.ifCond .eq 5) (5) := ⟨rfl, rfl, rfl⟩
theorem t162_7 : xt zt162 7 8 (.iload_n 1) := ⟨rfl, rfl⟩
theorem t162_8 : xt zt162 8 9 .ireturn := ⟨rfl, rfl⟩
theorem t162_9 : xt zt162 9 10 (.aload_n 0) := ⟨rfl, rfl⟩
theorem t162_10 : xtf zt162 11 10 13 (.getfield 185) 185 11 26 1 := ⟨rfl, rfl, rfl, rfl⟩
theorem t162_13 : xtk zt162 13 14 (2) := Or.inl ⟨2, ⟨rfl, rfl⟩, by decide⟩
theorem t162_14 : xtb zt162 14 17 25 (.if_icmp .eq 11) (11) := ⟨rfl, rfl, rfl⟩
theorem t162_17 : xt zt162 17 18 (.aload_n 0) := ⟨rfl, rfl⟩
theorem t162_18 : xtk zt162 18 19 (1) := Or.inl ⟨1, ⟨rfl, rfl⟩, by decide⟩
theorem t162_19 : xtc zt162 11 19 22 (.invokevirtual 229) 229 1 158 1 := ⟨rfl, rfl, rfl⟩
theorem t162_22 : xtb zt162 22 25 46 (.goto 24) (24) := ⟨rfl, rfl, rfl⟩
theorem t162_25 : xt zt162 25 26 (.aload_n 0) := ⟨rfl, rfl⟩
theorem t162_26 : xtf zt162 11 26 29 (.getfield 195) 195 11 27 1 := ⟨rfl, rfl, rfl, rfl⟩
theorem t162_29 : xt zt162 29 30 (.iload_n 1) := ⟨rfl, rfl⟩
theorem t162_30 : xtb zt162 30 33 41 (.if_icmp .lt 11) (11) := ⟨rfl, rfl, rfl⟩
theorem t162_33 : xt zt162 33 34 (.aload_n 0) := ⟨rfl, rfl⟩
theorem t162_34 : xtf zt162 11 34 37 (.getfield 195) 195 11 27 1 := ⟨rfl, rfl, rfl, rfl⟩
theorem t162_37 : xt zt162 37 38 (.iload_n 2) := ⟨rfl, rfl⟩
theorem t162_38 : xtb zt162 38 41 46 (.if_icmp .le 8) (8) := ⟨rfl, rfl, rfl⟩
theorem t162_41 : xt zt162 41 42 (.aload_n 0) := ⟨rfl, rfl⟩
theorem t162_42 : xtk zt162 42 43 (2) := Or.inl ⟨2, ⟨rfl, rfl⟩, by decide⟩
theorem t162_43 : xtc zt162 11 43 46 (.invokevirtual 229) 229 1 158 1 := ⟨rfl, rfl, rfl⟩
theorem t162_46 : xt zt162 46 47 (.aload_n 0) := ⟨rfl, rfl⟩
theorem t162_47 : xtf zt162 11 47 50 (.getfield 220) 220 11 28 1 := ⟨rfl, rfl, rfl, rfl⟩
theorem t162_50 : xtb zt162 50 53 55 (.ifCond .eq 5) (5) := ⟨rfl, rfl, rfl⟩
theorem t162_53 : xt zt162 53 54 (.iload_n 1) := ⟨rfl, rfl⟩
theorem t162_54 : xt zt162 54 55 .ireturn := ⟨rfl, rfl⟩
theorem t162_55 : xt zt162 55 56 (.aload_n 0) := ⟨rfl, rfl⟩
theorem t162_56 : xtf zt162 11 56 59 (.getfield 195) 195 11 27 1 := ⟨rfl, rfl, rfl, rfl⟩
theorem t162_59 : xt zt162 59 60 (.istore_n 3) := ⟨rfl, rfl⟩
theorem t162_60 : xt zt162 60 61 (.aload_n 0) := ⟨rfl, rfl⟩
theorem t162_61 : xtc zt162 11 61 64 (.invokevirtual 226) 226 1 154 0 := ⟨rfl, rfl, rfl⟩
theorem t162_64 : xt zt162 64 65 (.iload_n 3) := ⟨rfl, rfl⟩
theorem t162_65 : xt zt162 65 66 .ireturn := ⟨rfl, rfl⟩
theorem t163_0 : xtk zt163 0 1 (0) := Or.inl ⟨0, ⟨rfl, rfl⟩, by decide⟩
theorem t163_1 : xt zt163 1 3 (.istore 4) := ⟨rfl, rfl⟩
theorem t163_3 : xt zt163 3 5 (.iload 4) := ⟨rfl, rfl⟩
theorem t163_5 : xt zt163 5 6 (.iload_n 2) := ⟨rfl, rfl⟩
theorem t163_6 : xtb zt163 6 9 28 (.if_icmp .ge 22) (22) := ⟨rfl, rfl, rfl⟩
theorem t163_9 : xt zt163 9 10 (.aload_n 0) := ⟨rfl, rfl⟩
theorem t163_10 : xt zt163 10 11 (.iload_n 1) := ⟨rfl, rfl⟩
theorem t163_11 : xt zt163 11 13 (.iload 4) := ⟨rfl, rfl⟩
theorem t163_13 : xt zt163 13 14 .iadd := ⟨rfl, rfl⟩
theorem t163_14 : xt zt163 14 15 .iaload := ⟨rfl, rfl⟩
theorem t163_15 : xt zt163 15 16 (.iload_n 3) := ⟨rfl, rfl⟩
theorem t163_16 : xtb zt163 16 19 22 (.if_icmp .ne 6) (6) := ⟨rfl, rfl, rfl⟩
theorem t163_19 : xt zt163 19 21 (.iload 4) := ⟨rfl, rfl⟩
theorem t163_21 : xt zt163 21 22 .ireturn := ⟨rfl, rfl⟩
theorem t163_22 : xt zt163 22 25 (.iinc 4 1) := ⟨rfl, rfl⟩
theorem t163_25 : xtb zt163 25 28 3 (.goto (-22)) (-22) := ⟨rfl, rfl, rfl⟩
theorem t163_28 : xtk zt163 28 29 (-1) := Or.inl ⟨-1, ⟨rfl, rfl⟩, by decide⟩
theorem t163_29 : xt zt163 29 30 .ireturn := ⟨rfl, rfl⟩
theorem t164_0 : xt zt164 0 1 (.aload_n 0) := ⟨rfl, rfl⟩
theorem t164_1 : xtf zt164 11 1 4 (.getfield 220) 220 11 28 1 := ⟨rfl, rfl, rfl, rfl⟩
theorem t164_4 : xtb zt164 4 7 9 (.ifCond .eq 5) (5) := ⟨rfl, rfl, rfl⟩
theorem t164_7 : xtk zt164 7 8 (0) := Or.inl ⟨0, ⟨rfl, rfl⟩, by decide⟩
theorem t164_8 : xt zt164 8 9 .ireturn := ⟨rfl, rfl⟩
theorem t164_9 : xt zt164 9 10 (.aload_n 0) := ⟨rfl, rfl⟩
theorem t164_10 : xtf zt164 11 10 13 (.getfield 185) 185 11 26 1 := ⟨rfl, rfl, rfl, rfl⟩
theorem t164_13 : xtk zt164 13 14 (1) := Or.inl ⟨1, ⟨rfl, rfl⟩, by decide⟩
theorem t164_14 : xtb zt164 14 17 25 (.if_icmp .eq 11) (11) := ⟨rfl, rfl, rfl⟩
theorem t164_17 : xt zt164 17 18 (.aload_n 0) := ⟨rfl, rfl⟩
theorem t164_18 : xtk zt164 18 19 (1) := Or.inl ⟨1, ⟨rfl, rfl⟩, by decide⟩
theorem t164_19 : xtc zt164 11 19 22 (.invokevirtual 229) 229 1 158 1 := ⟨rfl, rfl, rfl⟩
theorem t164_22 : xtb zt164 22 25 44 (.goto 22) (22) := ⟨rfl, rfl, rfl⟩
theorem t164_25 : xt zt164 25 26 (.aload_n 1) := ⟨rfl, rfl⟩
theorem t164_26 : xt zt164 26 27 (.iload_n 2) := ⟨rfl, rfl⟩
theorem t164_27 : xt zt164 27 28 (.iload_n 3) := ⟨rfl, rfl⟩
theorem t164_28 : xt zt164 28 29 (.aload_n 0) := ⟨rfl, rfl⟩
theorem t164_29 : xtf zt164 11 29 32 (.getfield 195) 195 11 27 1 := ⟨rfl, rfl, rfl, rfl⟩
theorem t164_32 : xtc zt164 11 32 35 (.invokestatic 232) 232 2 163 4 := ⟨rfl, rfl, rfl⟩
theorem t164_35 : xtk zt164 35 36 (-1) := Or.inl ⟨-1, ⟨rfl, rfl⟩, by decide⟩
theorem t164_36 : xtb zt164 36 39 44 (.if_icmp .eq 8) (8) := ⟨rfl, rfl, rfl⟩
theorem t164_39 : xt zt164 39 40 (.aload_n 0) := ⟨rfl, rfl⟩
theorem t164_40 : xtk zt164 40 41 (3) := Or.inl ⟨3, ⟨rfl, rfl⟩, by decide⟩
theorem t164_41 : xtc zt164 11 41 44 (.invokevirtual 229) 229 1 158 1 := ⟨rfl, rfl, rfl⟩
theorem t164_44 : xt zt164 44 45 (.aload_n 0) := ⟨rfl, rfl⟩
theorem t164_45 : xtf zt164 11 45 48 (.getfield 220) 220 11 28 1 := ⟨rfl, rfl, rfl, rfl⟩
theorem t164_48 : xtb zt164 48 51 53 (.ifCond .eq 5) (5) := ⟨rfl, rfl, rfl⟩
theorem t164_51 : xtk zt164 51 52 (0) := Or.inl ⟨0, ⟨rfl, rfl⟩, by decide⟩
theorem t164_52 : xt zt164 52 53 .ireturn := ⟨rfl, rfl⟩
theorem t164_53 : xt zt164 53 54 (.aload_n 0) := ⟨rfl, rfl⟩
theorem t164_54 : xtf zt164 11 54 57 (.getfield 195) 195 11 27 1 := ⟨rfl, rfl, rfl, rfl⟩
theorem t164_57 : xt zt164 57 59 (.istore 4) := ⟨rfl, rfl⟩
theorem t164_59 : xt zt164 59 60 (.aload_n 0) := ⟨rfl, rfl⟩
theorem t164_60 : xtc zt164 11 60 63 (.invokevirtual 226) 226 1 154 0 := ⟨rfl, rfl, rfl⟩
theorem t164_63 : xt zt164 63 65 (.iload 4) := ⟨rfl, rfl⟩
theorem t164_65 : xt zt164 65 66 .ireturn := ⟨rfl, rfl⟩
theorem t165_0 : xt zt165 0 1 (.aload_n 0) := ⟨rfl, rfl⟩
theorem t165_1 : xtf zt165 11 1 4 (.getfield 13) 13 11 3 3 := ⟨rfl, rfl, rfl, rfl⟩
theorem t165_4 : xtk zt165 4 6 (9) := Or.inr (Or.inl ⟨9, ⟨rfl, rfl⟩, by decide⟩)
theorem t165_6 : xt zt165 6 7 (.iload_n 1) := ⟨rfl, rfl⟩
theorem t165_7 : xt zt165 7 8 .iadd := ⟨rfl, rfl⟩
theorem t165_8 : xt zt165 8 9 .iaload := ⟨rfl, rfl⟩
theorem t165_9 : xt zt165 9 10 .ireturn := ⟨rfl, rfl⟩
theorem t166_0 : xt zt166 0 1 (.aload_n 0) := ⟨rfl, rfl⟩
theorem t166_1 : xtf zt166 11 1 4 (.getfield 13) 13 11 3 3 := ⟨rfl, rfl, rfl, rfl⟩
theorem t166_4 : xtk zt166 4 6 (9) := Or.inr (Or.inl ⟨9, ⟨rfl, rfl⟩, by decide⟩)
theorem t166_6 : xt zt166 6 7 (.iload_n 1) := ⟨rfl, rfl⟩
theorem t166_7 : xt zt166 7 8 .iadd := ⟨rfl, rfl⟩
theorem t166_8 : xt zt166 8 9 (.iload_n 2) := ⟨rfl, rfl⟩
theorem t166_9 : xt zt166 9 10 .iastore := ⟨rfl, rfl⟩
theorem t166_10 : xt zt166 10 11 .return_ := ⟨rfl, rfl⟩
theorem t167_0 : xt zt167 0 1 (.iload_n 1) := ⟨rfl, rfl⟩
theorem t167_1 : xtk zt167 1 2 (1) := Or.inl ⟨1, ⟨rfl, rfl⟩, by decide⟩
theorem t167_2 : xtb zt167 2 5 15 (.if_icmp .ne 13) (13) := ⟨rfl, rfl, rfl⟩
theorem t167_5 : xt zt167 5 6 (.aload_n 0) := ⟨rfl, rfl⟩
theorem t167_6 : xtk zt167 6 7 (1) := Or.inl ⟨1, ⟨rfl, rfl⟩, by decide⟩
theorem t167_7 : xtc zt167 11 7 10 (.invokevirtual 236) 236 1 165 1 := ⟨rfl, rfl, rfl⟩
theorem t167_10 : xtk zt167 10 12 (6) := Or.inr (Or.inl ⟨6, ⟨rfl, rfl⟩, by decide⟩)
theorem t167_12 : xtb zt167 12 15 73 (.if_icmp .eq 61) (61) := ⟨rfl, rfl, rfl⟩
theorem t167_15 : xt zt167 15 16 (.iload_n 1) := ⟨rfl, rfl⟩
theorem t167_16 : xtk zt167 16 17 (2) := Or.inl ⟨2, ⟨rfl, rfl⟩, by decide⟩
theorem t167_17 : xtb zt167 17 20 30 (.if_icmp .ne 13) (13) := ⟨rfl, rfl, rfl⟩
theorem t167_20 : xt zt167 20 21 (.aload_n 0) := ⟨rfl, rfl⟩
theorem t167_21 : xtk zt167 21 22 (2) := Or.inl ⟨2, ⟨rfl, rfl⟩, by decide⟩
theorem t167_22 : xtc zt167 11 22 25 (.invokevirtual 236) 236 1 165 1 := ⟨rfl, rfl, rfl⟩
theorem t167_25 : xtk zt167 25 27 (6) := Or.inr (Or.inl ⟨6, ⟨rfl, rfl⟩, by decide⟩)
theorem t167_27 : xtb zt167 27 30 73 (.if_icmp .eq 46) (46) := ⟨rfl, rfl, rfl⟩
theorem t167_30 : xt zt167 30 31 (.iload_n 1) := ⟨rfl, rfl⟩
theorem t167_31 : xtk zt167 31 32 (3) := Or.inl ⟨3, ⟨rfl, rfl⟩, by decide⟩
theorem t167_32 : xtb zt167 32 35 45 (.if_icmp .ne 13) (13) := ⟨rfl, rfl, rfl⟩
theorem t167_35 : xt zt167 35 36 (.aload_n 0) := ⟨rfl, rfl⟩
theorem t167_36 : xtk zt167 36 37 (3) := Or.inl ⟨3, ⟨rfl, rfl⟩, by decide⟩
theorem t167_37 : xtc zt167 11 37 40 (.invokevirtual 236) 236 1 165 1 := ⟨rfl, rfl, rfl⟩
theorem t167_40 : xtk zt167 40 42 (8) := Or.inr (Or.inl ⟨8, ⟨rfl, rfl⟩, by decide⟩)
theorem t167_42 : xtb zt167 42 45 73 (.if_icmp .eq 31) (31) := ⟨rfl, rfl, rfl⟩
theorem t167_45 : xt zt167 45 46 (.iload_n 1) := ⟨rfl, rfl⟩
theorem t167_46 : xtk zt167 46 47 (4) := Or.inl ⟨4, ⟨rfl, rfl⟩, by decide⟩
theorem t167_47 : xtb zt167 47 50 59 (.if_icmp .ne 12) (12) := ⟨rfl, rfl, rfl⟩
theorem t167_50 : xt zt167 50 51 (.aload_n 0) := ⟨rfl, rfl⟩
theorem t167_51 : xtk zt167 51 52 (4) := Or.inl ⟨4, ⟨rfl, rfl⟩, by decide⟩
theorem t167_52 : xtc zt167 11 52 55 (.invokevirtual 236) 236 1 165 1 := ⟨rfl, rfl, rfl⟩
theorem t167_55 : xtk zt167 55 56 (5) := Or.inl ⟨5, ⟨rfl, rfl⟩, by decide⟩
theorem t167_56 : xtb zt167 56 59 73 (.if_icmp .eq 17) (17) := ⟨rfl, rfl, rfl⟩
theorem t167_59 : xt zt167 59 60 (.iload_n 1) := ⟨rfl, rfl⟩
theorem t167_60 : xtk zt167 60 61 (5) := Or.inl ⟨5, ⟨rfl, rfl⟩, by decide⟩
theorem t167_61 : xtb zt167 61 64 77 (.if_icmp .ne 16) (16) := ⟨rfl, rfl, rfl⟩
theorem t167_64 : xt zt167 64 65 (.aload_n 0) := ⟨rfl, rfl⟩
theorem t167_65 : xtk zt167 65 66 (5) := Or.inl ⟨5, ⟨rfl, rfl⟩, by decide⟩
theorem t167_66 : xtc zt167 11 66 69 (.invokevirtual 236) 236 1 165 1 := ⟨rfl, rfl, rfl⟩
theorem t167_69 : xtk zt167 69 70 (3) := Or.inl ⟨3, ⟨rfl, rfl⟩, by decide⟩
theorem t167_70 : xtb zt167 70 73 77 (.if_icmp .ne 7) (7) := ⟨rfl, rfl, rfl⟩
theorem t167_73 : xtk zt167 73 74 (1) := Or.inl ⟨1, ⟨rfl, rfl⟩, by decide⟩
theorem t167_74 : xtb zt167 74 77 78 (.goto 4) (4) := ⟨rfl, rfl, rfl⟩
theorem t167_77 : xtk zt167 77 78 (0) := Or.inl ⟨0, ⟨rfl, rfl⟩, by decide⟩
theorem t167_78 : xt zt167 78 79 .ireturn := ⟨rfl, rfl⟩
theorem t168_0 : xt zt168 0 1 (.iload_n 0) := ⟨rfl, rfl⟩
theorem t168_1 : xtb zt168 1 4 16 (.ifCond .eq 15) (15) := ⟨rfl, rfl, rfl⟩
theorem t168_4 : xt zt168 4 5 (.iload_n 0) := ⟨rfl, rfl⟩
theorem t168_5 : xtk zt168 5 7 (6) := Or.inr (Or.inl ⟨6, ⟨rfl, rfl⟩, by decide⟩)
theorem t168_7 : xtb zt168 7 10 16 (.if_icmp .eq 9) (9) := ⟨rfl, rfl, rfl⟩
theorem t168_10 : xt zt168 10 11 (.iload_n 0) := ⟨rfl, rfl⟩
theorem t168_11 : xtk zt168 11 13 (7) := Or.inr (Or.inl ⟨7, ⟨rfl, rfl⟩, by decide⟩)
theorem t168_13 : xtb zt168 13 16 20 (.if_icmp .ne 7) (7) := ⟨rfl, rfl, rfl⟩
theorem t168_16 : xtk zt168 16 17 (1) := Or.inl ⟨1, ⟨rfl, rfl⟩, by decide⟩
theorem t168_17 : xtb zt168 17 20 21 (.goto 4) (4) := ⟨rfl, rfl, rfl⟩
theorem t168_20 : xtk zt168 20 21 (0) := Or.inl ⟨0, ⟨rfl, rfl⟩, by decide⟩
theorem t168_21 : xt zt168 21 22 .ireturn := ⟨rfl, rfl⟩
theorem t169_0 : xt zt169 0 1 (.aload_n 0) := ⟨rfl, rfl⟩
theorem t169_1 : xtf zt169 11 1 4 (.getfield 185) 185 11 26 1 := ⟨rfl, rfl, rfl, rfl⟩
theorem t169_4 : xtb zt169 4 7 16 (.ifCond .ne 12) (12) := ⟨rfl, rfl, rfl⟩
theorem t169_7 : xt zt169 7 8 (.aload_n 0) := ⟨rfl, rfl⟩
theorem t169_8 : xtf zt169 11 8 11 (.getfield 195) 195 11 27 1 := ⟨rfl, rfl, rfl, rfl⟩
theorem t169_11 : xtk zt169 11 13 (8) := Or.inr (Or.inl ⟨8, ⟨rfl, rfl⟩, by decide⟩)
theorem t169_13 : xtb zt169 13 16 22 (.if_icmp .le 9) (9) := ⟨rfl, rfl, rfl⟩
theorem t169_16 : xt zt169 16 17 (.aload_n 0) := ⟨rfl, rfl⟩
theorem t169_17 : xtk zt169 17 18 (1) := Or.inl ⟨1, ⟨rfl, rfl⟩, by decide⟩
theorem t169_18 : xtc zt169 11 18 21 (.invokevirtual 229) 229 1 158 1 := ⟨rfl, rfl, rfl⟩
theorem t169_21 : xt zt169 21 22 .return_ := ⟨rfl, rfl⟩
theorem t169_22 : xt zt169 22 23 (.aload_n 0) := ⟨rfl, rfl⟩
theorem t169_23 : xtf zt169 11 23 26 (.getfield 195) 195 11 27 1 := ⟨rfl, rfl, rfl, rfl⟩
theorem t169_26 : xt zt169 26 27 (.istore_n 1) := ⟨rfl, rfl⟩
theorem t169_27 : xt zt169 27 28 (.aload_n 0) := ⟨rfl, rfl⟩
theorem t169_28 : xt zt169 28 29 (.iload_n 1) := ⟨rfl, rfl⟩
theorem t169_29 : xtc zt169 11 29 32 (.invokevirtual 240) 240 1 167 1 := ⟨rfl, rfl, rfl⟩
theorem t169_32 : xtb zt169 32 35 43 (.ifCond .eq 11) (11) := ⟨rfl, rfl, rfl⟩
theorem t169_35 : xt zt169 35 36 (.aload_n 0) := ⟨rfl, rfl⟩
theorem t169_36 : xtk zt169 36 37 (2) := Or.inl ⟨2, ⟨rfl, rfl⟩, by decide⟩
theorem t169_37 : xtc zt169 11 37 40 (.invokevirtual 229) 229 1 158 1 := ⟨rfl, rfl, rfl⟩
theorem t169_40 : xtb zt169 40 43 67 (.goto 27) (27) := ⟨rfl, rfl, rfl⟩
theorem t169_43 : xt zt169 43 44 (.iload_n 1) := ⟨rfl, rfl⟩
theorem t169_44 : xtc zt169 11 44 47 (.invokestatic 243) 243 2 168 1 := ⟨rfl, rfl, rfl⟩
theorem t169_47 : xtb zt169 47 50 67 (.ifCond .eq 20) (20) := ⟨rfl, rfl, rfl⟩
theorem t169_50 : xt zt169 50 51 (.aload_n 0) := ⟨rfl, rfl⟩
theorem t169_51 : xtf zt169 11 51 54 (.getfield 246) 246 11 21 1 := ⟨rfl, rfl, rfl, rfl⟩
theorem t169_54 : xt zt169 54 55 (.iload_n 1) := ⟨rfl, rfl⟩
theorem t169_55 : xt zt169 55 56 .ishr := ⟨rfl, rfl⟩
theorem t169_56 : xtk zt169 56 57 (1) := Or.inl ⟨1, ⟨rfl, rfl⟩, by decide⟩
theorem t169_57 : xt zt169 57 58 .iand := ⟨rfl, rfl⟩
theorem t169_58 : xtk zt169 58 59 (1) := Or.inl ⟨1, ⟨rfl, rfl⟩, by decide⟩
theorem t169_59 : xtb zt169 59 62 67 (.if_icmp .ne 8) (8) := ⟨rfl, rfl, rfl⟩
theorem t169_62 : xt zt169 62 63 (.aload_n 0) := ⟨rfl, rfl⟩
theorem t169_63 : xtk zt169 63 64 (3) := Or.inl ⟨3, ⟨rfl, rfl⟩, by decide⟩
theorem t169_64 : xtc zt169 11 64 67 (.invokevirtual 229) 229 1 158 1 := ⟨rfl, rfl, rfl⟩
theorem t169_67 : xt zt169 67 68 (.aload_n 0) := ⟨rfl, rfl⟩
theorem t169_68 : xtf zt169 11 68 71 (.getfield 220) 220 11 28 1 := ⟨rfl, rfl, rfl, rfl⟩
theorem t169_71 : xtb zt169 71 74 75 (.ifCond .eq 4) (4) := ⟨rfl, rfl, rfl⟩
theorem t169_74 : xt zt169 74 75 .return_ := ⟨rfl, rfl⟩
theorem t169_75 : xt zt169 75 76 (.aload_n 0) := ⟨rfl, rfl⟩
theorem t169_76 : xt zt169 76 77 .dup := ⟨rfl, rfl⟩
theorem t169_77 : xtf zt169 11 77 80 (.getfield 246) 246 11 21 1 := ⟨rfl, rfl, rfl, rfl⟩
theorem t169_80 : xtk zt169 80 81 (1) := Or.inl ⟨1, ⟨rfl, rfl⟩, by decide⟩
theorem t169_81 : xt zt169 81 82 (.iload_n 1) := ⟨rfl, rfl⟩
theorem t169_82 : xt zt169 82 83 .ishl := ⟨rfl, rfl⟩
theorem t169_83 : xt zt169 83 84 .ior := ⟨rfl, rfl⟩
theorem t169_84 : xtf zt169 11 84 87 (.putfield 246) 246 11 21 1 := ⟨rfl, rfl, rfl, rfl⟩
theorem t169_87 : xt zt169 87 88 (.aload_n 0) := ⟨rfl, rfl⟩
theorem t169_88 : xtc zt169 11 88 91 (.invokevirtual 226) 226 1 154 0 := ⟨rfl, rfl, rfl⟩
theorem t169_91 : xt zt169 91 92 (.iload_n 1) := ⟨rfl, rfl⟩
theorem t169_92 : zt169 92 = some (.tableswitch 389 0 7 #[48, 63, 159, 229, 236, 288, 357, 373], 48) := rfl
theorem t169_140 : xt zt169 140 141 (.aload_n 0) := ⟨rfl, rfl⟩
theorem t169_141 : xtk zt169 141 142 (0) := Or.inl ⟨0, ⟨rfl, rfl⟩, by decide⟩
theorem t169_142 : xt zt169 142 143 (.aload_n 0) := ⟨rfl, rfl⟩
theorem t169_143 : xtk zt169 143 144 (1) := Or.inl ⟨1, ⟨rfl, rfl⟩, by decide⟩
theorem t169_144 : xtk zt169 144 146 (60) := Or.inr (Or.inl ⟨60, ⟨rfl, rfl⟩, by decide⟩)
theorem t169_146 : xtc zt169 11 146 149 (.invokevirtual 249) 249 1 162 2 := ⟨rfl, rfl, rfl⟩
theorem t169_149 : xtc zt169 11 149 152 (.invokevirtual 253) 253 1 166 2 := ⟨rfl, rfl, rfl⟩
theorem t169_152 : xtb zt169 152 155 485 (.goto 333) (333) := ⟨rfl, rfl, rfl⟩
theorem t169_155 : xtk zt169 155 157 (6) := Or.inr (Or.inl ⟨6, ⟨rfl, rfl⟩, by decide⟩)
theorem t169_157 : xt zt169 157 158 (.aload_n 0) := ⟨rfl, rfl⟩
theorem t169_158 : xtk zt169 158 159 (1) := Or.inl ⟨1, ⟨rfl, rfl⟩, by decide⟩
theorem t169_159 : xtc zt169 11 159 162 (.invokevirtual 236) 236 1 165 1 := ⟨rfl, rfl, rfl⟩
theorem t169_162 : xt zt169 162 163 .iadd := ⟨rfl, rfl⟩
theorem t169_163 : xt zt169 163 164 (.istore_n 2) := ⟨rfl, rfl⟩
theorem t169_164 : xt zt169 164 165 (.aload_n 0) := ⟨rfl, rfl⟩
theorem t169_165 : xtf zt169 11 165 168 (.getfield 16) 16 11 4 3 := ⟨rfl, rfl, rfl, rfl⟩
theorem t169_168 : xt zt169 168 169 (.iload_n 2) := ⟨rfl, rfl⟩
theorem t169_169 : xt zt169 169 170 (.aload_n 0) := ⟨rfl, rfl⟩
theorem t169_170 : xt zt169 170 171 (.aload_n 0) := ⟨rfl, rfl⟩
theorem t169_171 : xtf zt169 11 171 174 (.getfield 16) 16 11 4 3 := ⟨rfl, rfl, rfl, rfl⟩
theorem t169_174 : xtk zt169 174 176 (6) := Or.inr (Or.inl ⟨6, ⟨rfl, rfl⟩, by decide⟩)
theorem t169_176 : xt zt169 176 177 (.aload_n 0) := ⟨rfl, rfl⟩
theorem t169_177 : xtk zt169 177 178 (1) := Or.inl ⟨1, ⟨rfl, rfl⟩, by decide⟩
theorem t169_178 : xtc zt169 11 178 181 (.invokevirtual 236) 236 1 165 1 := ⟨rfl, rfl, rfl⟩
theorem t169_181 : xtc zt169 11 181 184 (.invokevirtual 257) 257 1 164 3 := ⟨rfl, rfl, rfl⟩
theorem t169_184 : xt zt169 184 185 .iastore := ⟨rfl, rfl⟩
theorem t169_185 : xt zt169 185 186 (.aload_n 0) := ⟨rfl, rfl⟩
theorem t169_186 : xtf zt169 11 186 189 (.getfield 19) 19 11 5 3 := ⟨rfl, rfl, rfl, rfl⟩
theorem t169_189 : xt zt169 189 190 (.iload_n 2) := ⟨rfl, rfl⟩
theorem t169_190 : xt zt169 190 191 (.aload_n 0) := ⟨rfl, rfl⟩
theorem t169_191 : xtk zt169 191 192 (0) := Or.inl ⟨0, ⟨rfl, rfl⟩, by decide⟩
theorem t169_192 : xtk zt169 192 194 (60) := Or.inr (Or.inl ⟨60, ⟨rfl, rfl⟩, by decide⟩)
theorem t169_194 : xtc zt169 11 194 197 (.invokevirtual 249) 249 1 162 2 := ⟨rfl, rfl, rfl⟩
theorem t169_197 : xt zt169 197 198 .iastore := ⟨rfl, rfl⟩
theorem t169_198 : xt zt169 198 199 (.aload_n 0) := ⟨rfl, rfl⟩
theorem t169_199 : xtf zt169 11 199 202 (.getfield 22) 22 11 6 3 := ⟨rfl, rfl, rfl, rfl⟩
theorem t169_202 : xt zt169 202 203 (.iload_n 2) := ⟨rfl, rfl⟩
theorem t169_203 : xt zt169 203 204 (.aload_n 0) := ⟨rfl, rfl⟩
theorem t169_204 : xtk zt169 204 205 (0) := Or.inl ⟨0, ⟨rfl, rfl⟩, by decide⟩
theorem t169_205 : xtk zt169 205 207 (99) := Or.inr (Or.inl ⟨99, ⟨rfl, rfl⟩, by decide⟩)
theorem t169_207 : xtc zt169 11 207 210 (.invokevirtual 249) 249 1 162 2 := ⟨rfl, rfl, rfl⟩
theorem t169_210 : xt zt169 210 211 .iastore := ⟨rfl, rfl⟩
theorem t169_211 : xt zt169 211 212 (.aload_n 0) := ⟨rfl, rfl⟩
theorem t169_212 : xtf zt169 11 212 215 (.getfield 25) 25 11 7 3 := ⟨rfl, rfl, rfl, rfl⟩
theorem t169_215 : xt zt169 215 216 (.iload_n 2) := ⟨rfl, rfl⟩
theorem t169_216 : xt zt169 216 217 (.aload_n 0) := ⟨rfl, rfl⟩
theorem t169_217 : xtk zt169 217 218 (0) := Or.inl ⟨0, ⟨rfl, rfl⟩, by decide⟩
theorem t169_218 : xtk zt169 218 220 (9) := Or.inr (Or.inl ⟨9, ⟨rfl, rfl⟩, by decide⟩)
theorem t169_220 : xtc zt169 11 220 223 (.invokevirtual 249) 249 1 162 2 := ⟨rfl, rfl, rfl⟩
theorem t169_223 : xt zt169 223 224 .iastore := ⟨rfl, rfl⟩
theorem t169_224 : xt zt169 224 225 (.aload_n 0) := ⟨rfl, rfl⟩
theorem t169_225 : xtf zt169 11 225 228 (.getfield 28) 28 11 8 3 := ⟨rfl, rfl, rfl, rfl⟩
theorem t169_228 : xt zt169 228 229 (.iload_n 2) := ⟨rfl, rfl⟩
theorem t169_229 : xt zt169 229 230 (.aload_n 0) := ⟨rfl, rfl⟩
theorem t169_230 : xtk zt169 230 231 (0) := Or.inl ⟨0, ⟨rfl, rfl⟩, by decide⟩
theorem t169_231 : xtk zt169 231 232 (3) := Or.inl ⟨3, ⟨rfl, rfl⟩, by decide⟩
theorem t169_232 : xtc zt169 11 232 235 (.invokevirtual 249) 249 1 162 2 := ⟨rfl, rfl, rfl⟩
theorem t169_235 : xt zt169 235 236 .iastore := ⟨rfl, rfl⟩
theorem t169_236 : xt zt169 236 237 (.aload_n 0) := ⟨rfl, rfl⟩
theorem t169_237 : xtk zt169 237 238 (1) := Or.inl ⟨1, ⟨rfl, rfl⟩, by decide⟩
theorem t169_238 : xt zt169 238 239 (.aload_n 0) := ⟨rfl, rfl⟩
theorem t169_239 : xtk zt169 239 240 (1) := Or.inl ⟨1, ⟨rfl, rfl⟩, by decide⟩
theorem t169_240 : xtc zt169 11 240 243 (.invokevirtual 236) 236 1 165 1 := ⟨rfl, rfl, rfl⟩
theorem t169_243 : xtk zt169 243 244 (1) := Or.inl ⟨1, ⟨rfl, rfl⟩, by decide⟩
theorem t169_244 : xt zt169 244 245 .iadd := ⟨rfl, rfl⟩
theorem t169_245 : xtc zt169 11 245 248 (.invokevirtual 253) 253 1 166 2 := ⟨rfl, rfl, rfl⟩
theorem t169_248 : xtb zt169 248 251 485 (.goto 237) (237) := ⟨rfl, rfl, rfl⟩
theorem t169_251 : xtk zt169 251 253 (6) := Or.inr (Or.inl ⟨6, ⟨rfl, rfl⟩, by decide⟩)
theorem t169_253 : xt zt169 253 254 (.aload_n 0) := ⟨rfl, rfl⟩
theorem t169_254 : xtk zt169 254 255 (2) := Or.inl ⟨2, ⟨rfl, rfl⟩, by decide⟩
theorem t169_255 : xtc zt169 11 255 258 (.invokevirtual 236) 236 1 165 1 := ⟨rfl, rfl, rfl⟩
theorem t169_258 : xt zt169 258 259 .iadd := ⟨rfl, rfl⟩
theorem t169_259 : xt zt169 259 260 (.istore_n 3) := ⟨rfl, rfl⟩
theorem t169_260 : xt zt169 260 261 (.aload_n 0) := ⟨rfl, rfl⟩
theorem t169_261 : xtf zt169 11 261 264 (.getfield 31) 31 11 9 3 := ⟨rfl, rfl, rfl, rfl⟩
theorem t169_264 : xt zt169 264 265 (.iload_n 3) := ⟨rfl, rfl⟩
theorem t169_265 : xt zt169 265 266 (.aload_n 0) := ⟨rfl, rfl⟩
theorem t169_266 : xt zt169 266 267 (.aload_n 0) := ⟨rfl, rfl⟩
theorem t169_267 : xtf zt169 11 267 270 (.getfield 31) 31 11 9 3 := ⟨rfl, rfl, rfl, rfl⟩
theorem t169_270 : xtk zt169 270 272 (6) := Or.inr (Or.inl ⟨6, ⟨rfl, rfl⟩, by decide⟩)
theorem t169_272 : xt zt169 272 273 (.aload_n 0) := ⟨rfl, rfl⟩
theorem t169_273 : xtk zt169 273 274 (2) := Or.inl ⟨2, ⟨rfl, rfl⟩, by decide⟩
theorem t169_274 : xtc zt169 11 274 277 (.invokevirtual 236) 236 1 165 1 := ⟨rfl, rfl, rfl⟩
theorem t169_277 : xtc zt169 11 277 280 (.invokevirtual 257) 257 1 164 3 := ⟨rfl, rfl, rfl⟩
theorem t169_280 : xt zt169 280 281 .iastore := ⟨rfl, rfl⟩
theorem t169_281 : xt zt169 281 282 (.aload_n 0) := ⟨rfl, rfl⟩
theorem t169_282 : xtf zt169 11 282 285 (.getfield 34) 34 11 10 3 := ⟨rfl, rfl, rfl, rfl⟩
theorem t169_285 : xt zt169 285 286 (.iload_n 3) := ⟨rfl, rfl⟩
theorem t169_286 : xt zt169 286 287 (.aload_n 0) := ⟨rfl, rfl⟩
theorem t169_287 : xtk zt169 287 288 (0) := Or.inl ⟨0, ⟨rfl, rfl⟩, by decide⟩
theorem t169_288 : xtk zt169 288 290 (99) := Or.inr (Or.inl ⟨99, ⟨rfl, rfl⟩, by decide⟩)
theorem t169_290 : xtc zt169 11 290 293 (.invokevirtual 249) 249 1 162 2 := ⟨rfl, rfl, rfl⟩
theorem t169_293 : xt zt169 293 294 .iastore := ⟨rfl, rfl⟩
theorem t169_294 : xt zt169 294 295 (.aload_n 0) := ⟨rfl, rfl⟩
theorem t169_295 : xtf zt169 11 295 298 (.getfield 37) 37 11 11 3 := ⟨rfl, rfl, rfl, rfl⟩
theorem t169_298 : xt zt169 298 299 (.iload_n 3) := ⟨rfl, rfl⟩
theorem t169_299 : xt zt169 299 300 (.aload_n 0) := ⟨rfl, rfl⟩
theorem t169_300 : xtk zt169 300 301 (0) := Or.inl ⟨0, ⟨rfl, rfl⟩, by decide⟩
theorem t169_301 : xtk zt169 301 302 (3) := Or.inl ⟨3, ⟨rfl, rfl⟩, by decide⟩
theorem t169_302 : xtc zt169 11 302 305 (.invokevirtual 249) 249 1 162 2 := ⟨rfl, rfl, rfl⟩
theorem t169_305 : xt zt169 305 306 .iastore := ⟨rfl, rfl⟩
theorem t169_306 : xt zt169 306 307 (.aload_n 0) := ⟨rfl, rfl⟩
theorem t169_307 : xtk zt169 307 308 (2) := Or.inl ⟨2, ⟨rfl, rfl⟩, by decide⟩
theorem t169_308 : xt zt169 308 309 (.aload_n 0) := ⟨rfl, rfl⟩
theorem t169_309 : xtk zt169 309 310 (2) := Or.inl ⟨2, ⟨rfl, rfl⟩, by decide⟩
theorem t169_310 : xtc zt169 11 310 313 (.invokevirtual 236) 236 1 165 1 := ⟨rfl, rfl, rfl⟩
theorem t169_313 : xtk zt169 313 314 (1) := Or.inl ⟨1, ⟨rfl, rfl⟩, by decide⟩
theorem t169_314 : xt zt169 314 315 .iadd := ⟨rfl, rfl⟩
theorem t169_315 : xtc zt169 11 315 318 (.invokevirtual 253) 253 1 166 2 := ⟨rfl, rfl, rfl⟩
theorem t169_318 : xtb zt169 318 321 485 (.goto 167) (167) := ⟨rfl, rfl, rfl⟩
theorem t169_321 : xt zt169 321 322 (.aload_n 0) := ⟨rfl, rfl⟩
theorem t169_322 : xtc zt169 11 322 325 (.invokevirtual 261) 261 1 170 0 := ⟨rfl, rfl, rfl⟩
theorem t169_325 : xtb zt169 325 328 485 (.goto 160) (160) := ⟨rfl, rfl, rfl⟩
theorem t169_328 : xtk zt169 328 329 (5) := Or.inl ⟨5, ⟨rfl, rfl⟩, by decide⟩
theorem t169_329 : xt zt169 329 330 (.aload_n 0) := ⟨rfl, rfl⟩
theorem t169_330 : xtk zt169 330 331 (4) := Or.inl ⟨4, ⟨rfl, rfl⟩, by decide⟩
theorem t169_331 : xtc zt169 11 331 334 (.invokevirtual 236) 236 1 165 1 := ⟨rfl, rfl, rfl⟩
theorem t169_334 : xt zt169 334 335 .iadd := ⟨rfl, rfl⟩
theorem t169_335 : xt zt169 335 337 (.istore 4) := ⟨rfl, rfl⟩
theorem t169_337 : xt zt169 337 338 (.aload_n 0) := ⟨rfl, rfl⟩
theorem t169_338 : xtf zt169 11 338 341 (.getfield 44) 44 11 13 3 := ⟨rfl, rfl, rfl, rfl⟩
theorem t169_341 : xt zt169 341 343 (.iload 4) := ⟨rfl, rfl⟩
theorem t169_343 : xt zt169 343 344 (.aload_n 0) := ⟨rfl, rfl⟩
theorem t169_344 : xtk zt169 344 345 (0) := Or.inl ⟨0, ⟨rfl, rfl⟩, by decide⟩
theorem t169_345 : xtk zt169 345 347 (60) := Or.inr (Or.inl ⟨60, ⟨rfl, rfl⟩, by decide⟩)
theorem t169_347 : xtc zt169 11 347 350 (.invokevirtual 249) 249 1 162 2 := ⟨rfl, rfl, rfl⟩
theorem t169_350 : xt zt169 350 351 .iastore := ⟨rfl, rfl⟩
theorem t169_351 : xt zt169 351 352 (.aload_n 0) := ⟨rfl, rfl⟩
theorem t169_352 : xtf zt169 11 352 355 (.getfield 47) 47 11 14 3 := ⟨rfl, rfl, rfl, rfl⟩
theorem t169_355 : xt zt169 355 357 (.iload 4) := ⟨rfl, rfl⟩
theorem t169_357 : xt zt169 357 358 (.aload_n 0) := ⟨rfl, rfl⟩
theorem t169_358 : xtk zt169 358 359 (0) := Or.inl ⟨0, ⟨rfl, rfl⟩, by decide⟩
theorem t169_359 : xtk zt169 359 361 (99) := Or.inr (Or.inl ⟨99, ⟨rfl, rfl⟩, by decide⟩)
theorem t169_361 : xtc zt169 11 361 364 (.invokevirtual 249) 249 1 162 2 := ⟨rfl, rfl, rfl⟩
theorem t169_364 : xt zt169 364 365 .iastore := ⟨rfl, rfl⟩
theorem t169_365 : xt zt169 365 366 (.aload_n 0) := ⟨rfl, rfl⟩
theorem t169_366 : xtk zt169 366 367 (4) := Or.inl ⟨4, ⟨rfl, rfl⟩, by decide⟩
theorem t169_367 : xt zt169 367 368 (.aload_n 0) := ⟨rfl, rfl⟩
theorem t169_368 : xtk zt169 368 369 (4) := Or.inl ⟨4, ⟨rfl, rfl⟩, by decide⟩
theorem t169_369 : xtc zt169 11 369 372 (.invokevirtual 236) 236 1 165 1 := ⟨rfl, rfl, rfl⟩
theorem t169_372 : xtk zt169 372 373 (1) := Or.inl ⟨1, ⟨rfl, rfl⟩, by decide⟩
theorem t169_373 : xt zt169 373 374 .iadd := ⟨rfl, rfl⟩
theorem t169_374 : xtc zt169 11 374 377 (.invokevirtual 253) 253 1 166 2 := ⟨rfl, rfl, rfl⟩
theorem t169_377 : xtb zt169 377 380 485 (.goto 108) (108) := ⟨rfl, rfl, rfl⟩
theorem t169_380 : xtk zt169 380 381 (3) := Or.inl ⟨3, ⟨rfl, rfl⟩, by decide⟩
theorem t169_381 : xt zt169 381 382 (.aload_n 0) := ⟨rfl, rfl⟩
theorem t169_382 : xtk zt169 382 383 (5) := Or.inl ⟨5, ⟨rfl, rfl⟩, by decide⟩
theorem t169_383 : xtc zt169 11 383 386 (.invokevirtual 236) 236 1 165 1 := ⟨rfl, rfl, rfl⟩
theorem t169_386 : xt zt169 386 387 .iadd := ⟨rfl, rfl⟩
theorem t169_387 : xt zt169 387 389 (.istore 5) := ⟨rfl, rfl⟩
theorem t169_389 : xt zt169 389 390 (.aload_n 0) := ⟨rfl, rfl⟩
theorem t169_390 : xtf zt169 11 390 393 (.getfield 50) 50 11 15 3 := ⟨rfl, rfl, rfl, rfl⟩
theorem t169_393 : xt zt169 393 395 (.iload 5) := ⟨rfl, rfl⟩
theorem t169_395 : xt zt169 395 396 (.aload_n 0) := ⟨rfl, rfl⟩
theorem t169_396 : xtk zt169 396 397 (0) := Or.inl ⟨0, ⟨rfl, rfl⟩, by decide⟩
theorem t169_397 : xtk zt169 397 399 (60) := Or.inr (Or.inl ⟨60, ⟨rfl, rfl⟩, by decide⟩)
theorem t169_399 : xtc zt169 11 399 402 (.invokevirtual 249) 249 1 162 2 := ⟨rfl, rfl, rfl⟩
theorem t169_402 : xt zt169 402 403 .iastore := ⟨rfl, rfl⟩
theorem t169_403 : xt zt169 403 404 (.aload_n 0) := ⟨rfl, rfl⟩
theorem t169_404 : xtf zt169 11 404 407 (.getfield 53) 53 11 16 3 := ⟨rfl, rfl, rfl, rfl⟩
theorem t169_407 : xt zt169 407 409 (.iload 5) := ⟨rfl, rfl⟩
theorem t169_409 : xt zt169 409 410 (.aload_n 0) := ⟨rfl, rfl⟩
theorem t169_410 : xt zt169 410 411 (.aload_n 0) := ⟨rfl, rfl⟩
theorem t169_411 : xtf zt169 11 411 414 (.getfield 220) 220 11 28 1 := ⟨rfl, rfl, rfl, rfl⟩
theorem t169_414 : xtb zt169 414 417 427 (.ifCond .ne 13) (13) := ⟨rfl, rfl, rfl⟩
theorem t169_417 : xt zt169 417 418 (.aload_n 0) := ⟨rfl, rfl⟩
theorem t169_418 : xtf zt169 11 418 421 (.getfield 50) 50 11 15 3 := ⟨rfl, rfl, rfl, rfl⟩
theorem t169_421 : xt zt169 421 423 (.iload 5) := ⟨rfl, rfl⟩
theorem t169_423 : xt zt169 423 424 .iaload := ⟨rfl, rfl⟩
theorem t169_424 : xtb zt169 424 427 428 (.goto 4) (4) := ⟨rfl, rfl, rfl⟩
theorem t169_427 : xtk zt169 427 428 (0) := Or.inl ⟨0, ⟨rfl, rfl⟩, by decide⟩
theorem t169_428 : xtk zt169 428 430 (60) := Or.inr (Or.inl ⟨60, ⟨rfl, rfl⟩, by decide⟩)
theorem t169_430 : xtc zt169 11 430 433 (.invokevirtual 249) 249 1 162 2 := ⟨rfl, rfl, rfl⟩
theorem t169_433 : xt zt169 433 434 .iastore := ⟨rfl, rfl⟩
theorem t169_434 : xt zt169 434 435 (.aload_n 0) := ⟨rfl, rfl⟩
theorem t169_435 : xtk zt169 435 436 (5) := Or.inl ⟨5, ⟨rfl, rfl⟩, by decide⟩
theorem t169_436 : xt zt169 436 437 (.aload_n 0) := ⟨rfl, rfl⟩
theorem t169_437 : xtk zt169 437 438 (5) := Or.inl ⟨5, ⟨rfl, rfl⟩, by decide⟩
theorem t169_438 : xtc zt169 11 438 441 (.invokevirtual 236) 236 1 165 1 := ⟨rfl, rfl, rfl⟩
theorem t169_441 : xtk zt169 441 442 (1) := Or.inl ⟨1, ⟨rfl, rfl⟩, by decide⟩
theorem t169_442 : xt zt169 442 443 .iadd := ⟨rfl, rfl⟩
theorem t169_443 : xtc zt169 11 443 446 (.invokevirtual 253) 253 1 166 2 := ⟨rfl, rfl, rfl⟩
theorem t169_446 : xtb zt169 446 449 485 (.goto 39) (39) := ⟨rfl, rfl, rfl⟩
theorem t169_449 : xt zt169 449 450 (.aload_n 0) := ⟨rfl, rfl⟩
theorem t169_450 : xtk zt169 450 452 (6) := Or.inr (Or.inl ⟨6, ⟨rfl, rfl⟩, by decide⟩)
theorem t169_452 : xt zt169 452 453 (.aload_n 0) := ⟨rfl, rfl⟩
theorem t169_453 : xtk zt169 453 454 (0) := Or.inl ⟨0, ⟨rfl, rfl⟩, by decide⟩
theorem t169_454 : xtk zt169 454 456 (9) := Or.inr (Or.inl ⟨9, ⟨rfl, rfl⟩, by decide⟩)
theorem t169_456 : xtc zt169 11 456 459 (.invokevirtual 249) 249 1 162 2 := ⟨rfl, rfl, rfl⟩
theorem t169_459 : xtc zt169 11 459 462 (.invokevirtual 253) 253 1 166 2 := ⟨rfl, rfl, rfl⟩
theorem t169_462 : xtb zt169 462 465 485 (.goto 23) (23) := ⟨rfl, rfl, rfl⟩
theorem t169_465 : xt zt169 465 466 (.aload_n 0) := ⟨rfl, rfl⟩
theorem t169_466 : xtk zt169 466 468 (7) := Or.inr (Or.inl ⟨7, ⟨rfl, rfl⟩, by decide⟩)
theorem t169_468 : xt zt169 468 469 (.aload_n 0) := ⟨rfl, rfl⟩
theorem t169_469 : xtk zt169 469 470 (0) := Or.inl ⟨0, ⟨rfl, rfl⟩, by decide⟩
theorem t169_470 : xt zt169 470 472 (.ldc 204) := ⟨rfl, rfl⟩
theorem t169_472 : xtc zt169 11 472 475 (.invokevirtual 249) 249 1 162 2 := ⟨rfl, rfl, rfl⟩
theorem t169_475 : xtc zt169 11 475 478 (.invokevirtual 253) 253 1 166 2 := ⟨rfl, rfl, rfl⟩
theorem t169_478 : xtb zt169 478 481 485 (.goto 7) (7) := ⟨rfl, rfl, rfl⟩
theorem t169_481 : xt zt169 481 482 (.aload_n 0) := ⟨rfl, rfl⟩
theorem t169_482 : xtc zt169 11 482 485 (.invokevirtual 264) 264 1 171 0 := ⟨rfl, rfl, rfl⟩
theorem t169_485 : xt zt169 485 486 (.aload_n 0) := ⟨rfl, rfl⟩
theorem t169_486 : xtf zt169 11 486 489 (.getfield 220) 220 11 28 1 := ⟨rfl, rfl, rfl, rfl⟩
theorem t169_489 : xtb zt169 489 492 493 (.ifCond .eq 4) (4) := ⟨rfl, rfl, rfl⟩
theorem t169_492 : xt zt169 492 493 .return_ := ⟨rfl, rfl⟩
theorem t169_493 : xt zt169 493 494 (.aload_n 0) := ⟨rfl, rfl⟩
theorem t169_494 : xtk zt169 494 496 (59) := Or.inr (Or.inl ⟨59, ⟨rfl, rfl⟩, by decide⟩)
theorem t169_496 : xtc zt169 11 496 499 (.invokevirtual 267) 267 1 160 1 := ⟨rfl, rfl, rfl⟩
theorem t169_499 : xtb zt169 499 502 510 (.ifCond .ne 11) (11) := ⟨rfl, rfl, rfl⟩
theorem t169_502 : xt zt169 502 503 (.aload_n 0) := ⟨rfl, rfl⟩
theorem t169_503 : xtk zt169 503 504 (1) := Or.inl ⟨1, ⟨rfl, rfl⟩, by decide⟩
theorem t169_504 : xtc zt169 11 504 507 (.invokevirtual 229) 229 1 158 1 := ⟨rfl, rfl, rfl⟩
theorem t169_507 : xtb zt169 507 510 514 (.goto 7) (7) := ⟨rfl, rfl, rfl⟩
theorem t169_510 : xt zt169 510 511 (.aload_n 0) := ⟨rfl, rfl⟩
theorem t169_511 : xtc zt169 11 511 514 (.invokevirtual 226) 226 1 154 0 := ⟨rfl, rfl, rfl⟩
theorem t169_514 : xt zt169 514 515 (.aload_n 0) := ⟨rfl, rfl⟩
theorem t169_515 : xt zt169 515 516 .dup := ⟨rfl, rfl⟩
theorem t169_516 : xtf zt169 11 516 519 (.getfield 270) 270 11 22 1 := ⟨rfl, rfl, rfl, rfl⟩
theorem t169_519 : xtk zt169 519 520 (1) := Or.inl ⟨1, ⟨rfl, rfl⟩, by decide⟩
theorem t169_520 : xt zt169 520 521 .iadd := ⟨rfl, rfl⟩
theorem t169_521 : xtf zt169 11 521 524 (.putfield 270) 270 11 22 1 := ⟨rfl, rfl, rfl, rfl⟩
theorem t169_524 : xt zt169 524 525 .return_ := ⟨rfl, rfl⟩
theorem t170_0 : xt zt170 0 1 (.aload_n 0) := ⟨rfl, rfl⟩
theorem t170_1 : xtf zt170 11 1 4 (.getfield 185) 185 11 26 1 := ⟨rfl, rfl, rfl, rfl⟩
theorem t170_4 : xtk zt170 4 5 (1) := Or.inl ⟨1, ⟨rfl, rfl⟩, by decide⟩
theorem t170_5 : xtb zt170 5 8 13 (.if_icmp .eq 8) (8) := ⟨rfl, rfl, rfl⟩
theorem t170_8 : xt zt170 8 9 (.aload_n 0) := ⟨rfl, rfl⟩
theorem t170_9 : xtk zt170 9 10 (1) := Or.inl ⟨1, ⟨rfl, rfl⟩, by decide⟩
theorem t170_10 : xtc zt170 11 10 13 (.invokevirtual 229) 229 1 158 1 := ⟨rfl, rfl, rfl⟩
theorem t170_13 : xt zt170 13 14 (.aload_n 0) := ⟨rfl, rfl⟩
theorem t170_14 : xtf zt170 11 14 17 (.getfield 220) 220 11 28 1 := ⟨rfl, rfl, rfl, rfl⟩
theorem t170_17 : xtb zt170 17 20 41 (.ifCond .ne 24) (24) := ⟨rfl, rfl, rfl⟩
theorem t170_20 : xt zt170 20 21 (.aload_n 0) := ⟨rfl, rfl⟩
theorem t170_21 : xtf zt170 11 21 24 (.getfield 31) 31 11 9 3 := ⟨rfl, rfl, rfl, rfl⟩
theorem t170_24 : xtk zt170 24 26 (6) := Or.inr (Or.inl ⟨6, ⟨rfl, rfl⟩, by decide⟩)
theorem t170_26 : xt zt170 26 27 (.aload_n 0) := ⟨rfl, rfl⟩
theorem t170_27 : xtk zt170 27 28 (2) := Or.inl ⟨2, ⟨rfl, rfl⟩, by decide⟩
theorem t170_28 : xtc zt170 11 28 31 (.invokevirtual 236) 236 1 165 1 := ⟨rfl, rfl, rfl⟩
theorem t170_31 : xt zt170 31 32 (.aload_n 0) := ⟨rfl, rfl⟩
theorem t170_32 : xtf zt170 11 32 35 (.getfield 195) 195 11 27 1 := ⟨rfl, rfl, rfl, rfl⟩
theorem t170_35 : xtc zt170 11 35 38 (.invokestatic 232) 232 2 163 4 := ⟨rfl, rfl, rfl⟩
theorem t170_38 : xtb zt170 38 41 42 (.goto 4) (4) := ⟨rfl, rfl, rfl⟩
theorem t170_41 : xtk zt170 41 42 (0) := Or.inl ⟨0, ⟨rfl, rfl⟩, by decide⟩
theorem t170_42 : xt zt170 42 43 (.istore_n 1) := ⟨rfl, rfl⟩
theorem t170_43 : xt zt170 43 44 (.aload_n 0) := ⟨rfl, rfl⟩
theorem t170_44 : xtf zt170 11 44 47 (.getfield 220) 220 11 28 1 := ⟨rfl, rfl, rfl, rfl⟩
theorem t170_47 : xtb zt170 47 50 60 (.ifCond .ne 13) (13) := ⟨rfl, rfl, rfl⟩
theorem t170_50 : xt zt170 50 51 (.iload_n 1) := ⟨rfl, rfl⟩
theorem t170_51 : xtk zt170 51 52 (-1) := Or.inl ⟨-1, ⟨rfl, rfl⟩, by decide⟩
theorem t170_52 : xtb zt170 52 55 60 (.if_icmp .ne 8) (8) := ⟨rfl, rfl, rfl⟩
theorem t170_55 : xt zt170 55 56 (.aload_n 0) := ⟨rfl, rfl⟩
theorem t170_56 : xtk zt170 56 57 (4) := Or.inl ⟨4, ⟨rfl, rfl⟩, by decide⟩
theorem t170_57 : xtc zt170 11 57 60 (.invokevirtual 229) 229 1 158 1 := ⟨rfl, rfl, rfl⟩
theorem t170_60 : xt zt170 60 61 (.aload_n 0) := ⟨rfl, rfl⟩
theorem t170_61 : xtc zt170 11 61 64 (.invokevirtual 273) 273 1 161 0 := ⟨rfl, rfl, rfl⟩
theorem t170_64 : xt zt170 64 65 (.aload_n 0) := ⟨rfl, rfl⟩
theorem t170_65 : xtf zt170 11 65 68 (.getfield 220) 220 11 28 1 := ⟨rfl, rfl, rfl, rfl⟩
theorem t170_68 : xtb zt170 68 71 114 (.ifCond .ne 46) (46) := ⟨rfl, rfl, rfl⟩
theorem t170_71 : xt zt170 71 72 (.aload_n 0) := ⟨rfl, rfl⟩
theorem t170_72 : xtf zt170 11 72 75 (.getfield 185) 185 11 26 1 := ⟨rfl, rfl, rfl, rfl⟩
theorem t170_75 : xtk zt170 75 76 (2) := Or.inl ⟨2, ⟨rfl, rfl⟩, by decide⟩
theorem t170_76 : xtb zt170 76 79 114 (.if_icmp .ne 38) (38) := ⟨rfl, rfl, rfl⟩
theorem t170_79 : xt zt170 79 80 (.aload_n 0) := ⟨rfl, rfl⟩
theorem t170_80 : xtf zt170 11 80 83 (.getfield 195) 195 11 27 1 := ⟨rfl, rfl, rfl, rfl⟩
theorem t170_83 : xtk zt170 83 85 (60) := Or.inr (Or.inl ⟨60, ⟨rfl, rfl⟩, by decide⟩)
theorem t170_85 : xtb zt170 85 88 114 (.if_icmp .gt 29) (29) := ⟨rfl, rfl, rfl⟩
theorem t170_88 : xt zt170 88 89 (.aload_n 0) := ⟨rfl, rfl⟩
theorem t170_89 : xtf zt170 11 89 92 (.getfield 40) 40 11 12 3 := ⟨rfl, rfl, rfl, rfl⟩
theorem t170_92 : xtk zt170 92 94 (6) := Or.inr (Or.inl ⟨6, ⟨rfl, rfl⟩, by decide⟩)
theorem t170_94 : xt zt170 94 95 (.iload_n 1) := ⟨rfl, rfl⟩
theorem t170_95 : xt zt170 95 96 .iadd := ⟨rfl, rfl⟩
theorem t170_96 : xt zt170 96 97 .laload := ⟨rfl, rfl⟩
theorem t170_97 : xt zt170 97 98 (.aload_n 0) := ⟨rfl, rfl⟩
theorem t170_98 : xtf zt170 11 98 101 (.getfield 195) 195 11 27 1 := ⟨rfl, rfl, rfl, rfl⟩
theorem t170_101 : xt zt170 101 102 .lshr := ⟨rfl, rfl⟩
theorem t170_102 : xt zt170 102 103 (.lconst 1) := ⟨rfl, rfl⟩
theorem t170_103 : xt zt170 103 104 .land := ⟨rfl, rfl⟩
theorem t170_104 : xt zt170 104 105 (.lconst 1) := ⟨rfl, rfl⟩
theorem t170_105 : xt zt170 105 106 .lcmp := ⟨rfl, rfl⟩
theorem t170_106 : xtb zt170 106 109 114 (.ifCond .ne 8) (8) := ⟨rfl, rfl, rfl⟩
theorem t170_109 : xt zt170 109 110 (.aload_n 0) := ⟨rfl, rfl⟩
theorem t170_110 : xtk zt170 110 111 (3) := Or.inl ⟨3, ⟨rfl, rfl⟩, by decide⟩
theorem t170_111 : xtc zt170 11 111 114 (.invokevirtual 229) 229 1 158 1 := ⟨rfl, rfl, rfl⟩
theorem t170_114 : xt zt170 114 115 (.aload_n 0) := ⟨rfl, rfl⟩
theorem t170_115 : xtk zt170 115 116 (0) := Or.inl ⟨0, ⟨rfl, rfl⟩, by decide⟩
theorem t170_116 : xtk zt170 116 118 (60) := Or.inr (Or.inl ⟨60, ⟨rfl, rfl⟩, by decide⟩)
theorem t170_118 : xtc zt170 11 118 121 (.invokevirtual 249) 249 1 162 2 := ⟨rfl, rfl, rfl⟩
theorem t170_121 : xt zt170 121 122 (.istore_n 2) := ⟨rfl, rfl⟩
theorem t170_122 : xt zt170 122 123 (.aload_n 0) := ⟨rfl, rfl⟩
theorem t170_123 : xtf zt170 11 123 126 (.getfield 220) 220 11 28 1 := ⟨rfl, rfl, rfl, rfl⟩
theorem t170_126 : xtb zt170 126 129 130 (.ifCond .eq 4) (4) := ⟨rfl, rfl, rfl⟩
theorem t170_129 : xt zt170 129 130 .return_ := ⟨rfl, rfl⟩
theorem t170_130 : xt zt170 130 131 (.aload_n 0) := ⟨rfl, rfl⟩
theorem t170_131 : xtf zt170 11 131 134 (.getfield 40) 40 11 12 3 := ⟨rfl, rfl, rfl, rfl⟩
theorem t170_134 : xtk zt170 134 136 (6) := Or.inr (Or.inl ⟨6, ⟨rfl, rfl⟩, by decide⟩)
theorem t170_136 : xt zt170 136 137 (.iload_n 1) := ⟨rfl, rfl⟩
theorem t170_137 : xt zt170 137 138 .iadd := ⟨rfl, rfl⟩
theorem t170_138 : xt zt170 138 139 .dup2 := ⟨rfl, rfl⟩
theorem t170_139 : xt zt170 139 140 .laload := ⟨rfl, rfl⟩
theorem t170_140 : xt zt170 140 141 (.lconst 1) := ⟨rfl, rfl⟩
theorem t170_141 : xt zt170 141 142 (.iload_n 2) := ⟨rfl, rfl⟩
theorem t170_142 : xt zt170 142 143 .lshl := ⟨rfl, rfl⟩
theorem t170_143 : xt zt170 143 144 .lor := ⟨rfl, rfl⟩
theorem t170_144 : xt zt170 144 145 .lastore := ⟨rfl, rfl⟩
theorem t170_145 : xt zt170 145 146 (.aload_n 0) := ⟨rfl, rfl⟩
theorem t170_146 : xtk zt170 146 147 (3) := Or.inl ⟨3, ⟨rfl, rfl⟩, by decide⟩
theorem t170_147 : xt zt170 147 148 (.aload_n 0) := ⟨rfl, rfl⟩
theorem t170_148 : xtk zt170 148 149 (3) := Or.inl ⟨3, ⟨rfl, rfl⟩, by decide⟩
theorem t170_149 : xtc zt170 11 149 152 (.invokevirtual 236) 236 1 165 1 := ⟨rfl, rfl, rfl⟩
theorem t170_152 : xtk zt170 152 153 (1) := Or.inl ⟨1, ⟨rfl, rfl⟩, by decide⟩
theorem t170_153 : xt zt170 153 154 .iadd := ⟨rfl, rfl⟩
theorem t170_154 : xtc zt170 11 154 157 (.invokevirtual 253) 253 1 166 2 := ⟨rfl, rfl, rfl⟩
theorem t170_157 : xt zt170 157 158 .return_ := ⟨rfl, rfl⟩
theorem t171_0 : xt zt171 0 1 (.aload_n 0) := ⟨rfl, rfl⟩
theorem t171_1 : xtf zt171 11 1 4 (.getfield 185) 185 11 26 1 := ⟨rfl, rfl, rfl, rfl⟩
theorem t171_4 : xtb zt171 4 7 25 (.ifCond .ne 21) (21) := ⟨rfl, rfl, rfl⟩
theorem t171_7 : xt zt171 7 8 (.aload_n 0) := ⟨rfl, rfl⟩
theorem t171_8 : xtf zt171 11 8 11 (.getfield 195) 195 11 27 1 := ⟨rfl, rfl, rfl, rfl⟩
theorem t171_11 : xtk zt171 11 13 (9) := Or.inr (Or.inl ⟨9, ⟨rfl, rfl⟩, by decide⟩)
theorem t171_13 : xtb zt171 13 16 25 (.if_icmp .lt 12) (12) := ⟨rfl, rfl, rfl⟩
theorem t171_16 : xt zt171 16 17 (.aload_n 0) := ⟨rfl, rfl⟩
theorem t171_17 : xtf zt171 11 17 20 (.getfield 195) 195 11 27 1 := ⟨rfl, rfl, rfl, rfl⟩
theorem t171_20 : xtk zt171 20 22 (11) := Or.inr (Or.inl ⟨11, ⟨rfl, rfl⟩, by decide⟩)
theorem t171_22 : xtb zt171 22 25 30 (.if_icmp .le 8) (8) := ⟨rfl, rfl, rfl⟩
theorem t171_25 : xt zt171 25 26 (.aload_n 0) := ⟨rfl, rfl⟩
theorem t171_26 : xtk zt171 26 27 (1) := Or.inl ⟨1, ⟨rfl, rfl⟩, by decide⟩
theorem t171_27 : xtc zt171 11 27 30 (.invokevirtual 229) 229 1 158 1 := ⟨rfl, rfl, rfl⟩
theorem t171_30 : xt zt171 30 31 (.aload_n 0) := ⟨rfl, rfl⟩
theorem t171_31 : xtf zt171 11 31 34 (.getfield 195) 195 11 27 1 := ⟨rfl, rfl, rfl, rfl⟩
theorem t171_34 : xtk zt171 34 36 (9) := Or.inr (Or.inl ⟨9, ⟨rfl, rfl⟩, by decide⟩)
theorem t171_36 : xt zt171 36 37 .isub := ⟨rfl, rfl⟩
theorem t171_37 : xt zt171 37 38 (.istore_n 1) := ⟨rfl, rfl⟩
theorem t171_38 : xt zt171 38 39 (.aload_n 0) := ⟨rfl, rfl⟩
theorem t171_39 : xtf zt171 11 39 42 (.getfield 220) 220 11 28 1 := ⟨rfl, rfl, rfl, rfl⟩
theorem t171_42 : xtb zt171 42 45 65 (.ifCond .ne 23) (23) := ⟨rfl, rfl, rfl⟩
theorem t171_45 : xt zt171 45 46 (.aload_n 0) := ⟨rfl, rfl⟩
theorem t171_46 : xtf zt171 11 46 49 (.getfield 246) 246 11 21 1 := ⟨rfl, rfl, rfl, rfl⟩
theorem t171_49 : xtk zt171 49 51 (16) := Or.inr (Or.inl ⟨16, ⟨rfl, rfl⟩, by decide⟩)
theorem t171_51 : xt zt171 51 52 (.iload_n 1) := ⟨rfl, rfl⟩
theorem t171_52 : xt zt171 52 53 .iadd := ⟨rfl, rfl⟩
theorem t171_53 : xt zt171 53 54 .ishr := ⟨rfl, rfl⟩
theorem t171_54 : xtk zt171 54 55 (1) := Or.inl ⟨1, ⟨rfl, rfl⟩, by decide⟩
theorem t171_55 : xt zt171 55 56 .iand := ⟨rfl, rfl⟩
theorem t171_56 : xtk zt171 56 57 (1) := Or.inl ⟨1, ⟨rfl, rfl⟩, by decide⟩
theorem t171_57 : xtb zt171 57 60 65 (.if_icmp .ne 8) (8) := ⟨rfl, rfl, rfl⟩
theorem t171_60 : xt zt171 60 61 (.aload_n 0) := ⟨rfl, rfl⟩
theorem t171_61 : xtk zt171 61 62 (3) := Or.inl ⟨3, ⟨rfl, rfl⟩, by decide⟩
theorem t171_62 : xtc zt171 11 62 65 (.invokevirtual 229) 229 1 158 1 := ⟨rfl, rfl, rfl⟩
theorem t171_65 : xt zt171 65 66 (.aload_n 0) := ⟨rfl, rfl⟩
theorem t171_66 : xtf zt171 11 66 69 (.getfield 220) 220 11 28 1 := ⟨rfl, rfl, rfl, rfl⟩
theorem t171_69 : xtb zt171 69 72 73 (.ifCond .eq 4) (4) := ⟨rfl, rfl, rfl⟩
theorem t171_72 : xt zt171 72 73 .return_ := ⟨rfl, rfl⟩
theorem t171_73 : xt zt171 73 74 (.aload_n 0) := ⟨rfl, rfl⟩
theorem t171_74 : xt zt171 74 75 .dup := ⟨rfl, rfl⟩
theorem t171_75 : xtf zt171 11 75 78 (.getfield 246) 246 11 21 1 := ⟨rfl, rfl, rfl, rfl⟩
theorem t171_78 : xtk zt171 78 79 (1) := Or.inl ⟨1, ⟨rfl, rfl⟩, by decide⟩
theorem t171_79 : xtk zt171 79 81 (16) := Or.inr (Or.inl ⟨16, ⟨rfl, rfl⟩, by decide⟩)
theorem t171_81 : xt zt171 81 82 (.iload_n 1) := ⟨rfl, rfl⟩
theorem t171_82 : xt zt171 82 83 .iadd := ⟨rfl, rfl⟩
theorem t171_83 : xt zt171 83 84 .ishl := ⟨rfl, rfl⟩
theorem t171_84 : xt zt171 84 85 .ior := ⟨rfl, rfl⟩
theorem t171_85 : xtf zt171 11 85 88 (.putfield 246) 246 11 21 1 := ⟨rfl, rfl, rfl, rfl⟩
theorem t171_88 : xt zt171 88 89 (.aload_n 0) := ⟨rfl, rfl⟩
theorem t171_89 : xtc zt171 11 89 92 (.invokevirtual 226) 226 1 154 0 := ⟨rfl, rfl, rfl⟩
theorem t171_92 : xt zt171 92 93 (.aload_n 0) := ⟨rfl, rfl⟩
theorem t171_93 : xtf zt171 11 93 96 (.getfield 56) 56 11 17 3 := ⟨rfl, rfl, rfl, rfl⟩
theorem t171_96 : xtk zt171 96 97 (3) := Or.inl ⟨3, ⟨rfl, rfl⟩, by decide⟩
theorem t171_97 : xt zt171 97 98 (.iload_n 1) := ⟨rfl, rfl⟩
theorem t171_98 : xt zt171 98 99 .iadd := ⟨rfl, rfl⟩
theorem t171_99 : xt zt171 99 100 (.aload_n 0) := ⟨rfl, rfl⟩
theorem t171_100 : xtk zt171 100 102 (8) := Or.inr (Or.inl ⟨8, ⟨rfl, rfl⟩, by decide⟩)
theorem t171_102 : xtc zt171 11 102 105 (.invokevirtual 236) 236 1 165 1 := ⟨rfl, rfl, rfl⟩
theorem t171_105 : xt zt171 105 106 .iastore := ⟨rfl, rfl⟩
theorem t171_106 : xt zt171 106 107 (.aload_n 0) := ⟨rfl, rfl⟩
theorem t171_107 : xtc zt171 11 107 110 (.invokevirtual 276) 276 1 174 0 := ⟨rfl, rfl, rfl⟩
theorem t171_110 : xt zt171 110 111 (.aload_n 0) := ⟨rfl, rfl⟩
theorem t171_111 : xtf zt171 11 111 114 (.getfield 59) 59 11 18 3 := ⟨rfl, rfl, rfl, rfl⟩
theorem t171_114 : xtk zt171 114 115 (3) := Or.inl ⟨3, ⟨rfl, rfl⟩, by decide⟩
theorem t171_115 : xt zt171 115 116 (.iload_n 1) := ⟨rfl, rfl⟩
theorem t171_116 : xt zt171 116 117 .iadd := ⟨rfl, rfl⟩
theorem t171_117 : xt zt171 117 118 (.aload_n 0) := ⟨rfl, rfl⟩
theorem t171_118 : xtk zt171 118 120 (8) := Or.inr (Or.inl ⟨8, ⟨rfl, rfl⟩, by decide⟩)
theorem t171_120 : xtc zt171 11 120 123 (.invokevirtual 236) 236 1 165 1 := ⟨rfl, rfl, rfl⟩
theorem t171_123 : xt zt171 123 124 .iastore := ⟨rfl, rfl⟩
theorem t171_124 : xt zt171 124 125 .return_ := ⟨rfl, rfl⟩
theorem t172_0 : xt zt172 0 1 (.aload_n 0) := ⟨rfl, rfl⟩
theorem t172_1 : xtf zt172 11 1 4 (.getfield 220) 220 11 28 1 := ⟨rfl, rfl, rfl, rfl⟩
theorem t172_4 : xtb zt172 4 7 8 (.ifCond .eq 4) (4) := ⟨rfl, rfl, rfl⟩
theorem t172_7 : xt zt172 7 8 .return_ := ⟨rfl, rfl⟩
theorem t172_8 : xt zt172 8 9 (.aload_n 0) := ⟨rfl, rfl⟩
theorem t172_9 : xtf zt172 11 9 12 (.getfield 62) 62 11 19 3 := ⟨rfl, rfl, rfl, rfl⟩
theorem t172_12 : xtk zt172 12 14 (64) := Or.inr (Or.inl ⟨64, ⟨rfl, rfl⟩, by decide⟩)
theorem t172_14 : xt zt172 14 15 (.aload_n 0) := ⟨rfl, rfl⟩
theorem t172_15 : xtk zt172 15 17 (8) := Or.inr (Or.inl ⟨8, ⟨rfl, rfl⟩, by decide⟩)
theorem t172_17 : xtc zt172 11 17 20 (.invokevirtual 236) 236 1 165 1 := ⟨rfl, rfl, rfl⟩
theorem t172_20 : xt zt172 20 21 .iadd := ⟨rfl, rfl⟩
theorem t172_21 : xt zt172 21 22 (.iload_n 1) := ⟨rfl, rfl⟩
theorem t172_22 : xt zt172 22 23 .iastore := ⟨rfl, rfl⟩
theorem t172_23 : xt zt172 23 24 (.aload_n 0) := ⟨rfl, rfl⟩
theorem t172_24 : xtf zt172 11 24 27 (.getfield 65) 65 11 20 3 := ⟨rfl, rfl, rfl, rfl⟩
theorem t172_27 : xtk zt172 27 29 (64) := Or.inr (Or.inl ⟨64, ⟨rfl, rfl⟩, by decide⟩)
theorem t172_29 : xt zt172 29 30 (.aload_n 0) := ⟨rfl, rfl⟩
theorem t172_30 : xtk zt172 30 32 (8) := Or.inr (Or.inl ⟨8, ⟨rfl, rfl⟩, by decide⟩)
theorem t172_32 : xtc zt172 11 32 35 (.invokevirtual 236) 236 1 165 1 := ⟨rfl, rfl, rfl⟩
theorem t172_35 : xt zt172 35 36 .iadd := ⟨rfl, rfl⟩
theorem t172_36 : xt zt172 36 37 (.iload_n 2) := ⟨rfl, rfl⟩
theorem t172_37 : xt zt172 37 38 .iastore := ⟨rfl, rfl⟩
theorem t172_38 : xt zt172 38 39 (.aload_n 0) := ⟨rfl, rfl⟩
theorem t172_39 : xtk zt172 39 41 (8) := Or.inr (Or.inl ⟨8, ⟨rfl, rfl⟩, by decide⟩)
theorem t172_41 : xt zt172 41 42 (.aload_n 0) := ⟨rfl, rfl⟩
theorem t172_42 : xtk zt172 42 44 (8) := Or.inr (Or.inl ⟨8, ⟨rfl, rfl⟩, by decide⟩)
theorem t172_44 : xtc zt172 11 44 47 (.invokevirtual 236) 236 1 165 1 := ⟨rfl, rfl, rfl⟩
theorem t172_47 : xtk zt172 47 48 (1) := Or.inl ⟨1, ⟨rfl, rfl⟩, by decide⟩
theorem t172_48 : xt zt172 48 49 .iadd := ⟨rfl, rfl⟩
theorem t172_49 : xtc zt172 11 49 52 (.invokevirtual 253) 253 1 166 2 := ⟨rfl, rfl, rfl⟩
theorem t172_52 : xt zt172 52 53 .return_ := ⟨rfl, rfl⟩
theorem t173_0 : xt zt173 0 1 (.aload_n 0) := ⟨rfl, rfl⟩
theorem t173_1 : xtf zt173 11 1 4 (.getfield 220) 220 11 28 1 := ⟨rfl, rfl, rfl, rfl⟩
theorem t173_4 : xtb zt173 4 7 8 (.ifCond .eq 4) (4) := ⟨rfl, rfl, rfl⟩
theorem t173_7 : xt zt173 7 8 .return_ := ⟨rfl, rfl⟩
theorem t173_8 : xt zt173 8 9 (.aload_n 0) := ⟨rfl, rfl⟩
theorem t173_9 : xtf zt173 11 9 12 (.getfield 279) 279 11 33 1 := ⟨rfl, rfl, rfl, rfl⟩
theorem t173_12 : xtk zt173 12 14 (64) := Or.inr (Or.inl ⟨64, ⟨rfl, rfl⟩, by decide⟩)
theorem t173_14 : xtb zt173 14 17 25 (.if_icmp .ne 11) (11) := ⟨rfl, rfl, rfl⟩
theorem t173_17 : xt zt173 17 18 (.aload_n 0) := ⟨rfl, rfl⟩
theorem t173_18 : xtk zt173 18 19 (2) := Or.inl ⟨2, ⟨rfl, rfl⟩, by decide⟩
theorem t173_19 : xtc zt173 11 19 22 (.invokevirtual 229) 229 1 158 1 := ⟨rfl, rfl, rfl⟩
theorem t173_22 : xtb zt173 22 25 35 (.goto 13) (13) := ⟨rfl, rfl, rfl⟩
theorem t173_25 : xt zt173 25 26 (.aload_n 0) := ⟨rfl, rfl⟩
theorem t173_26 : xt zt173 26 27 .dup := ⟨rfl, rfl⟩
theorem t173_27 : xtf zt173 11 27 30 (.getfield 279) 279 11 33 1 := ⟨rfl, rfl, rfl, rfl⟩
theorem t173_30 : xtk zt173 30 31 (1) := Or.inl ⟨1, ⟨rfl, rfl⟩, by decide⟩
theorem t173_31 : xt zt173 31 32 .iadd := ⟨rfl, rfl⟩
theorem t173_32 : xtf zt173 11 32 35 (.putfield 279) 279 11 33 1 := ⟨rfl, rfl, rfl, rfl⟩
theorem t173_35 : xt zt173 35 36 .return_ := ⟨rfl, rfl⟩
theorem t174_0 : xt zt174 0 1 (.aload_n 0) := ⟨rfl, rfl⟩
theorem t174_1 : xtc zt174 11 1 4 (.invokevirtual 282) 282 1 175 0 := ⟨rfl, rfl, rfl⟩
theorem t174_4 : xt zt174 4 5 (.aload_n 0) := ⟨rfl, rfl⟩
theorem t174_5 : xtk zt174 5 7 (12) := Or.inr (Or.inl ⟨12, ⟨rfl, rfl⟩, by decide⟩)
theorem t174_7 : xtc zt174 11 7 10 (.invokevirtual 285) 285 1 159 1 := ⟨rfl, rfl, rfl⟩
theorem t174_10 : xtb zt174 10 13 36 (.ifCond .eq 26) (26) := ⟨rfl, rfl, rfl⟩
theorem t174_13 : xt zt174 13 14 (.aload_n 0) := ⟨rfl, rfl⟩
theorem t174_14 : xtc zt174 11 14 17 (.invokevirtual 288) 288 1 173 0 := ⟨rfl, rfl, rfl⟩
theorem t174_17 : xt zt174 17 18 (.aload_n 0) := ⟨rfl, rfl⟩
theorem t174_18 : xtc zt174 11 18 21 (.invokevirtual 273) 273 1 161 0 := ⟨rfl, rfl, rfl⟩
theorem t174_21 : xt zt174 21 22 (.aload_n 0) := ⟨rfl, rfl⟩
theorem t174_22 : xtc zt174 11 22 25 (.invokevirtual 282) 282 1 175 0 := ⟨rfl, rfl, rfl⟩
theorem t174_25 : xt zt174 25 26 (.aload_n 0) := ⟨rfl, rfl⟩
theorem t174_26 : xtk zt174 26 27 (2) := Or.inl ⟨2, ⟨rfl, rfl⟩, by decide⟩
theorem t174_27 : xtk zt174 27 30 (262) := Or.inr (Or.inr ⟨262, ⟨rfl, rfl⟩, by decide⟩)
theorem t174_30 : xtc zt174 11 30 33 (.invokevirtual 291) 291 1 172 2 := ⟨rfl, rfl, rfl⟩
theorem t174_33 : xtb zt174 33 36 4 (.goto (-29)) (-29) := ⟨rfl, rfl, rfl⟩
theorem t174_36 : xt zt174 36 37 .return_ := ⟨rfl, rfl⟩
theorem t175_0 : xt zt175 0 1 (.aload_n 0) := ⟨rfl, rfl⟩
theorem t175_1 : xtc zt175 11 1 4 (.invokevirtual 294) 294 1 176 0 := ⟨rfl, rfl, rfl⟩
theorem t175_4 : xt zt175 4 5 (.aload_n 0) := ⟨rfl, rfl⟩
theorem t175_5 : xtk zt175 5 7 (13) := Or.inr (Or.inl ⟨13, ⟨rfl, rfl⟩, by decide⟩)
theorem t175_7 : xtc zt175 11 7 10 (.invokevirtual 285) 285 1 159 1 := ⟨rfl, rfl, rfl⟩
theorem t175_10 : xtb zt175 10 13 36 (.ifCond .eq 26) (26) := ⟨rfl, rfl, rfl⟩
theorem t175_13 : xt zt175 13 14 (.aload_n 0) := ⟨rfl, rfl⟩
theorem t175_14 : xtc zt175 11 14 17 (.invokevirtual 288) 288 1 173 0 := ⟨rfl, rfl, rfl⟩
theorem t175_17 : xt zt175 17 18 (.aload_n 0) := ⟨rfl, rfl⟩
theorem t175_18 : xtc zt175 11 18 21 (.invokevirtual 273) 273 1 161 0 := ⟨rfl, rfl, rfl⟩
theorem t175_21 : xt zt175 21 22 (.aload_n 0) := ⟨rfl, rfl⟩
theorem t175_22 : xtc zt175 11 22 25 (.invokevirtual 294) 294 1 176 0 := ⟨rfl, rfl, rfl⟩
theorem t175_25 : xt zt175 25 26 (.aload_n 0) := ⟨rfl, rfl⟩
theorem t175_26 : xtk zt175 26 27 (2) := Or.inl ⟨2, ⟨rfl, rfl⟩, by decide⟩
theorem t175_27 : xtk zt175 27 30 (261) := Or.inr (Or.inr ⟨261, ⟨rfl, rfl⟩, by decide⟩)
theorem t175_30 : xtc zt175 11 30 33 (.invokevirtual 291) 291 1 172 2 := ⟨rfl, rfl, rfl⟩
theorem t175_33 : xtb zt175 33 36 4 (.goto (-29)) (-29) := ⟨rfl, rfl, rfl⟩
theorem t175_36 : xt zt175 36 37 .return_ := ⟨rfl, rfl⟩
theorem t176_0 : xt zt176 0 1 (.aload_n 0) := ⟨rfl, rfl⟩
theorem t176_1 : xtk zt176 1 3 (14) := Or.inr (Or.inl ⟨14, ⟨rfl, rfl⟩, by decide⟩)
theorem t176_3 : xtc zt176 11 3 6 (.invokevirtual 285) 285 1 159 1 := ⟨rfl, rfl, rfl⟩
theorem t176_6 : xtb zt176 6 9 30 (.ifCond .eq 24) (24) := ⟨rfl, rfl, rfl⟩
theorem t176_9 : xt zt176 9 10 (.aload_n 0) := ⟨rfl, rfl⟩
theorem t176_10 : xtc zt176 11 10 13 (.invokevirtual 288) 288 1 173 0 := ⟨rfl, rfl, rfl⟩
theorem t176_13 : xt zt176 13 14 (.aload_n 0) := ⟨rfl, rfl⟩
theorem t176_14 : xtc zt176 11 14 17 (.invokevirtual 273) 273 1 161 0 := ⟨rfl, rfl, rfl⟩
theorem t176_17 : xt zt176 17 18 (.aload_n 0) := ⟨rfl, rfl⟩
theorem t176_18 : xtc zt176 11 18 21 (.invokevirtual 294) 294 1 176 0 := ⟨rfl, rfl, rfl⟩
theorem t176_21 : xt zt176 21 22 (.aload_n 0) := ⟨rfl, rfl⟩
theorem t176_22 : xtk zt176 22 23 (2) := Or.inl ⟨2, ⟨rfl, rfl⟩, by decide⟩
theorem t176_23 : xtk zt176 23 26 (260) := Or.inr (Or.inr ⟨260, ⟨rfl, rfl⟩, by decide⟩)
theorem t176_26 : xtc zt176 11 26 29 (.invokevirtual 291) 291 1 172 2 := ⟨rfl, rfl, rfl⟩
theorem t176_29 : xt zt176 29 30 .return_ := ⟨rfl, rfl⟩
theorem t176_30 : xt zt176 30 31 (.aload_n 0) := ⟨rfl, rfl⟩
theorem t176_31 : xtc zt176 11 31 34 (.invokevirtual 297) 297 1 177 0 := ⟨rfl, rfl, rfl⟩
theorem t176_34 : xt zt176 34 35 (.aload_n 0) := ⟨rfl, rfl⟩
theorem t176_35 : xtf zt176 11 35 38 (.getfield 220) 220 11 28 1 := ⟨rfl, rfl, rfl, rfl⟩
theorem t176_38 : xtb zt176 38 41 86 (.ifCond .ne 48) (48) := ⟨rfl, rfl, rfl⟩
theorem t176_41 : xt zt176 41 42 (.aload_n 0) := ⟨rfl, rfl⟩
theorem t176_42 : xtf zt176 11 42 45 (.getfield 185) 185 11 26 1 := ⟨rfl, rfl, rfl, rfl⟩
theorem t176_45 : xtk zt176 45 46 (3) := Or.inl ⟨3, ⟨rfl, rfl⟩, by decide⟩
theorem t176_46 : xtb zt176 46 49 86 (.if_icmp .ne 40) (40) := ⟨rfl, rfl, rfl⟩
theorem t176_49 : xt zt176 49 50 (.aload_n 0) := ⟨rfl, rfl⟩
theorem t176_50 : xtf zt176 11 50 53 (.getfield 195) 195 11 27 1 := ⟨rfl, rfl, rfl, rfl⟩
theorem t176_53 : xtk zt176 53 55 (60) := Or.inr (Or.inl ⟨60, ⟨rfl, rfl⟩, by decide⟩)
theorem t176_55 : xtb zt176 55 58 87 (.if_icmp .eq 32) (32) := ⟨rfl, rfl, rfl⟩
theorem t176_58 : xt zt176 58 59 (.aload_n 0) := ⟨rfl, rfl⟩
theorem t176_59 : xtf zt176 11 59 62 (.getfield 195) 195 11 27 1 := ⟨rfl, rfl, rfl, rfl⟩
theorem t176_62 : xtk zt176 62 64 (62) := Or.inr (Or.inl ⟨62, ⟨rfl, rfl⟩, by decide⟩)
theorem t176_64 : xtb zt176 64 67 87 (.if_icmp .eq 23) (23) := ⟨rfl, rfl, rfl⟩
theorem t176_67 : xt zt176 67 68 (.aload_n 0) := ⟨rfl, rfl⟩
theorem t176_68 : xtf zt176 11 68 71 (.getfield 195) 195 11 27 1 := ⟨rfl, rfl, rfl, rfl⟩
theorem t176_71 : xtk zt176 71 73 (61) := Or.inr (Or.inl ⟨61, ⟨rfl, rfl⟩, by decide⟩)
theorem t176_73 : xtb zt176 73 76 87 (.if_icmp .eq 14) (14) := ⟨rfl, rfl, rfl⟩
theorem t176_76 : xt zt176 76 77 (.aload_n 0) := ⟨rfl, rfl⟩
theorem t176_77 : xtf zt176 11 77 80 (.getfield 195) 195 11 27 1 := ⟨rfl, rfl, rfl, rfl⟩
theorem t176_80 : xtk zt176 80 83 (256) := Or.inr (Or.inr ⟨256, ⟨rfl, rfl⟩, by decide⟩)
theorem t176_83 : xtb zt176 83 86 87 (.if_icmp .ge 4) (4) := ⟨rfl, rfl, rfl⟩
theorem t176_86 : xt zt176 86 87 .return_ := ⟨rfl, rfl⟩
theorem t176_87 : xt zt176 87 88 (.aload_n 0) := ⟨rfl, rfl⟩
theorem t176_88 : xtf zt176 11 88 91 (.getfield 195) 195 11 27 1 := ⟨rfl, rfl, rfl, rfl⟩
theorem t176_91 : xt zt176 91 92 (.istore_n 1) := ⟨rfl, rfl⟩
theorem t176_92 : xt zt176 92 93 (.aload_n 0) := ⟨rfl, rfl⟩
theorem t176_93 : xtc zt176 11 93 96 (.invokevirtual 288) 288 1 173 0 := ⟨rfl, rfl, rfl⟩
theorem t176_96 : xt zt176 96 97 (.aload_n 0) := ⟨rfl, rfl⟩
theorem t176_97 : xtc zt176 11 97 100 (.invokevirtual 273) 273 1 161 0 := ⟨rfl, rfl, rfl⟩
theorem t176_100 : xt zt176 100 101 (.aload_n 0) := ⟨rfl, rfl⟩
theorem t176_101 : xtc zt176 11 101 104 (.invokevirtual 297) 297 1 177 0 := ⟨rfl, rfl, rfl⟩
theorem t176_104 : xt zt176 104 105 (.aload_n 0) := ⟨rfl, rfl⟩
theorem t176_105 : xtk zt176 105 106 (2) := Or.inl ⟨2, ⟨rfl, rfl⟩, by decide⟩
theorem t176_106 : xt zt176 106 107 (.iload_n 1) := ⟨rfl, rfl⟩
theorem t176_107 : xtc zt176 11 107 110 (.invokevirtual 291) 291 1 172 2 := ⟨rfl, rfl, rfl⟩
theorem t176_110 : xt zt176 110 111 .return_ := ⟨rfl, rfl⟩
theorem t177_0 : xt zt177 0 1 (.aload_n 0) := ⟨rfl, rfl⟩
theorem t177_1 : xtc zt177 11 1 4 (.invokevirtual 300) 300 1 178 0 := ⟨rfl, rfl, rfl⟩
theorem t177_4 : xt zt177 4 5 (.aload_n 0) := ⟨rfl, rfl⟩
theorem t177_5 : xtk zt177 5 7 (43) := Or.inr (Or.inl ⟨43, ⟨rfl, rfl⟩, by decide⟩)
theorem t177_7 : xtc zt177 11 7 10 (.invokevirtual 267) 267 1 160 1 := ⟨rfl, rfl, rfl⟩
theorem t177_10 : xtb zt177 10 13 22 (.ifCond .ne 12) (12) := ⟨rfl, rfl, rfl⟩
theorem t177_13 : xt zt177 13 14 (.aload_n 0) := ⟨rfl, rfl⟩
theorem t177_14 : xtk zt177 14 16 (45) := Or.inr (Or.inl ⟨45, ⟨rfl, rfl⟩, by decide⟩)
theorem t177_16 : xtc zt177 11 16 19 (.invokevirtual 267) 267 1 160 1 := ⟨rfl, rfl, rfl⟩
theorem t177_19 : xtb zt177 19 22 48 (.ifCond .eq 29) (29) := ⟨rfl, rfl, rfl⟩
theorem t177_22 : xt zt177 22 23 (.aload_n 0) := ⟨rfl, rfl⟩
theorem t177_23 : xtf zt177 11 23 26 (.getfield 195) 195 11 27 1 := ⟨rfl, rfl, rfl, rfl⟩
theorem t177_26 : xt zt177 26 27 (.istore_n 1) := ⟨rfl, rfl⟩
theorem t177_27 : xt zt177 27 28 (.aload_n 0) := ⟨rfl, rfl⟩
theorem t177_28 : xtc zt177 11 28 31 (.invokevirtual 288) 288 1 173 0 := ⟨rfl, rfl, rfl⟩
theorem t177_31 : xt zt177 31 32 (.aload_n 0) := ⟨rfl, rfl⟩
theorem t177_32 : xtc zt177 11 32 35 (.invokevirtual 273) 273 1 161 0 := ⟨rfl, rfl, rfl⟩
theorem t177_35 : xt zt177 35 36 (.aload_n 0) := ⟨rfl, rfl⟩
theorem t177_36 : xtc zt177 11 36 39 (.invokevirtual 300) 300 1 178 0 := ⟨rfl, rfl, rfl⟩
theorem t177_39 : xt zt177 39 40 (.aload_n 0) := ⟨rfl, rfl⟩
theorem t177_40 : xtk zt177 40 41 (2) := Or.inl ⟨2, ⟨rfl, rfl⟩, by decide⟩
theorem t177_41 : xt zt177 41 42 (.iload_n 1) := ⟨rfl, rfl⟩
theorem t177_42 : xtc zt177 11 42 45 (.invokevirtual 291) 291 1 172 2 := ⟨rfl, rfl, rfl⟩
theorem t177_45 : xtb zt177 45 48 4 (.goto (-41)) (-41) := ⟨rfl, rfl, rfl⟩
theorem t177_48 : xt zt177 48 49 .return_ := ⟨rfl, rfl⟩
theorem t178_0 : xt zt178 0 1 (.aload_n 0) := ⟨rfl, rfl⟩
theorem t178_1 : xtc zt178 11 1 4 (.invokevirtual 303) 303 1 179 0 := ⟨rfl, rfl, rfl⟩
theorem t178_4 : xt zt178 4 5 (.aload_n 0) := ⟨rfl, rfl⟩
theorem t178_5 : xtk zt178 5 7 (42) := Or.inr (Or.inl ⟨42, ⟨rfl, rfl⟩, by decide⟩)
theorem t178_7 : xtc zt178 11 7 10 (.invokevirtual 267) 267 1 160 1 := ⟨rfl, rfl, rfl⟩
theorem t178_10 : xtb zt178 10 13 22 (.ifCond .ne 12) (12) := ⟨rfl, rfl, rfl⟩
theorem t178_13 : xt zt178 13 14 (.aload_n 0) := ⟨rfl, rfl⟩
theorem t178_14 : xtk zt178 14 16 (47) := Or.inr (Or.inl ⟨47, ⟨rfl, rfl⟩, by decide⟩)
theorem t178_16 : xtc zt178 11 16 19 (.invokevirtual 267) 267 1 160 1 := ⟨rfl, rfl, rfl⟩
theorem t178_19 : xtb zt178 19 22 48 (.ifCond .eq 29) (29) := ⟨rfl, rfl, rfl⟩
theorem t178_22 : xt zt178 22 23 (.aload_n 0) := ⟨rfl, rfl⟩
theorem t178_23 : xtf zt178 11 23 26 (.getfield 195) 195 11 27 1 := ⟨rfl, rfl, rfl, rfl⟩
theorem t178_26 : xt zt178 26 27 (.istore_n 1) := ⟨rfl, rfl⟩
theorem t178_27 : xt zt178 27 28 (.aload_n 0) := ⟨rfl, rfl⟩
theorem t178_28 : xtc zt178 11 28 31 (.invokevirtual 288) 288 1 173 0 := ⟨rfl, rfl, rfl⟩
theorem t178_31 : xt zt178 31 32 (.aload_n 0) := ⟨rfl, rfl⟩
theorem t178_32 : xtc zt178 11 32 35 (.invokevirtual 273) 273 1 161 0 := ⟨rfl, rfl, rfl⟩
theorem t178_35 : xt zt178 35 36 (.aload_n 0) := ⟨rfl, rfl⟩
theorem t178_36 : xtc zt178 11 36 39 (.invokevirtual 303) 303 1 179 0 := ⟨rfl, rfl, rfl⟩
theorem t178_39 : xt zt178 39 40 (.aload_n 0) := ⟨rfl, rfl⟩
theorem t178_40 : xtk zt178 40 41 (2) := Or.inl ⟨2, ⟨rfl, rfl⟩, by decide⟩
theorem t178_41 : xt zt178 41 42 (.iload_n 1) := ⟨rfl, rfl⟩
theorem t178_42 : xtc zt178 11 42 45 (.invokevirtual 291) 291 1 172 2 := ⟨rfl, rfl, rfl⟩
theorem t178_45 : xtb zt178 45 48 4 (.goto (-41)) (-41) := ⟨rfl, rfl, rfl⟩
theorem t178_48 : xt zt178 48 49 .return_ := ⟨rfl, rfl⟩
theorem t179_0 : xt zt179 0 1 (.aload_n 0) := ⟨rfl, rfl⟩
theorem t179_1 : xtf zt179 11 1 4 (.getfield 220) 220 11 28 1 := ⟨rfl, rfl, rfl, rfl⟩
theorem t179_4 : xtb zt179 4 7 8 (.ifCond .eq 4) (4) := ⟨rfl, rfl, rfl⟩
theorem t179_7 : xt zt179 7 8 .return_ := ⟨rfl, rfl⟩
theorem t179_8 : xt zt179 8 9 (.aload_n 0) := ⟨rfl, rfl⟩
theorem t179_9 : xtk zt179 9 11 (40) := Or.inr (Or.inl ⟨40, ⟨rfl, rfl⟩, by decide⟩)
theorem t179_11 : xtc zt179 11 11 14 (.invokevirtual 267) 267 1 160 1 := ⟨rfl, rfl, rfl⟩
theorem t179_14 : xtb zt179 14 17 101 (.ifCond .eq 87) (87) := ⟨rfl, rfl, rfl⟩
theorem t179_17 : xt zt179 17 18 (.aload_n 0) := ⟨rfl, rfl⟩
theorem t179_18 : xtf zt179 11 18 21 (.getfield 306) 306 11 32 1 := ⟨rfl, rfl, rfl, rfl⟩
theorem t179_21 : xtk zt179 21 23 (8) := Or.inr (Or.inl ⟨8, ⟨rfl, rfl⟩, by decide⟩)
theorem t179_23 : xtb zt179 23 26 31 (.if_icmp .ne 8) (8) := ⟨rfl, rfl, rfl⟩
theorem t179_26 : xt zt179 26 27 (.aload_n 0) := ⟨rfl, rfl⟩
theorem t179_27 : xtk zt179 27 28 (2) := Or.inl ⟨2, ⟨rfl, rfl⟩, by decide⟩
theorem t179_28 : xtc zt179 11 28 31 (.invokevirtual 229) 229 1 158 1 := ⟨rfl, rfl, rfl⟩
theorem t179_31 : xt zt179 31 32 (.aload_n 0) := ⟨rfl, rfl⟩
theorem t179_32 : xtf zt179 11 32 35 (.getfield 220) 220 11 28 1 := ⟨rfl, rfl, rfl, rfl⟩
theorem t179_35 : xtb zt179 35 38 39 (.ifCond .eq 4) (4) := ⟨rfl, rfl, rfl⟩
theorem t179_38 : xt zt179 38 39 .return_ := ⟨rfl, rfl⟩
theorem t179_39 : xt zt179 39 40 (.aload_n 0) := ⟨rfl, rfl⟩
theorem t179_40 : xt zt179 40 41 .dup := ⟨rfl, rfl⟩
theorem t179_41 : xtf zt179 11 41 44 (.getfield 306) 306 11 32 1 := ⟨rfl, rfl, rfl, rfl⟩
theorem t179_44 : xtk zt179 44 45 (1) := Or.inl ⟨1, ⟨rfl, rfl⟩, by decide⟩
theorem t179_45 : xt zt179 45 46 .iadd := ⟨rfl, rfl⟩
theorem t179_46 : xtf zt179 11 46 49 (.putfield 306) 306 11 32 1 := ⟨rfl, rfl, rfl, rfl⟩
theorem t179_49 : xt zt179 49 50 (.aload_n 0) := ⟨rfl, rfl⟩
theorem t179_50 : xtc zt179 11 50 53 (.invokevirtual 226) 226 1 154 0 := ⟨rfl, rfl, rfl⟩
theorem t179_53 : xt zt179 53 54 (.aload_n 0) := ⟨rfl, rfl⟩
theorem t179_54 : xtc zt179 11 54 57 (.invokevirtual 276) 276 1 174 0 := ⟨rfl, rfl, rfl⟩
theorem t179_57 : xt zt179 57 58 (.aload_n 0) := ⟨rfl, rfl⟩
theorem t179_58 : xtf zt179 11 58 61 (.getfield 220) 220 11 28 1 := ⟨rfl, rfl, rfl, rfl⟩
theorem t179_61 : xtb zt179 61 64 78 (.ifCond .ne 17) (17) := ⟨rfl, rfl, rfl⟩
theorem t179_64 : xt zt179 64 65 (.aload_n 0) := ⟨rfl, rfl⟩
theorem t179_65 : xtk zt179 65 67 (41) := Or.inr (Or.inl ⟨41, ⟨rfl, rfl⟩, by decide⟩)
theorem t179_67 : xtc zt179 11 67 70 (.invokevirtual 267) 267 1 160 1 := ⟨rfl, rfl, rfl⟩
theorem t179_70 : xtb zt179 70 73 78 (.ifCond .ne 8) (8) := ⟨rfl, rfl, rfl⟩
theorem t179_73 : xt zt179 73 74 (.aload_n 0) := ⟨rfl, rfl⟩
theorem t179_74 : xtk zt179 74 75 (1) := Or.inl ⟨1, ⟨rfl, rfl⟩, by decide⟩
theorem t179_75 : xtc zt179 11 75 78 (.invokevirtual 229) 229 1 158 1 := ⟨rfl, rfl, rfl⟩
theorem t179_78 : xt zt179 78 79 (.aload_n 0) := ⟨rfl, rfl⟩
theorem t179_79 : xtf zt179 11 79 82 (.getfield 220) 220 11 28 1 := ⟨rfl, rfl, rfl, rfl⟩
theorem t179_82 : xtb zt179 82 85 86 (.ifCond .eq 4) (4) := ⟨rfl, rfl, rfl⟩
theorem t179_85 : xt zt179 85 86 .return_ := ⟨rfl, rfl⟩
theorem t179_86 : xt zt179 86 87 (.aload_n 0) := ⟨rfl, rfl⟩
theorem t179_87 : xt zt179 87 88 .dup := ⟨rfl, rfl⟩
theorem t179_88 : xtf zt179 11 88 91 (.getfield 306) 306 11 32 1 := ⟨rfl, rfl, rfl, rfl⟩
theorem t179_91 : xtk zt179 91 92 (1) := Or.inl ⟨1, ⟨rfl, rfl⟩, by decide⟩
theorem t179_92 : xt zt179 92 93 .isub := ⟨rfl, rfl⟩
theorem t179_93 : xtf zt179 11 93 96 (.putfield 306) 306 11 32 1 := ⟨rfl, rfl, rfl, rfl⟩
theorem t179_96 : xt zt179 96 97 (.aload_n 0) := ⟨rfl, rfl⟩
theorem t179_97 : xtc zt179 11 97 100 (.invokevirtual 226) 226 1 154 0 := ⟨rfl, rfl, rfl⟩
theorem t179_100 : xt zt179 100 101 .return_ := ⟨rfl, rfl⟩
theorem t179_101 : xt zt179 101 102 (.aload_n 0) := ⟨rfl, rfl⟩
theorem t179_102 : xtf zt179 11 102 105 (.getfield 185) 185 11 26 1 := ⟨rfl, rfl, rfl, rfl⟩
theorem t179_105 : xtk zt179 105 106 (2) := Or.inl ⟨2, ⟨rfl, rfl⟩, by decide⟩
theorem t179_106 : xtb zt179 106 109 113 (.if_icmp .ne 7) (7) := ⟨rfl, rfl, rfl⟩
theorem t179_109 : xtk zt179 109 110 (1) := Or.inl ⟨1, ⟨rfl, rfl⟩, by decide⟩
theorem t179_110 : xtb zt179 110 113 114 (.goto 4) (4) := ⟨rfl, rfl, rfl⟩
theorem t179_113 : xtk zt179 113 114 (0) := Or.inl ⟨0, ⟨rfl, rfl⟩, by decide⟩
theorem t179_114 : xt zt179 114 115 (.istore_n 1) := ⟨rfl, rfl⟩
theorem t179_115 : xt zt179 115 116 (.iload_n 1) := ⟨rfl, rfl⟩
theorem t179_116 : xtb zt179 116 119 137 (.ifCond .eq 21) (21) := ⟨rfl, rfl, rfl⟩
theorem t179_119 : xt zt179 119 120 (.aload_n 0) := ⟨rfl, rfl⟩
theorem t179_120 : xtf zt179 11 120 123 (.getfield 195) 195 11 27 1 := ⟨rfl, rfl, rfl, rfl⟩
theorem t179_123 : xtk zt179 123 126 (9999) := Or.inr (Or.inr ⟨9999, ⟨rfl, rfl⟩, by decide⟩)
theorem t179_126 : xtb zt179 126 129 137 (.if_icmp .le 11) (11) := ⟨rfl, rfl, rfl⟩
theorem t179_129 : xt zt179 129 130 (.aload_n 0) := ⟨rfl, rfl⟩
theorem t179_130 : xtk zt179 130 131 (2) := Or.inl ⟨2, ⟨rfl, rfl⟩, by decide⟩
theorem t179_131 : xtc zt179 11 131 134 (.invokevirtual 229) 229 1 158 1 := ⟨rfl, rfl, rfl⟩
theorem t179_134 : xtb zt179 134 137 162 (.goto 28) (28) := ⟨rfl, rfl, rfl⟩
theorem t179_137 : xt zt179 137 138 (.iload_n 1) := ⟨rfl, rfl⟩
theorem t179_138 : xtb zt179 138 141 162 (.ifCond .ne 24) (24) := ⟨rfl, rfl, rfl⟩
theorem t179_141 : xt zt179 141 142 (.aload_n 0) := ⟨rfl, rfl⟩
theorem t179_142 : xtf zt179 11 142 145 (.getfield 185) 185 11 26 1 := ⟨rfl, rfl, rfl, rfl⟩
theorem t179_145 : xtb zt179 145 148 157 (.ifCond .ne 12) (12) := ⟨rfl, rfl, rfl⟩
theorem t179_148 : xt zt179 148 149 (.aload_n 0) := ⟨rfl, rfl⟩
theorem t179_149 : xtf zt179 11 149 152 (.getfield 195) 195 11 27 1 := ⟨rfl, rfl, rfl, rfl⟩
theorem t179_152 : xtk zt179 152 154 (15) := Or.inr (Or.inl ⟨15, ⟨rfl, rfl⟩, by decide⟩)
theorem t179_154 : xtb zt179 154 157 162 (.if_icmp .ge 8) (8) := ⟨rfl, rfl, rfl⟩
theorem t179_157 : xt zt179 157 158 (.aload_n 0) := ⟨rfl, rfl⟩
theorem t179_158 : xtk zt179 158 159 (1) := Or.inl ⟨1, ⟨rfl, rfl⟩, by decide⟩
theorem t179_159 : xtc zt179 11 159 162 (.invokevirtual 229) 229 1 158 1 := ⟨rfl, rfl, rfl⟩
theorem t179_162 : xt zt179 162 163 (.aload_n 0) := ⟨rfl, rfl⟩
theorem t179_163 : xtc zt179 11 163 166 (.invokevirtual 288) 288 1 173 0 := ⟨rfl, rfl, rfl⟩
theorem t179_166 : xt zt179 166 167 (.aload_n 0) := ⟨rfl, rfl⟩
theorem t179_167 : xt zt179 167 168 (.iload_n 1) := ⟨rfl, rfl⟩
theorem t179_168 : xtb zt179 168 171 175 (.ifCond .eq 7) (7) := ⟨rfl, rfl, rfl⟩
theorem t179_171 : xtk zt179 171 172 (0) := Or.inl ⟨0, ⟨rfl, rfl⟩, by decide⟩
theorem t179_172 : xtb zt179 172 175 176 (.goto 4) (4) := ⟨rfl, rfl, rfl⟩
theorem t179_175 : xtk zt179 175 176 (1) := Or.inl ⟨1, ⟨rfl, rfl⟩, by decide⟩
theorem t179_176 : xt zt179 176 177 (.iload_n 1) := ⟨rfl, rfl⟩
theorem t179_177 : xtb zt179 177 180 187 (.ifCond .eq 10) (10) := ⟨rfl, rfl, rfl⟩
theorem t179_180 : xt zt179 180 181 (.aload_n 0) := ⟨rfl, rfl⟩
theorem t179_181 : xtf zt179 11 181 184 (.getfield 195) 195 11 27 1 := ⟨rfl, rfl, rfl, rfl⟩
theorem t179_184 : xtb zt179 184 187 194 (.goto 10) (10) := ⟨rfl, rfl, rfl⟩
theorem t179_187 : xt zt179 187 188 (.aload_n 0) := ⟨rfl, rfl⟩
theorem t179_188 : xtf zt179 11 188 191 (.getfield 195) 195 11 27 1 := ⟨rfl, rfl, rfl, rfl⟩
theorem t179_191 : xtk zt179 191 193 (15) := Or.inr (Or.inl ⟨15, ⟨rfl, rfl⟩, by decide⟩)
theorem t179_193 : xt zt179 193 194 .isub := ⟨rfl, rfl⟩
theorem t179_194 : xtc zt179 11 194 197 (.invokevirtual 291) 291 1 172 2 := ⟨rfl, rfl, rfl⟩
theorem t179_197 : xt zt179 197 198 (.aload_n 0) := ⟨rfl, rfl⟩
theorem t179_198 : xtc zt179 11 198 201 (.invokevirtual 273) 273 1 161 0 := ⟨rfl, rfl, rfl⟩
theorem t179_201 : xt zt179 201 202 .return_ := ⟨rfl, rfl⟩
theorem t180_0 : xt zt180 0 1 (.aload_n 0) := ⟨rfl, rfl⟩
theorem t180_1 : xt zt180 1 2 .arraylength := ⟨rfl, rfl⟩
theorem t180_2 : xtk zt180 2 3 (2) := Or.inl ⟨2, ⟨rfl, rfl⟩, by decide⟩
theorem t180_3 : xt zt180 3 4 .idiv := ⟨rfl, rfl⟩
theorem t180_4 : xt zt180 4 5 (.istore_n 1) := ⟨rfl, rfl⟩
theorem t180_5 : xtk zt180 5 6 (0) := Or.inl ⟨0, ⟨rfl, rfl⟩, by decide⟩
theorem t180_6 : xt zt180 6 7 (.istore_n 2) := ⟨rfl, rfl⟩
theorem t180_7 : xt zt180 7 8 (.iload_n 2) := ⟨rfl, rfl⟩
theorem t180_8 : xt zt180 8 9 (.iload_n 1) := ⟨rfl, rfl⟩
theorem t180_9 : xtb zt180 9 12 26 (.if_icmp .ge 17) (17) := ⟨rfl, rfl, rfl⟩
theorem t180_12 : xt zt180 12 13 (.aload_n 0) := ⟨rfl, rfl⟩
theorem t180_13 : xt zt180 13 14 (.iload_n 2) := ⟨rfl, rfl⟩
theorem t180_14 : xt zt180 14 15 (.aload_n 0) := ⟨rfl, rfl⟩
theorem t180_15 : xt zt180 15 16 (.iload_n 1) := ⟨rfl, rfl⟩
theorem t180_16 : xt zt180 16 17 (.iload_n 2) := ⟨rfl, rfl⟩
theorem t180_17 : xt zt180 17 18 .iadd := ⟨rfl, rfl⟩
theorem t180_18 : xt zt180 18 19 .iaload := ⟨rfl, rfl⟩
theorem t180_19 : xt zt180 19 20 .iastore := ⟨rfl, rfl⟩
theorem t180_20 : xt zt180 20 23 (.iinc 2 1) := ⟨rfl, rfl⟩
theorem t180_23 : xtb zt180 23 26 7 (.goto (-16)) (-16) := ⟨rfl, rfl, rfl⟩
theorem t180_26 : xt zt180 26 27 .return_ := ⟨rfl, rfl⟩
theorem t181_0 : xt zt181 0 1 (.aload_n 0) := ⟨rfl, rfl⟩
theorem t181_1 : xtk zt181 1 2 (0) := Or.inl ⟨0, ⟨rfl, rfl⟩, by decide⟩
theorem t181_2 : xtf zt181 11 2 5 (.putfield 166) 166 11 0 1 := ⟨rfl, rfl, rfl, rfl⟩
theorem t181_5 : xt zt181 5 6 (.iload_n 1) := ⟨rfl, rfl⟩
theorem t181_6 : xtb zt181 6 9 17 (.ifCond .lt 11) (11) := ⟨rfl, rfl, rfl⟩
theorem t181_9 : xt zt181 9 10 (.iload_n 1) := ⟨rfl, rfl⟩
theorem t181_10 : xt zt181 10 11 (.aload_n 0) := ⟨rfl, rfl⟩
theorem t181_11 : xtf zt181 11 11 14 (.getfield 169) 169 11 2 1 := ⟨rfl, rfl, rfl, rfl⟩
theorem t181_14 : xtb zt181 14 17 20 (.if_icmp .le 6) (6) := ⟨rfl, rfl, rfl⟩
theorem t181_17 : xtk zt181 17 19 (-2) := Or.inr (Or.inl ⟨-2, ⟨rfl, rfl⟩, by decide⟩)
theorem t181_19 : xt zt181 19 20 .ireturn := ⟨rfl, rfl⟩
theorem t181_20 : xt zt181 20 21 (.aload_n 0) := ⟨rfl, rfl⟩
theorem t181_21 : xt zt181 21 22 (.iload_n 1) := ⟨rfl, rfl⟩
theorem t181_22 : xtf zt181 11 22 25 (.putfield 175) 175 11 23 1 := ⟨rfl, rfl, rfl, rfl⟩
theorem t181_25 : xt zt181 25 26 (.aload_n 0) := ⟨rfl, rfl⟩
theorem t181_26 : xtk zt181 26 27 (0) := Or.inl ⟨0, ⟨rfl, rfl⟩, by decide⟩
theorem t181_27 : xtf zt181 11 27 30 (.putfield 169) 169 11 2 1 := ⟨rfl, rfl, rfl, rfl⟩
theorem t181_30 : xt zt181 30 31 (.aload_n 0) := ⟨rfl, rfl⟩
theorem t181_31 : xtk zt181 31 32 (0) := Or.inl ⟨0, ⟨rfl, rfl⟩, by decide⟩
theorem t181_32 : xtf zt181 11 32 35 (.putfield 172) 172 11 24 1 := ⟨rfl, rfl, rfl, rfl⟩
theorem t181_35 : xt zt181 35 36 (.aload_n 0) := ⟨rfl, rfl⟩
theorem t181_36 : xtk zt181 36 37 (0) := Or.inl ⟨0, ⟨rfl, rfl⟩, by decide⟩
theorem t181_37 : xtf zt181 11 37 40 (.putfield 220) 220 11 28 1 := ⟨rfl, rfl, rfl, rfl⟩
theorem t181_40 : xt zt181 40 41 (.aload_n 0) := ⟨rfl, rfl⟩
theorem t181_41 : xtk zt181 41 42 (-1) := Or.inl ⟨-1, ⟨rfl, rfl⟩, by decide⟩
theorem t181_42 : xtf zt181 11 42 45 (.putfield 223) 223 11 29 1 := ⟨rfl, rfl, rfl, rfl⟩
theorem t181_45 : xtk zt181 45 46 (0) := Or.inl ⟨0, ⟨rfl, rfl⟩, by decide⟩
theorem t181_46 : xt zt181 46 47 (.istore_n 2) := ⟨rfl, rfl⟩
theorem t181_47 : xt zt181 47 48 (.iload_n 2) := ⟨rfl, rfl⟩
theorem t181_48 : xtk zt181 48 50 (9) := Or.inr (Or.inl ⟨9, ⟨rfl, rfl⟩, by decide⟩)
theorem t181_50 : xtb zt181 50 53 84 (.if_icmp .ge 34) (34) := ⟨rfl, rfl, rfl⟩
theorem t181_53 : xt zt181 53 54 (.aload_n 0) := ⟨rfl, rfl⟩
theorem t181_54 : xt zt181 54 55 (.iload_n 2) := ⟨rfl, rfl⟩
theorem t181_55 : xt zt181 55 56 (.iload_n 2) := ⟨rfl, rfl⟩
theorem t181_56 : xtb zt181 56 59 64 (.ifCond .ne 8) (8) := ⟨rfl, rfl, rfl⟩
theorem t181_59 : xtk zt181 59 61 (30) := Or.inr (Or.inl ⟨30, ⟨rfl, rfl⟩, by decide⟩)
theorem t181_61 : xtb zt181 61 64 75 (.goto 14) (14) := ⟨rfl, rfl, rfl⟩
theorem t181_64 : xt zt181 64 65 (.iload_n 2) := ⟨rfl, rfl⟩
theorem t181_65 : xtk zt181 65 67 (6) := Or.inr (Or.inl ⟨6, ⟨rfl, rfl⟩, by decide⟩)
theorem t181_67 : xtb zt181 67 70 74 (.if_icmp .ne 7) (7) := ⟨rfl, rfl, rfl⟩
theorem t181_70 : xtk zt181 70 71 (1) := Or.inl ⟨1, ⟨rfl, rfl⟩, by decide⟩
theorem t181_71 : xtb zt181 71 74 75 (.goto 4) (4) := ⟨rfl, rfl, rfl⟩
theorem t181_74 : xtk zt181 74 75 (0) := Or.inl ⟨0, ⟨rfl, rfl⟩, by decide⟩
theorem t181_75 : xtc zt181 11 75 78 (.invokevirtual 253) 253 1 166 2 := ⟨rfl, rfl, rfl⟩
theorem t181_78 : xt zt181 78 81 (.iinc 2 1) := ⟨rfl, rfl⟩
theorem t181_81 : xtb zt181 81 84 47 (.goto (-34)) (-34) := ⟨rfl, rfl, rfl⟩
theorem t181_84 : xtk zt181 84 85 (0) := Or.inl ⟨0, ⟨rfl, rfl⟩, by decide⟩
theorem t181_85 : xt zt181 85 86 (.istore_n 2) := ⟨rfl, rfl⟩
theorem t181_86 : xt zt181 86 87 (.iload_n 2) := ⟨rfl, rfl⟩
theorem t181_87 : xtk zt181 87 89 (6) := Or.inr (Or.inl ⟨6, ⟨rfl, rfl⟩, by decide⟩)
theorem t181_89 : xtb zt181 89 92 108 (.if_icmp .ge 19) (19) := ⟨rfl, rfl, rfl⟩
theorem t181_92 : xt zt181 92 93 (.aload_n 0) := ⟨rfl, rfl⟩
theorem t181_93 : xtf zt181 11 93 96 (.getfield 40) 40 11 12 3 := ⟨rfl, rfl, rfl, rfl⟩
theorem t181_96 : xtk zt181 96 98 (6) := Or.inr (Or.inl ⟨6, ⟨rfl, rfl⟩, by decide⟩)
theorem t181_98 : xt zt181 98 99 (.iload_n 2) := ⟨rfl, rfl⟩
theorem t181_99 : xt zt181 99 100 .iadd := ⟨rfl, rfl⟩
theorem t181_100 : xt zt181 100 101 (.lconst 0) := ⟨rfl, rfl⟩
theorem t181_101 : xt zt181 101 102 .lastore := ⟨rfl, rfl⟩
theorem t181_102 : xt zt181 102 105 (.iinc 2 1) := ⟨rfl, rfl⟩
theorem t181_105 : xtb zt181 105 108 86 (.goto (-19)) (-19) := ⟨rfl, rfl, rfl⟩
theorem t181_108 : xtk zt181 108 109 (3) := Or.inl ⟨3, ⟨rfl, rfl⟩, by decide⟩
theorem t181_109 : xt zt181 109 110 (.istore_n 2) := ⟨rfl, rfl⟩
theorem t181_110 : xt zt181 110 111 (.iload_n 2) := ⟨rfl, rfl⟩
theorem t181_111 : xtk zt181 111 113 (6) := Or.inr (Or.inl ⟨6, ⟨rfl, rfl⟩, by decide⟩)
theorem t181_113 : xtb zt181 113 116 136 (.if_icmp .ge 23) (23) := ⟨rfl, rfl, rfl⟩
theorem t181_116 : xt zt181 116 117 (.aload_n 0) := ⟨rfl, rfl⟩
theorem t181_117 : xtf zt181 11 117 120 (.getfield 56) 56 11 17 3 := ⟨rfl, rfl, rfl, rfl⟩
theorem t181_120 : xt zt181 120 121 (.iload_n 2) := ⟨rfl, rfl⟩
theorem t181_121 : xtk zt181 121 122 (0) := Or.inl ⟨0, ⟨rfl, rfl⟩, by decide⟩
theorem t181_122 : xt zt181 122 123 .iastore := ⟨rfl, rfl⟩
theorem t181_123 : xt zt181 123 124 (.aload_n 0) := ⟨rfl, rfl⟩
theorem t181_124 : xtf zt181 11 124 127 (.getfield 59) 59 11 18 3 := ⟨rfl, rfl, rfl, rfl⟩
theorem t181_127 : xt zt181 127 128 (.iload_n 2) := ⟨rfl, rfl⟩
theorem t181_128 : xtk zt181 128 129 (0) := Or.inl ⟨0, ⟨rfl, rfl⟩, by decide⟩
theorem t181_129 : xt zt181 129 130 .iastore := ⟨rfl, rfl⟩
theorem t181_130 : xt zt181 130 133 (.iinc 2 1) := ⟨rfl, rfl⟩
theorem t181_133 : xtb zt181 133 136 110 (.goto (-23)) (-23) := ⟨rfl, rfl, rfl⟩
theorem t181_136 : xt zt181 136 137 (.aload_n 0) := ⟨rfl, rfl⟩
theorem t181_137 : xtk zt181 137 138 (0) := Or.inl ⟨0, ⟨rfl, rfl⟩, by decide⟩
theorem t181_138 : xtf zt181 11 138 141 (.putfield 246) 246 11 21 1 := ⟨rfl, rfl, rfl, rfl⟩
theorem t181_141 : xt zt181 141 142 (.aload_n 0) := ⟨rfl, rfl⟩
theorem t181_142 : xtk zt181 142 143 (0) := Or.inl ⟨0, ⟨rfl, rfl⟩, by decide⟩
theorem t181_143 : xtf zt181 11 143 146 (.putfield 270) 270 11 22 1 := ⟨rfl, rfl, rfl, rfl⟩
theorem t181_146 : xt zt181 146 147 (.aload_n 0) := ⟨rfl, rfl⟩
theorem t181_147 : xtk zt181 147 148 (0) := Or.inl ⟨0, ⟨rfl, rfl⟩, by decide⟩
theorem t181_148 : xtf zt181 11 148 151 (.putfield 306) 306 11 32 1 := ⟨rfl, rfl, rfl, rfl⟩
theorem t181_151 : xt zt181 151 152 (.aload_n 0) := ⟨rfl, rfl⟩
theorem t181_152 : xtk zt181 152 153 (0) := Or.inl ⟨0, ⟨rfl, rfl⟩, by decide⟩
theorem t181_153 : xtf zt181 11 153 156 (.putfield 279) 279 11 33 1 := ⟨rfl, rfl, rfl, rfl⟩
theorem t181_156 : xt zt181 156 157 (.aload_n 0) := ⟨rfl, rfl⟩
theorem t181_157 : xtc zt181 11 157 160 (.invokevirtual 226) 226 1 154 0 := ⟨rfl, rfl, rfl⟩
theorem t181_160 : xt zt181 160 161 (.aload_n 0) := ⟨rfl, rfl⟩
theorem t181_161 : xtf zt181 11 161 164 (.getfield 220) 220 11 28 1 := ⟨rfl, rfl, rfl, rfl⟩
theorem t181_164 : xtb zt181 164 167 182 (.ifCond .ne 18) (18) := ⟨rfl, rfl, rfl⟩
theorem t181_167 : xt zt181 167 168 (.aload_n 0) := ⟨rfl, rfl⟩
theorem t181_168 : xtf zt181 11 168 171 (.getfield 185) 185 11 26 1 := ⟨rfl, rfl, rfl, rfl⟩
theorem t181_171 : xtk zt181 171 172 (4) := Or.inl ⟨4, ⟨rfl, rfl⟩, by decide⟩
theorem t181_172 : xtb zt181 172 175 182 (.if_icmp .eq 10) (10) := ⟨rfl, rfl, rfl⟩
theorem t181_175 : xt zt181 175 176 (.aload_n 0) := ⟨rfl, rfl⟩
theorem t181_176 : xtc zt181 11 176 179 (.invokevirtual 309) 309 1 169 0 := ⟨rfl, rfl, rfl⟩
theorem t181_179 : xtb zt181 179 182 160 (.goto (-19)) (-19) := ⟨rfl, rfl, rfl⟩
theorem t181_182 : xt zt181 182 183 (.aload_n 0) := ⟨rfl, rfl⟩
theorem t181_183 : xt zt181 183 184 (.aload_n 0) := ⟨rfl, rfl⟩
theorem t181_184 : xtf zt181 11 184 187 (.getfield 220) 220 11 28 1 := ⟨rfl, rfl, rfl, rfl⟩
theorem t181_187 : xtf zt181 11 187 190 (.putfield 312) 312 11 30 1 := ⟨rfl, rfl, rfl, rfl⟩
theorem t181_190 : xt zt181 190 191 (.aload_n 0) := ⟨rfl, rfl⟩
theorem t181_191 : xt zt181 191 192 (.aload_n 0) := ⟨rfl, rfl⟩
theorem t181_192 : xtf zt181 11 192 195 (.getfield 223) 223 11 29 1 := ⟨rfl, rfl, rfl, rfl⟩
theorem t181_195 : xtf zt181 11 195 198 (.putfield 68) 68 11 31 1 := ⟨rfl, rfl, rfl, rfl⟩
theorem t181_198 : xt zt181 198 199 (.aload_n 0) := ⟨rfl, rfl⟩
theorem t181_199 : xtf zt181 11 199 202 (.getfield 220) 220 11 28 1 := ⟨rfl, rfl, rfl, rfl⟩
theorem t181_202 : xtb zt181 202 205 207 (.ifCond .eq 5) (5) := ⟨rfl, rfl, rfl⟩
theorem t181_205 : xtk zt181 205 206 (-1) := Or.inl ⟨-1, ⟨rfl, rfl⟩, by decide⟩
theorem t181_206 : xt zt181 206 207 .ireturn := ⟨rfl, rfl⟩
theorem t181_207 : xt zt181 207 208 (.aload_n 0) := ⟨rfl, rfl⟩
theorem t181_208 : xtf zt181 11 208 211 (.getfield 13) 13 11 3 3 := ⟨rfl, rfl, rfl, rfl⟩
theorem t181_211 : xtc zt181 11 211 214 (.invokestatic 315) 315 2 180 1 := ⟨rfl, rfl, rfl⟩
theorem t181_214 : xt zt181 214 215 (.aload_n 0) := ⟨rfl, rfl⟩
theorem t181_215 : xtf zt181 11 215 218 (.getfield 16) 16 11 4 3 := ⟨rfl, rfl, rfl, rfl⟩
theorem t181_218 : xtc zt181 11 218 221 (.invokestatic 315) 315 2 180 1 := ⟨rfl, rfl, rfl⟩
theorem t181_221 : xt zt181 221 222 (.aload_n 0) := ⟨rfl, rfl⟩
theorem t181_222 : xtf zt181 11 222 225 (.getfield 19) 19 11 5 3 := ⟨rfl, rfl, rfl, rfl⟩
theorem t181_225 : xtc zt181 11 225 228 (.invokestatic 315) 315 2 180 1 := ⟨rfl, rfl, rfl⟩
theorem t181_228 : xt zt181 228 229 (.aload_n 0) := ⟨rfl, rfl⟩
theorem t181_229 : xtf zt181 11 229 232 (.getfield 22) 22 11 6 3 := ⟨rfl, rfl, rfl, rfl⟩
theorem t181_232 : xtc zt181 11 232 235 (.invokestatic 315) 315 2 180 1 := ⟨rfl, rfl, rfl⟩
theorem t181_235 : xt zt181 235 236 (.aload_n 0) := ⟨rfl, rfl⟩
theorem t181_236 : xtf zt181 11 236 239 (.getfield 25) 25 11 7 3 := ⟨rfl, rfl, rfl, rfl⟩
theorem t181_239 : xtc zt181 11 239 242 (.invokestatic 315) 315 2 180 1 := ⟨rfl, rfl, rfl⟩
theorem t181_242 : xt zt181 242 243 (.aload_n 0) := ⟨rfl, rfl⟩
theorem t181_243 : xtf zt181 11 243 246 (.getfield 28) 28 11 8 3 := ⟨rfl, rfl, rfl, rfl⟩
theorem t181_246 : xtc zt181 11 246 249 (.invokestatic 315) 315 2 180 1 := ⟨rfl, rfl, rfl⟩
theorem t181_249 : xt zt181 249 250 (.aload_n 0) := ⟨rfl, rfl⟩
theorem t181_250 : xtf zt181 11 250 253 (.getfield 31) 31 11 9 3 := ⟨rfl, rfl, rfl, rfl⟩
theorem t181_253 : xtc zt181 11 253 256 (.invokestatic 315) 315 2 180 1 := ⟨rfl, rfl, rfl⟩
theorem t181_256 : xt zt181 256 257 (.aload_n 0) := ⟨rfl, rfl⟩
theorem t181_257 : xtf zt181 11 257 260 (.getfield 34) 34 11 10 3 := ⟨rfl, rfl, rfl, rfl⟩
theorem t181_260 : xtc zt181 11 260 263 (.invokestatic 315) 315 2 180 1 := ⟨rfl, rfl, rfl⟩
theorem t181_263 : xt zt181 263 264 (.aload_n 0) := ⟨rfl, rfl⟩
theorem t181_264 : xtf zt181 11 264 267 (.getfield 37) 37 11 11 3 := ⟨rfl, rfl, rfl, rfl⟩
theorem t181_267 : xtc zt181 11 267 270 (.invokestatic 315) 315 2 180 1 := ⟨rfl, rfl, rfl⟩
theorem t181_270 : xtk zt181 270 271 (0) := Or.inl ⟨0, ⟨rfl, rfl⟩, by decide⟩
theorem t181_271 : xt zt181 271 272 (.istore_n 2) := ⟨rfl, rfl⟩
theorem t181_272 : xt zt181 272 273 (.iload_n 2) := ⟨rfl, rfl⟩
theorem t181_273 : xtk zt181 273 275 (6) := Or.inr (Or.inl ⟨6, ⟨rfl, rfl⟩, by decide⟩)
theorem t181_275 : xtb zt181 275 278 299 (.if_icmp .ge 24) (24) := ⟨rfl, rfl, rfl⟩
theorem t181_278 : xt zt181 278 279 (.aload_n 0) := ⟨rfl, rfl⟩
theorem t181_279 : xtf zt181 11 279 282 (.getfield 40) 40 11 12 3 := ⟨rfl, rfl, rfl, rfl⟩
theorem t181_282 : xt zt181 282 283 (.iload_n 2) := ⟨rfl, rfl⟩
theorem t181_283 : xt zt181 283 284 (.aload_n 0) := ⟨rfl, rfl⟩
theorem t181_284 : xtf zt181 11 284 287 (.getfield 40) 40 11 12 3 := ⟨rfl, rfl, rfl, rfl⟩
theorem t181_287 : xtk zt181 287 289 (6) := Or.inr (Or.inl ⟨6, ⟨rfl, rfl⟩, by decide⟩)
theorem t181_289 : xt zt181 289 290 (.iload_n 2) := ⟨rfl, rfl⟩
theorem t181_290 : xt zt181 290 291 .iadd := ⟨rfl, rfl⟩
theorem t181_291 : xt zt181 291 292 .laload := ⟨rfl, rfl⟩
theorem t181_292 : xt zt181 292 293 .lastore := ⟨rfl, rfl⟩
theorem t181_293 : xt zt181 293 296 (.iinc 2 1) := ⟨rfl, rfl⟩
theorem t181_296 : xtb zt181 296 299 272 (.goto (-24)) (-24) := ⟨rfl, rfl, rfl⟩
theorem t181_299 : xt zt181 299 300 (.aload_n 0) := ⟨rfl, rfl⟩
theorem t181_300 : xtf zt181 11 300 303 (.getfield 44) 44 11 13 3 := ⟨rfl, rfl, rfl, rfl⟩
theorem t181_303 : xtc zt181 11 303 306 (.invokestatic 315) 315 2 180 1 := ⟨rfl, rfl, rfl⟩
theorem t181_306 : xt zt181 306 307 (.aload_n 0) := ⟨rfl, rfl⟩
theorem t181_307 : xtf zt181 11 307 310 (.getfield 47) 47 11 14 3 := ⟨rfl, rfl, rfl, rfl⟩
theorem t181_310 : xtc zt181 11 310 313 (.invokestatic 315) 315 2 180 1 := ⟨rfl, rfl, rfl⟩
theorem t181_313 : xt zt181 313 314 (.aload_n 0) := ⟨rfl, rfl⟩
theorem t181_314 : xtf zt181 11 314 317 (.getfield 50) 50 11 15 3 := ⟨rfl, rfl, rfl, rfl⟩
theorem t181_317 : xtc zt181 11 317 320 (.invokestatic 315) 315 2 180 1 := ⟨rfl, rfl, rfl⟩
theorem t181_320 : xt zt181 320 321 (.aload_n 0) := ⟨rfl, rfl⟩
theorem t181_321 : xtf zt181 11 321 324 (.getfield 53) 53 11 16 3 := ⟨rfl, rfl, rfl, rfl⟩
theorem t181_324 : xtc zt181 11 324 327 (.invokestatic 315) 315 2 180 1 := ⟨rfl, rfl, rfl⟩
theorem t181_327 : xt zt181 327 328 (.aload_n 0) := ⟨rfl, rfl⟩
theorem t181_328 : xtf zt181 11 328 331 (.getfield 56) 56 11 17 3 := ⟨rfl, rfl, rfl, rfl⟩
theorem t181_331 : xtc zt181 11 331 334 (.invokestatic 315) 315 2 180 1 := ⟨rfl, rfl, rfl⟩
theorem t181_334 : xt zt181 334 335 (.aload_n 0) := ⟨rfl, rfl⟩
theorem t181_335 : xtf zt181 11 335 338 (.getfield 59) 59 11 18 3 := ⟨rfl, rfl, rfl, rfl⟩
theorem t181_338 : xtc zt181 11 338 341 (.invokestatic 315) 315 2 180 1 := ⟨rfl, rfl, rfl⟩
theorem t181_341 : xt zt181 341 342 (.aload_n 0) := ⟨rfl, rfl⟩
theorem t181_342 : xtf zt181 11 342 345 (.getfield 62) 62 11 19 3 := ⟨rfl, rfl, rfl, rfl⟩
theorem t181_345 : xtc zt181 11 345 348 (.invokestatic 315) 315 2 180 1 := ⟨rfl, rfl, rfl⟩
theorem t181_348 : xt zt181 348 349 (.aload_n 0) := ⟨rfl, rfl⟩
theorem t181_349 : xtf zt181 11 349 352 (.getfield 65) 65 11 20 3 := ⟨rfl, rfl, rfl, rfl⟩
theorem t181_352 : xtc zt181 11 352 355 (.invokestatic 315) 315 2 180 1 := ⟨rfl, rfl, rfl⟩
theorem t181_355 : xt zt181 355 356 (.aload_n 0) := ⟨rfl, rfl⟩
theorem t181_356 : xtk zt181 356 357 (0) := Or.inl ⟨0, ⟨rfl, rfl⟩, by decide⟩
theorem t181_357 : xtf zt181 11 357 360 (.putfield 319) 319 11 67 1 := ⟨rfl, rfl, rfl, rfl⟩
theorem t181_360 : xt zt181 360 361 (.aload_n 0) := ⟨rfl, rfl⟩
theorem t181_361 : xtk zt181 361 362 (-1) := Or.inl ⟨-1, ⟨rfl, rfl⟩, by decide⟩
theorem t181_362 : xtf zt181 11 362 365 (.putfield 144) 144 11 68 1 := ⟨rfl, rfl, rfl, rfl⟩
theorem t181_365 : xt zt181 365 366 (.aload_n 0) := ⟨rfl, rfl⟩
theorem t181_366 : xtk zt181 366 367 (0) := Or.inl ⟨0, ⟨rfl, rfl⟩, by decide⟩
theorem t181_367 : xtf zt181 11 367 370 (.putfield 322) 322 11 53 1 := ⟨rfl, rfl, rfl, rfl⟩
theorem t181_370 : xt zt181 370 371 (.aload_n 0) := ⟨rfl, rfl⟩
theorem t181_371 : xtk zt181 371 372 (0) := Or.inl ⟨0, ⟨rfl, rfl⟩, by decide⟩
theorem t181_372 : xtf zt181 11 372 375 (.putfield 326) 326 11 54 1 := ⟨rfl, rfl, rfl, rfl⟩
theorem t181_375 : xt zt181 375 376 (.aload_n 0) := ⟨rfl, rfl⟩
theorem t181_376 : xtc zt181 11 376 379 (.invokevirtual 163) 163 1 189 0 := ⟨rfl, rfl, rfl⟩
theorem t181_379 : xt zt181 379 380 (.aload_n 0) := ⟨rfl, rfl⟩
theorem t181_380 : xtf zt181 11 380 383 (.getfield 270) 270 11 22 1 := ⟨rfl, rfl, rfl, rfl⟩
theorem t181_383 : xt zt181 383 384 .ireturn := ⟨rfl, rfl⟩
end
section
/-! The reference: bytes, signs. -/
def GM (G : xG) : Prop := G.1 128 1 = some 129 ∧ G.2 129 = (0, 1, 700)
def hre (m : xM) : Int32 := if (m 128 24).toInt < (m 128 23).toInt then m 129 (m 128 24).toNatClampNeg else -1
def byt (b : Nat → Int32) (n p : Nat) : Int32 := if p < n then b p else -1
theorem hre_p {m : xM} {b : Nat → Int32} {n p : Nat} (h1 : m 129 = b) (h2 : m 128 24 = Int32.ofNat p) (h3 : m 128 23 = Int32.ofNat n) (hp : p ≤ n) (hn : n ≤ 700) : hre m = byt b n p := by
  unfold hre byt
  rw [h2, h3, xn_int (by omega), xn_int (by omega), xn_nat (by omega), h1]
  by_cases h : p < n
  · rw [if_pos h, if_pos (by omega)]
  · rw [if_neg h, if_neg (by omega)]

theorem ct_here {nf : Bool} {xs : List Int32} {d : Nat} {m : xM} {g : xL} {G : xG} (hG : GM G) : CT nf xs d 151 [.ref 128] m g G (PE (some (.int (hre m))) m g) := by
  refine CT.of (c := 11) (ini := false) (nL := 1) (rt := some .int) (tab := zt151) rfl (fun d' r h' N hd hr => ?_)
  replace hr : RR nf xs d' 11 false 1 (some .int) zt151 G r h' N (0, [(0, .ref 128)], [], m, g) := hr
  have km1 : (-1 : Int32).toInt = -1 := rfl
  replace hr := hr.go (s_aload_n t151_0 rfl)
  replace hr := hr.go (s_getf t151_1)
  replace hr := hr.go (s_aload_n t151_4 rfl)
  replace hr := hr.go (s_getf t151_5)
  rcases hr.bGe t151_8 with ⟨c1, hr⟩ | ⟨c1, hr⟩
  · replace hr := hr.go (s_k t151_23)
    obtain ⟨rfl, hs⟩ := hr.iret t151_24
    exact ⟨_, _, hs, congrArg (fun z => some (Value.int z)) (by unfold hre; first | rw [if_pos (by omega)] | rw [if_neg (by omega)]), rfl, rfl⟩
  · replace hr := hr.go (s_aload_n t151_11 rfl)
    replace hr := hr.go (s_getr t151_12 (hG.1))
    replace hr := hr.go (s_aload_n t151_15 rfl)
    replace hr := hr.go (s_getf t151_16)
    replace hr := hr.go (s_iaload t151_19 (hG.2))
    replace hr := hr.go (s_goto t151_20)
    obtain ⟨rfl, hs⟩ := hr.iret t151_24
    exact ⟨_, _, hs, congrArg (fun z => some (Value.int z)) (by unfold hre; first | rw [if_pos (by omega)] | rw [if_neg (by omega)]), rfl, rfl⟩

theorem ct_here_p {nf : Bool} {xs : List Int32} {d : Nat} {m : xM} {g : xL} {G : xG} {b : Nat → Int32} {n p : Nat} (hG : GM G) (hn : n ≤ 700) (hp : p ≤ n) (h1 : m 129 = b) (h2 : m 128 24 = Int32.ofNat p) (h3 : m 128 23 = Int32.ofNat n) : CT nf xs d 151 [.ref 128] m g G (PE (some (.int (byt b n p))) m g) := by
  rw [← hre_p h1 h2 h3 hp hn]
  exact ct_here hG

theorem ct_small {nf : Bool} {xs : List Int32} {d : Nat} {m : xM} {g : xL} {G : xG} {x : Int32} : CT nf xs d 152 [.int x] m g G (PE (some (.int (bI (ltr x)))) m g) := by
  refine CT.of (c := 11) (ini := false) (nL := 1) (rt := some .boolean) (tab := zt152) rfl (fun d' r h' N hd hr => ?_)
  replace hr : RR nf xs d' 11 false 1 (some .boolean) zt152 G r h' N (0, [(0, .int x)], [], m, g) := hr
  have k1 : (1 : Int32).toInt = 1 := rfl
  have k97 : (97 : Int32).toInt = 97 := rfl
  have k122 : (122 : Int32).toInt = 122 := rfl
  replace hr := hr.go (s_iload_n t152_0 rfl)
  replace hr := hr.go (s_k t152_1)
  rcases hr.bLt t152_3 with ⟨c1, hr⟩ | ⟨c1, hr⟩
  · replace hr := hr.go (s_k t152_16)
    obtain ⟨rfl, hs⟩ := hr.iret t152_17
    exact ⟨_, _, hs, congrArg (fun z => some (Value.int z)) (by first | (rw [ltr_t (by omega)]; rfl) | (rw [ltr_f (by omega)]; rfl)), rfl, rfl⟩
  · replace hr := hr.go (s_iload_n t152_6 rfl)
    replace hr := hr.go (s_k t152_7)
    rcases hr.bGt t152_9 with ⟨c2, hr⟩ | ⟨c2, hr⟩
    · replace hr := hr.go (s_k t152_16)
      obtain ⟨rfl, hs⟩ := hr.iret t152_17
      exact ⟨_, _, hs, congrArg (fun z => some (Value.int z)) (by first | (rw [ltr_t (by omega)]; rfl) | (rw [ltr_f (by omega)]; rfl)), rfl, rfl⟩
    · replace hr := hr.go (s_k t152_12)
      replace hr := hr.go (s_goto t152_13)
      obtain ⟨rfl, hs⟩ := hr.iret t152_17
      exact ⟨_, _, hs, congrArg (fun z => some (Value.int z)) (by first | (rw [ltr_t (by omega)]; rfl) | (rw [ltr_f (by omega)]; rfl)), rfl, rfl⟩

theorem ct_digit {nf : Bool} {xs : List Int32} {d : Nat} {m : xM} {g : xL} {G : xG} {x : Int32} : CT nf xs d 153 [.int x] m g G (PE (some (.int (bI (dgt x)))) m g) := by
  refine CT.of (c := 11) (ini := false) (nL := 1) (rt := some .boolean) (tab := zt153) rfl (fun d' r h' N hd hr => ?_)
  replace hr : RR nf xs d' 11 false 1 (some .boolean) zt153 G r h' N (0, [(0, .int x)], [], m, g) := hr
  have k1 : (1 : Int32).toInt = 1 := rfl
  have k48 : (48 : Int32).toInt = 48 := rfl
  have k57 : (57 : Int32).toInt = 57 := rfl
  replace hr := hr.go (s_iload_n t153_0 rfl)
  replace hr := hr.go (s_k t153_1)
  rcases hr.bLt t153_3 with ⟨c1, hr⟩ | ⟨c1, hr⟩
  · replace hr := hr.go (s_k t153_16)
    obtain ⟨rfl, hs⟩ := hr.iret t153_17
    exact ⟨_, _, hs, congrArg (fun z => some (Value.int z)) (by first | (rw [dgt_t (by omega)]; rfl) | (rw [dgt_f (by omega)]; rfl)), rfl, rfl⟩
  · replace hr := hr.go (s_iload_n t153_6 rfl)
    replace hr := hr.go (s_k t153_7)
    rcases hr.bGt t153_9 with ⟨c2, hr⟩ | ⟨c2, hr⟩
    · replace hr := hr.go (s_k t153_16)
      obtain ⟨rfl, hs⟩ := hr.iret t153_17
      exact ⟨_, _, hs, congrArg (fun z => some (Value.int z)) (by first | (rw [dgt_t (by omega)]; rfl) | (rw [dgt_f (by omega)]; rfl)), rfl, rfl⟩
    · replace hr := hr.go (s_k t153_12)
      replace hr := hr.go (s_goto t153_13)
      obtain ⟨rfl, hs⟩ := hr.iret t153_17
      exact ⟨_, _, hs, congrArg (fun z => some (Value.int z)) (by first | (rw [dgt_t (by omega)]; rfl) | (rw [dgt_f (by omega)]; rfl)), rfl, rfl⟩

def isg (x : Int32) : Bool := decide (x = 59 ∨ x = 40 ∨ x = 41 ∨ x = 43 ∨ x = 45 ∨ x = 42 ∨ x = 47 ∨ x = 60 ∨ x = 61 ∨ x = 62)
def sgV (x y : Int32) : Int32 × Nat := if x = 60 then (if y = 61 then (256, 2) else if y = 62 then (257, 2) else (60, 1)) else if x = 62 then (if y = 61 then (258, 2) else (62, 1)) else (x, 1)

theorem sg_a {nf : Bool} {xs : List Int32} {d : Nat} {g : xL} {G : xG} {r : Option Value} {h' : zH} {N : Nat} {m : xM} {x : Int32} (hr : RR nf xs d 11 false 2 none zt155 G r h' N (0, [(0, .ref 128), (1, .int x)], [], m, g)) : RR nf xs d 11 false 2 none zt155 G r h' N (76, [(0, .ref 128), (1, .int x)], [.int (bif isg x then 3 else 5), .ref 128], xu m 128 24 (m 128 24 + 1), g) := by
  replace hr := hr.go (s_aload_n t155_0 rfl)
  replace hr := hr.go (s_dup t155_1 rfl)
  replace hr := hr.go (s_getf t155_2)
  replace hr := hr.go (s_k t155_5)
  replace hr := hr.go (s_iadd t155_6)
  replace hr := hr.go (s_putf t155_7)
  replace hr := hr.go (s_aload_n t155_10 rfl)
  replace hr := hr.go (s_iload_n t155_11 rfl)
  replace hr := hr.go (s_k t155_12)
  rcases hr.bEq t155_14 with ⟨c1, hr⟩ | ⟨c1, hr⟩
  · skip
    replace hr := hr.go (s_k t155_71)
    replace hr := hr.go (s_goto t155_72)
    rw [show isg x = true from decide_eq_true (Or.inl c1)]
    exact hr
  · replace hr := hr.go (s_iload_n t155_17 rfl)
    replace hr := hr.go (s_k t155_18)
    rcases hr.bEq t155_20 with ⟨c2, hr⟩ | ⟨c2, hr⟩
    · skip
      replace hr := hr.go (s_k t155_71)
      replace hr := hr.go (s_goto t155_72)
      rw [show isg x = true from decide_eq_true (Or.inr (Or.inl c2))]
      exact hr
    · replace hr := hr.go (s_iload_n t155_23 rfl)
      replace hr := hr.go (s_k t155_24)
      rcases hr.bEq t155_26 with ⟨c3, hr⟩ | ⟨c3, hr⟩
      · skip
        replace hr := hr.go (s_k t155_71)
        replace hr := hr.go (s_goto t155_72)
        rw [show isg x = true from decide_eq_true (Or.inr (Or.inr (Or.inl c3)))]
        exact hr
      · replace hr := hr.go (s_iload_n t155_29 rfl)
        replace hr := hr.go (s_k t155_30)
        rcases hr.bEq t155_32 with ⟨c4, hr⟩ | ⟨c4, hr⟩
        · skip
          replace hr := hr.go (s_k t155_71)
          replace hr := hr.go (s_goto t155_72)
          rw [show isg x = true from decide_eq_true (Or.inr (Or.inr (Or.inr (Or.inl c4))))]
          exact hr
        · replace hr := hr.go (s_iload_n t155_35 rfl)
          replace hr := hr.go (s_k t155_36)
          rcases hr.bEq t155_38 with ⟨c5, hr⟩ | ⟨c5, hr⟩
          · skip
            replace hr := hr.go (s_k t155_71)
            replace hr := hr.go (s_goto t155_72)
            rw [show isg x = true from decide_eq_true (Or.inr (Or.inr (Or.inr (Or.inr (Or.inl c5)))))]
            exact hr
          · replace hr := hr.go (s_iload_n t155_41 rfl)
            replace hr := hr.go (s_k t155_42)
            rcases hr.bEq t155_44 with ⟨c6, hr⟩ | ⟨c6, hr⟩
            · skip
              replace hr := hr.go (s_k t155_71)
              replace hr := hr.go (s_goto t155_72)
              rw [show isg x = true from decide_eq_true (Or.inr (Or.inr (Or.inr (Or.inr (Or.inr (Or.inl c6))))))]
              exact hr
            · replace hr := hr.go (s_iload_n t155_47 rfl)
              replace hr := hr.go (s_k t155_48)
              rcases hr.bEq t155_50 with ⟨c7, hr⟩ | ⟨c7, hr⟩
              · skip
                replace hr := hr.go (s_k t155_71)
                replace hr := hr.go (s_goto t155_72)
                rw [show isg x = true from decide_eq_true (Or.inr (Or.inr (Or.inr (Or.inr (Or.inr (Or.inr (Or.inl c7)))))))]
                exact hr
              · replace hr := hr.go (s_iload_n t155_53 rfl)
                replace hr := hr.go (s_k t155_54)
                rcases hr.bEq t155_56 with ⟨c8, hr⟩ | ⟨c8, hr⟩
                · skip
                  replace hr := hr.go (s_k t155_71)
                  replace hr := hr.go (s_goto t155_72)
                  rw [show isg x = true from decide_eq_true (Or.inr (Or.inr (Or.inr (Or.inr (Or.inr (Or.inr (Or.inr (Or.inl c8))))))))]
                  exact hr
                · replace hr := hr.go (s_iload_n t155_59 rfl)
                  replace hr := hr.go (s_k t155_60)
                  rcases hr.bEq t155_62 with ⟨c9, hr⟩ | ⟨c9, hr⟩
                  · skip
                    replace hr := hr.go (s_k t155_71)
                    replace hr := hr.go (s_goto t155_72)
                    rw [show isg x = true from decide_eq_true (Or.inr (Or.inr (Or.inr (Or.inr (Or.inr (Or.inr (Or.inr (Or.inr (Or.inl c9)))))))))]
                    exact hr
                  · replace hr := hr.go (s_iload_n t155_65 rfl)
                    replace hr := hr.go (s_k t155_66)
                    rcases hr.bNe t155_68 with ⟨c10, hr⟩ | ⟨c10, hr⟩
                    · skip
                      replace hr := hr.go (s_k t155_75)
                      rw [show isg x = false from decide_eq_false (by rintro (h | h | h | h | h | h | h | h | h | h) <;> contradiction)]
                      exact hr
                    · skip
                      replace hr := hr.go (s_k t155_71)
                      replace hr := hr.go (s_goto t155_72)
                      rw [show isg x = true from decide_eq_true (Or.inr (Or.inr (Or.inr (Or.inr (Or.inr (Or.inr (Or.inr (Or.inr (Or.inr (c10))))))))))]
                      exact hr
theorem xextM {m1 m2 : xM} (h3 : m1 128 24 = m2 128 24) (h4 : m1 128 26 = m2 128 26) (h5 : m1 128 27 = m2 128 27) (ho : ∀ a k : Nat, ¬ (a = 128 ∧ 24 ≤ k ∧ k ≤ 27 ∧ ¬ k = 25) → m1 a k = m2 a k) : m1 = m2 := by
  funext a k
  by_cases h : a = 128 ∧ 24 ≤ k ∧ k ≤ 27 ∧ ¬ k = 25
  · obtain ⟨rfl, q1, q2, q3⟩ := h
    rcases (show k = 24 ∨ k = 26 ∨ k = 27 by omega) with rfl | rfl | rfl
    · exact h3
    · exact h4
    · exact h5
  · exact ho a k h

theorem sg_ba {nf : Bool} {xs : List Int32} {d : Nat} {g : xL} {G : xG} {r : Option Value} {h' : zH} {N : Nat} {m : xM} {S : Int32} {b : Nat → Int32} {n s : Nat} (hG : GM G) (hn : n ≤ 700) (hsn : s + 1 ≤ n) (h1 : m 129 = b) (h2 : m 128 24 = Int32.ofNat (s + 1)) (h3 : m 128 23 = Int32.ofNat n) (hy : byt b n (s + 1) = 61) (hr : RR nf xs d 11 false 2 none zt155 G r h' N (76, [(0, .ref 128), (1, .int 60)], [.int S, .ref 128], m, g)) : ∃ (m' : xM) (g' : xL), HS h' m' g' G ∧ PE none (xu (xu (xu m 128 26 S) 128 27 (sgV 60 (byt b n (s + 1))).1) 128 24 (Int32.ofNat (s + (sgV 60 (byt b n (s + 1))).2))) g r m' g' := by
  have k256 : (256 : Int32).toInt = 256 := rfl
  replace hr := hr.go (s_putf t155_76)
  replace hr := hr.go (s_aload_n t155_79 rfl)
  replace hr := hr.go (s_iload_n t155_80 rfl)
  replace hr := hr.go (s_putf t155_81)
  replace hr := hr.go (s_iload_n t155_84 rfl)
  replace hr := hr.go (s_k t155_85)
  rcases hr.bNe t155_87 with ⟨c1, hr⟩ | ⟨c1, hr⟩
  · exact absurd c1 (by decide)
  · replace hr := hr.go (s_aload_n t155_90 rfl)
    replace hr := hr.cvI t155_91 rfl rfl (hy ▸ ct_here_p (b := b) (n := n) (p := s + 1) hG hn hsn (by (repeat rw [xu_row (by decide)]); exact h1) (by (repeat rw [xu_oth (by decide)]); exact h2) (by (repeat rw [xu_oth (by decide)]); exact h3))
    replace hr := hr.go (s_k t155_94)
    rcases hr.bNe t155_96 with ⟨c2, hr⟩ | ⟨c2, hr⟩
    · exact absurd c2 (by decide)
    · replace hr := hr.go (s_aload_n t155_99 rfl)
      replace hr := hr.go (s_k t155_100)
      replace hr := hr.go (s_putf t155_103)
      replace hr := hr.go (s_iload_n t155_106 rfl)
      replace hr := hr.go (s_k t155_107)
      rcases hr.bNe t155_109 with ⟨c3, hr⟩ | ⟨c3, hr⟩
      · exact absurd c3 (by decide)
      · replace hr := hr.go (s_aload_n t155_112 rfl)
        replace hr := hr.cvI t155_113 rfl rfl (hy ▸ ct_here_p (b := b) (n := n) (p := s + 1) hG hn hsn (by (repeat rw [xu_row (by decide)]); exact h1) (by (repeat rw [xu_oth (by decide)]); exact h2) (by (repeat rw [xu_oth (by decide)]); exact h3))
        replace hr := hr.go (s_k t155_116)
        rcases hr.bNe t155_118 with ⟨c4, hr⟩ | ⟨c4, hr⟩
        · replace hr := hr.go (s_iload_n t155_128 rfl)
          replace hr := hr.go (s_k t155_129)
          rcases hr.bNe t155_131 with ⟨c5, hr⟩ | ⟨c5, hr⟩
          · replace hr := hr.go (s_aload_n t155_150 rfl)
            replace hr := hr.go (s_getf t155_151)
            replace hr := hr.go (s_k t155_154)
            rcases hr.bLt t155_157 with ⟨c6, hr⟩ | ⟨c6, hr⟩
            · exact absurd c6 (by rw [xu_same]; decide)
            · replace hr := hr.go (s_aload_n t155_160 rfl)
              replace hr := hr.go (s_dup t155_161 rfl)
              replace hr := hr.go (s_getf t155_162)
              replace hr := hr.go (s_k t155_165)
              replace hr := hr.go (s_iadd t155_166)
              replace hr := hr.go (s_putf t155_167)
              obtain ⟨rfl, hs⟩ := hr.ret t155_170
              refine ⟨_, _, hs, rfl, ?_, rfl⟩
              rw [show sgV 60 (byt b n (s + 1)) = (256, 2) by unfold sgV; rw [if_pos rfl, if_pos hy]]
              exact xextM (by (repeat rw [xu_oth (by decide)]); rw [xu_same, xu_same]; (repeat rw [xu_oth (by decide)]); rw [h2, xn_1]; rfl) rfl rfl (fun a k h => by repeat rw [xu_oth (by omega)])
          · exact absurd c5 (by decide)
        · exact absurd c4 (by decide)
theorem sg_bb {nf : Bool} {xs : List Int32} {d : Nat} {g : xL} {G : xG} {r : Option Value} {h' : zH} {N : Nat} {m : xM} {S : Int32} {b : Nat → Int32} {n s : Nat} (hG : GM G) (hn : n ≤ 700) (hsn : s + 1 ≤ n) (h1 : m 129 = b) (h2 : m 128 24 = Int32.ofNat (s + 1)) (h3 : m 128 23 = Int32.ofNat n) (hy : byt b n (s + 1) = 62) (hr : RR nf xs d 11 false 2 none zt155 G r h' N (76, [(0, .ref 128), (1, .int 60)], [.int S, .ref 128], m, g)) : ∃ (m' : xM) (g' : xL), HS h' m' g' G ∧ PE none (xu (xu (xu m 128 26 S) 128 27 (sgV 60 (byt b n (s + 1))).1) 128 24 (Int32.ofNat (s + (sgV 60 (byt b n (s + 1))).2))) g r m' g' := by
  have k256 : (256 : Int32).toInt = 256 := rfl
  replace hr := hr.go (s_putf t155_76)
  replace hr := hr.go (s_aload_n t155_79 rfl)
  replace hr := hr.go (s_iload_n t155_80 rfl)
  replace hr := hr.go (s_putf t155_81)
  replace hr := hr.go (s_iload_n t155_84 rfl)
  replace hr := hr.go (s_k t155_85)
  rcases hr.bNe t155_87 with ⟨c1, hr⟩ | ⟨c1, hr⟩
  · exact absurd c1 (by decide)
  · replace hr := hr.go (s_aload_n t155_90 rfl)
    replace hr := hr.cvI t155_91 rfl rfl (hy ▸ ct_here_p (b := b) (n := n) (p := s + 1) hG hn hsn (by (repeat rw [xu_row (by decide)]); exact h1) (by (repeat rw [xu_oth (by decide)]); exact h2) (by (repeat rw [xu_oth (by decide)]); exact h3))
    replace hr := hr.go (s_k t155_94)
    rcases hr.bNe t155_96 with ⟨c2, hr⟩ | ⟨c2, hr⟩
    · replace hr := hr.go (s_iload_n t155_106 rfl)
      replace hr := hr.go (s_k t155_107)
      rcases hr.bNe t155_109 with ⟨c3, hr⟩ | ⟨c3, hr⟩
      · exact absurd c3 (by decide)
      · replace hr := hr.go (s_aload_n t155_112 rfl)
        replace hr := hr.cvI t155_113 rfl rfl (hy ▸ ct_here_p (b := b) (n := n) (p := s + 1) hG hn hsn (by (repeat rw [xu_row (by decide)]); exact h1) (by (repeat rw [xu_oth (by decide)]); exact h2) (by (repeat rw [xu_oth (by decide)]); exact h3))
        replace hr := hr.go (s_k t155_116)
        rcases hr.bNe t155_118 with ⟨c4, hr⟩ | ⟨c4, hr⟩
        · exact absurd c4 (by decide)
        · replace hr := hr.go (s_aload_n t155_121 rfl)
          replace hr := hr.go (s_k t155_122)
          replace hr := hr.go (s_putf t155_125)
          replace hr := hr.go (s_iload_n t155_128 rfl)
          replace hr := hr.go (s_k t155_129)
          rcases hr.bNe t155_131 with ⟨c5, hr⟩ | ⟨c5, hr⟩
          · replace hr := hr.go (s_aload_n t155_150 rfl)
            replace hr := hr.go (s_getf t155_151)
            replace hr := hr.go (s_k t155_154)
            rcases hr.bLt t155_157 with ⟨c6, hr⟩ | ⟨c6, hr⟩
            · exact absurd c6 (by rw [xu_same]; decide)
            · replace hr := hr.go (s_aload_n t155_160 rfl)
              replace hr := hr.go (s_dup t155_161 rfl)
              replace hr := hr.go (s_getf t155_162)
              replace hr := hr.go (s_k t155_165)
              replace hr := hr.go (s_iadd t155_166)
              replace hr := hr.go (s_putf t155_167)
              obtain ⟨rfl, hs⟩ := hr.ret t155_170
              refine ⟨_, _, hs, rfl, ?_, rfl⟩
              rw [show sgV 60 (byt b n (s + 1)) = (257, 2) by unfold sgV; rw [if_pos rfl, if_neg (by rw [hy]; decide), if_pos hy]]
              exact xextM (by (repeat rw [xu_oth (by decide)]); rw [xu_same, xu_same]; (repeat rw [xu_oth (by decide)]); rw [h2, xn_1]; rfl) rfl rfl (fun a k h => by repeat rw [xu_oth (by omega)])
          · exact absurd c5 (by decide)
    · exact absurd c2 (by decide)
theorem sg_bc {nf : Bool} {xs : List Int32} {d : Nat} {g : xL} {G : xG} {r : Option Value} {h' : zH} {N : Nat} {m : xM} {S : Int32} {b : Nat → Int32} {n s : Nat} (hG : GM G) (hn : n ≤ 700) (hsn : s + 1 ≤ n) (h1 : m 129 = b) (h2 : m 128 24 = Int32.ofNat (s + 1)) (h3 : m 128 23 = Int32.ofNat n) (hy1 : ¬ byt b n (s + 1) = 61) (hy2 : ¬ byt b n (s + 1) = 62) (hr : RR nf xs d 11 false 2 none zt155 G r h' N (76, [(0, .ref 128), (1, .int 60)], [.int S, .ref 128], m, g)) : ∃ (m' : xM) (g' : xL), HS h' m' g' G ∧ PE none (xu (xu (xu m 128 26 S) 128 27 (sgV 60 (byt b n (s + 1))).1) 128 24 (Int32.ofNat (s + (sgV 60 (byt b n (s + 1))).2))) g r m' g' := by
  have k256 : (256 : Int32).toInt = 256 := rfl
  replace hr := hr.go (s_putf t155_76)
  replace hr := hr.go (s_aload_n t155_79 rfl)
  replace hr := hr.go (s_iload_n t155_80 rfl)
  replace hr := hr.go (s_putf t155_81)
  replace hr := hr.go (s_iload_n t155_84 rfl)
  replace hr := hr.go (s_k t155_85)
  rcases hr.bNe t155_87 with ⟨c1, hr⟩ | ⟨c1, hr⟩
  · exact absurd c1 (by decide)
  · replace hr := hr.go (s_aload_n t155_90 rfl)
    replace hr := hr.cvI t155_91 rfl rfl (ct_here_p (b := b) (n := n) (p := s + 1) hG hn hsn (by (repeat rw [xu_row (by decide)]); exact h1) (by (repeat rw [xu_oth (by decide)]); exact h2) (by (repeat rw [xu_oth (by decide)]); exact h3))
    replace hr := hr.go (s_k t155_94)
    rcases hr.bNe t155_96 with ⟨c2, hr⟩ | ⟨c2, hr⟩
    · replace hr := hr.go (s_iload_n t155_106 rfl)
      replace hr := hr.go (s_k t155_107)
      rcases hr.bNe t155_109 with ⟨c3, hr⟩ | ⟨c3, hr⟩
      · exact absurd c3 (by decide)
      · replace hr := hr.go (s_aload_n t155_112 rfl)
        replace hr := hr.cvI t155_113 rfl rfl (ct_here_p (b := b) (n := n) (p := s + 1) hG hn hsn (by (repeat rw [xu_row (by decide)]); exact h1) (by (repeat rw [xu_oth (by decide)]); exact h2) (by (repeat rw [xu_oth (by decide)]); exact h3))
        replace hr := hr.go (s_k t155_116)
        rcases hr.bNe t155_118 with ⟨c4, hr⟩ | ⟨c4, hr⟩
        · replace hr := hr.go (s_iload_n t155_128 rfl)
          replace hr := hr.go (s_k t155_129)
          rcases hr.bNe t155_131 with ⟨c5, hr⟩ | ⟨c5, hr⟩
          · replace hr := hr.go (s_aload_n t155_150 rfl)
            replace hr := hr.go (s_getf t155_151)
            replace hr := hr.go (s_k t155_154)
            rcases hr.bLt t155_157 with ⟨c6, hr⟩ | ⟨c6, hr⟩
            · obtain ⟨rfl, hs⟩ := hr.ret t155_170
              refine ⟨_, _, hs, rfl, ?_, rfl⟩
              rw [show sgV 60 (byt b n (s + 1)) = (60, 1) by unfold sgV; rw [if_pos rfl, if_neg hy1, if_neg hy2]]
              exact xextM (by (repeat rw [xu_oth (by decide)]); rw [xu_same, h2]) rfl rfl (fun a k h => by repeat rw [xu_oth (by omega)])
            · exact absurd c6 (by rw [xu_same]; decide)
          · exact absurd c5 (by decide)
        · exact absurd c4 hy2
    · exact absurd c2 hy1
theorem sg_bd {nf : Bool} {xs : List Int32} {d : Nat} {g : xL} {G : xG} {r : Option Value} {h' : zH} {N : Nat} {m : xM} {S : Int32} {b : Nat → Int32} {n s : Nat} (hG : GM G) (hn : n ≤ 700) (hsn : s + 1 ≤ n) (h1 : m 129 = b) (h2 : m 128 24 = Int32.ofNat (s + 1)) (h3 : m 128 23 = Int32.ofNat n) (hy : byt b n (s + 1) = 61) (hr : RR nf xs d 11 false 2 none zt155 G r h' N (76, [(0, .ref 128), (1, .int 62)], [.int S, .ref 128], m, g)) : ∃ (m' : xM) (g' : xL), HS h' m' g' G ∧ PE none (xu (xu (xu m 128 26 S) 128 27 (sgV 62 (byt b n (s + 1))).1) 128 24 (Int32.ofNat (s + (sgV 62 (byt b n (s + 1))).2))) g r m' g' := by
  have k256 : (256 : Int32).toInt = 256 := rfl
  replace hr := hr.go (s_putf t155_76)
  replace hr := hr.go (s_aload_n t155_79 rfl)
  replace hr := hr.go (s_iload_n t155_80 rfl)
  replace hr := hr.go (s_putf t155_81)
  replace hr := hr.go (s_iload_n t155_84 rfl)
  replace hr := hr.go (s_k t155_85)
  rcases hr.bNe t155_87 with ⟨c1, hr⟩ | ⟨c1, hr⟩
  · replace hr := hr.go (s_iload_n t155_106 rfl)
    replace hr := hr.go (s_k t155_107)
    rcases hr.bNe t155_109 with ⟨c2, hr⟩ | ⟨c2, hr⟩
    · replace hr := hr.go (s_iload_n t155_128 rfl)
      replace hr := hr.go (s_k t155_129)
      rcases hr.bNe t155_131 with ⟨c3, hr⟩ | ⟨c3, hr⟩
      · exact absurd c3 (by decide)
      · replace hr := hr.go (s_aload_n t155_134 rfl)
        replace hr := hr.cvI t155_135 rfl rfl (hy ▸ ct_here_p (b := b) (n := n) (p := s + 1) hG hn hsn (by (repeat rw [xu_row (by decide)]); exact h1) (by (repeat rw [xu_oth (by decide)]); exact h2) (by (repeat rw [xu_oth (by decide)]); exact h3))
        replace hr := hr.go (s_k t155_138)
        rcases hr.bNe t155_140 with ⟨c4, hr⟩ | ⟨c4, hr⟩
        · exact absurd c4 (by decide)
        · replace hr := hr.go (s_aload_n t155_143 rfl)
          replace hr := hr.go (s_k t155_144)
          replace hr := hr.go (s_putf t155_147)
          replace hr := hr.go (s_aload_n t155_150 rfl)
          replace hr := hr.go (s_getf t155_151)
          replace hr := hr.go (s_k t155_154)
          rcases hr.bLt t155_157 with ⟨c5, hr⟩ | ⟨c5, hr⟩
          · exact absurd c5 (by rw [xu_same]; decide)
          · replace hr := hr.go (s_aload_n t155_160 rfl)
            replace hr := hr.go (s_dup t155_161 rfl)
            replace hr := hr.go (s_getf t155_162)
            replace hr := hr.go (s_k t155_165)
            replace hr := hr.go (s_iadd t155_166)
            replace hr := hr.go (s_putf t155_167)
            obtain ⟨rfl, hs⟩ := hr.ret t155_170
            refine ⟨_, _, hs, rfl, ?_, rfl⟩
            rw [show sgV 62 (byt b n (s + 1)) = (258, 2) by unfold sgV; rw [if_neg (by decide), if_pos rfl, if_pos hy]]
            exact xextM (by (repeat rw [xu_oth (by decide)]); rw [xu_same, xu_same]; (repeat rw [xu_oth (by decide)]); rw [h2, xn_1]; rfl) rfl rfl (fun a k h => by repeat rw [xu_oth (by omega)])
    · exact absurd c2 (by decide)
  · exact absurd c1 (by decide)
theorem sg_be {nf : Bool} {xs : List Int32} {d : Nat} {g : xL} {G : xG} {r : Option Value} {h' : zH} {N : Nat} {m : xM} {S : Int32} {b : Nat → Int32} {n s : Nat} (hG : GM G) (hn : n ≤ 700) (hsn : s + 1 ≤ n) (h1 : m 129 = b) (h2 : m 128 24 = Int32.ofNat (s + 1)) (h3 : m 128 23 = Int32.ofNat n) (hy1 : ¬ byt b n (s + 1) = 61) (hr : RR nf xs d 11 false 2 none zt155 G r h' N (76, [(0, .ref 128), (1, .int 62)], [.int S, .ref 128], m, g)) : ∃ (m' : xM) (g' : xL), HS h' m' g' G ∧ PE none (xu (xu (xu m 128 26 S) 128 27 (sgV 62 (byt b n (s + 1))).1) 128 24 (Int32.ofNat (s + (sgV 62 (byt b n (s + 1))).2))) g r m' g' := by
  have k256 : (256 : Int32).toInt = 256 := rfl
  replace hr := hr.go (s_putf t155_76)
  replace hr := hr.go (s_aload_n t155_79 rfl)
  replace hr := hr.go (s_iload_n t155_80 rfl)
  replace hr := hr.go (s_putf t155_81)
  replace hr := hr.go (s_iload_n t155_84 rfl)
  replace hr := hr.go (s_k t155_85)
  rcases hr.bNe t155_87 with ⟨c1, hr⟩ | ⟨c1, hr⟩
  · replace hr := hr.go (s_iload_n t155_106 rfl)
    replace hr := hr.go (s_k t155_107)
    rcases hr.bNe t155_109 with ⟨c2, hr⟩ | ⟨c2, hr⟩
    · replace hr := hr.go (s_iload_n t155_128 rfl)
      replace hr := hr.go (s_k t155_129)
      rcases hr.bNe t155_131 with ⟨c3, hr⟩ | ⟨c3, hr⟩
      · exact absurd c3 (by decide)
      · replace hr := hr.go (s_aload_n t155_134 rfl)
        replace hr := hr.cvI t155_135 rfl rfl (ct_here_p (b := b) (n := n) (p := s + 1) hG hn hsn (by (repeat rw [xu_row (by decide)]); exact h1) (by (repeat rw [xu_oth (by decide)]); exact h2) (by (repeat rw [xu_oth (by decide)]); exact h3))
        replace hr := hr.go (s_k t155_138)
        rcases hr.bNe t155_140 with ⟨c4, hr⟩ | ⟨c4, hr⟩
        · replace hr := hr.go (s_aload_n t155_150 rfl)
          replace hr := hr.go (s_getf t155_151)
          replace hr := hr.go (s_k t155_154)
          rcases hr.bLt t155_157 with ⟨c5, hr⟩ | ⟨c5, hr⟩
          · obtain ⟨rfl, hs⟩ := hr.ret t155_170
            refine ⟨_, _, hs, rfl, ?_, rfl⟩
            rw [show sgV 62 (byt b n (s + 1)) = (62, 1) by unfold sgV; rw [if_neg (by decide), if_pos rfl, if_neg hy1]]
            exact xextM (by (repeat rw [xu_oth (by decide)]); rw [xu_same, h2]) rfl rfl (fun a k h => by repeat rw [xu_oth (by omega)])
          · exact absurd c5 (by rw [xu_same]; decide)
        · exact absurd c4 hy1
    · exact absurd c2 (by decide)
  · exact absurd c1 (by decide)
theorem sg_bf {nf : Bool} {xs : List Int32} {d : Nat} {g : xL} {G : xG} {r : Option Value} {h' : zH} {N : Nat} {m : xM} {S : Int32} {x : Int32} {b : Nat → Int32} {n s : Nat} (hG : GM G) (hn : n ≤ 700) (hsn : s + 1 ≤ n) (h1 : m 129 = b) (h2 : m 128 24 = Int32.ofNat (s + 1)) (h3 : m 128 23 = Int32.ofNat n) (hx1 : ¬ x = 60) (hx2 : ¬ x = 62) (hx3 : x.toInt < 256) (hr : RR nf xs d 11 false 2 none zt155 G r h' N (76, [(0, .ref 128), (1, .int x)], [.int S, .ref 128], m, g)) : ∃ (m' : xM) (g' : xL), HS h' m' g' G ∧ PE none (xu (xu (xu m 128 26 S) 128 27 (sgV x (byt b n (s + 1))).1) 128 24 (Int32.ofNat (s + (sgV x (byt b n (s + 1))).2))) g r m' g' := by
  have k256 : (256 : Int32).toInt = 256 := rfl
  replace hr := hr.go (s_putf t155_76)
  replace hr := hr.go (s_aload_n t155_79 rfl)
  replace hr := hr.go (s_iload_n t155_80 rfl)
  replace hr := hr.go (s_putf t155_81)
  replace hr := hr.go (s_iload_n t155_84 rfl)
  replace hr := hr.go (s_k t155_85)
  rcases hr.bNe t155_87 with ⟨c1, hr⟩ | ⟨c1, hr⟩
  · replace hr := hr.go (s_iload_n t155_106 rfl)
    replace hr := hr.go (s_k t155_107)
    rcases hr.bNe t155_109 with ⟨c2, hr⟩ | ⟨c2, hr⟩
    · replace hr := hr.go (s_iload_n t155_128 rfl)
      replace hr := hr.go (s_k t155_129)
      rcases hr.bNe t155_131 with ⟨c3, hr⟩ | ⟨c3, hr⟩
      · replace hr := hr.go (s_aload_n t155_150 rfl)
        replace hr := hr.go (s_getf t155_151)
        replace hr := hr.go (s_k t155_154)
        rcases hr.bLt t155_157 with ⟨c4, hr⟩ | ⟨c4, hr⟩
        · obtain ⟨rfl, hs⟩ := hr.ret t155_170
          refine ⟨_, _, hs, rfl, ?_, rfl⟩
          rw [show sgV x (byt b n (s + 1)) = (x, 1) by unfold sgV; rw [if_neg hx1, if_neg hx2]]
          exact xextM (by (repeat rw [xu_oth (by decide)]); rw [xu_same, h2]) rfl rfl (fun a k h => by repeat rw [xu_oth (by omega)])
        · exact absurd hx3 (by rw [xu_same, k256] at c4; omega)
      · exact absurd c3 hx2
    · exact absurd c2 hx1
  · exact absurd c1 hx1
theorem ct_signM {nf : Bool} {xs : List Int32} {d : Nat} {m : xM} {g : xL} {G : xG} {b : Nat → Int32} {n s : Nat} {x : Int32} (hG : GM G) (hn : n ≤ 700) (hsn : s < n) (hx : x.toInt < 256) (h1 : m 129 = b) (h2 : m 128 24 = Int32.ofNat s) (h3 : m 128 23 = Int32.ofNat n) : CT nf xs d 155 [.ref 128, .int x] m g G (PE none (xu (xu (xu m 128 26 (bif isg x then 3 else 5)) 128 27 (sgV x (byt b n (s + 1))).1) 128 24 (Int32.ofNat (s + (sgV x (byt b n (s + 1))).2))) g) := by
  refine CT.of (c := 11) (ini := false) (nL := 2) (rt := none) (tab := zt155) rfl (fun d' r h' N hd hr => ?_)
  replace hr : RR nf xs d' 11 false 2 none zt155 G r h' N (0, [(0, .ref 128), (1, .int x)], [], m, g) := hr
  replace hr := sg_a hr
  have q1 : xu m 128 24 (m 128 24 + 1) 129 = b := by rw [xu_row (by decide)]; exact h1
  have q2 : xu m 128 24 (m 128 24 + 1) 128 24 = Int32.ofNat (s + 1) := by rw [xu_same, h2, xn_1]
  have q3 : xu m 128 24 (m 128 24 + 1) 128 23 = Int32.ofNat n := by rw [xu_oth (by decide)]; exact h3
  suffices hq : ∃ (m' : xM) (g' : xL), HS h' m' g' G ∧ PE none (xu (xu (xu (xu m 128 24 (m 128 24 + 1)) 128 26 (bif isg x then 3 else 5)) 128 27 (sgV x (byt b n (s + 1))).1) 128 24 (Int32.ofNat (s + (sgV x (byt b n (s + 1))).2))) g r m' g' by
    obtain ⟨m', g', w1, w2, w3, w4⟩ := hq
    refine ⟨m', g', w1, w2, w3.trans ?_, w4⟩
    exact xextM rfl rfl rfl (fun a k h => by repeat rw [xu_oth (by omega)])
  by_cases hx1 : x = 60
  · subst hx1
    by_cases hy : byt b n (s + 1) = 61
    · exact sg_ba hG hn hsn q1 q2 q3 hy hr
    · by_cases hy2 : byt b n (s + 1) = 62
      · exact sg_bb hG hn hsn q1 q2 q3 hy2 hr
      · exact sg_bc hG hn hsn q1 q2 q3 hy hy2 hr
  · by_cases hx2 : x = 62
    · subst hx2
      by_cases hy : byt b n (s + 1) = 61
      · exact sg_bd hG hn hsn q1 q2 q3 hy hr
      · exact sg_be hG hn hsn q1 q2 q3 hy hr
    · exact sg_bf hG hn hsn q1 q2 q3 hx1 hx2 hx hr
end
section
/-! The reference: names, words. -/
def nmv (b : Nat → Int32) (s e : Nat) : Nat → Nat → Int32 → Int32
  | 0, _, v => v
  | f + 1, k, v => nmv b s e f (k + 1) (v <<< (5 &&& 31) ||| (if s + k < e then b (s + k) - 97 + 1 else 0))

theorem lp157 {nf : Bool} {xs : List Int32} {d : Nat} {g : xL} {G : xG} {r : Option Value} {h' : zH} {b : Nat → Int32} {s e : Nat} (hG : GM G) (he : e ≤ 700) (hse : s ≤ e) : ∀ (N : Nat) (k : Nat) (m : xM), m 129 = b → m 128 25 = Int32.ofNat s → m 128 24 = Int32.ofNat e → k ≤ 6 → RR nf xs d 11 false 2 (none) zt157 G r h' N (7, [(1, .int (Int32.ofNat k)), (0, .ref 128)], [], m, g) → RR nf xs d 11 false 2 (none) zt157 G r h' N (63, [(1, .int (Int32.ofNat 6)), (0, .ref 128)], [], xu m 128 27 (nmv b s e (6 - k) k (m 128 27)), g) := by
  have k1 : (1 : Int32).toInt = 1 := rfl
  have k5 : (5 : Int32).toInt = 5 := rfl
  have k6 : (6 : Int32).toInt = 6 := rfl
  have k97 : (97 : Int32).toInt = 97 := rfl
  intro N
  induction N with
  | zero => intro k m h1 h2 h3 h4 hr; exact hr.no.elim
  | succ N ih =>
    intro k m h1 h2 h3 h4 hr
    replace hr := hr.go1 (s_iload_n t157_7 rfl)
    replace hr := hr.go (s_k t157_8)
    rcases hr.bGe t157_10 with ⟨c1, hr⟩ | ⟨c1, hr⟩
    · have hk : k = 6 := by rw [k6, xn_int (by omega)] at c1; omega
      subst hk
      refine (hr.mono (by omega)).to ?_
      exact (xu_id rfl).symm
    · have hk : k + 1 ≤ 6 := by rw [k6, xn_int (by omega)] at c1; omega
      replace hr := hr.go (s_aload_n t157_13 rfl)
      replace hr := hr.go (s_aload_n t157_14 rfl)
      replace hr := hr.go (s_getf t157_15)
      replace hr := hr.go (s_k t157_18)
      replace hr := hr.go (s_ishl t157_19)
      replace hr := hr.go (s_aload_n t157_20 rfl)
      replace hr := hr.go (s_getf t157_21)
      replace hr := hr.go (s_iload_n t157_24 rfl)
      replace hr := hr.go (s_iadd t157_25)
      rw [h2, xn_add] at hr
      replace hr := hr.go (s_aload_n t157_26 rfl)
      replace hr := hr.go (s_getf t157_27)
      rcases hr.bGe t157_30 with ⟨c2, hr⟩ | ⟨c2, hr⟩
      · rw [h3, xn_int (by omega), xn_int (by omega)] at c2
        replace hr := hr.go (s_k t157_52)
        replace hr := hr.go (s_ior t157_53)
        replace hr := hr.go (s_putf t157_54)
        replace hr := hr.go (s_iinc (ls' := [(1, _), (0, _)]) t157_57 rfl rfl)
        replace hr := hr.go (s_goto t157_60)
        rw [show 6 - k = (6 - (k + 1)) + 1 by omega]
        show RR _ _ _ _ _ _ _ _ _ _ _ (N + 1) (_, _, _, xu m 128 27 (nmv b s e (6 - (k + 1)) (k + 1) (m 128 27 <<< (5 &&& 31) ||| (if s + k < e then b (s + k) - 97 + 1 else 0))), g)
        rw [if_neg (by omega)]
        refine ((ih (k + 1) _ ?_ ?_ ?_ hk (xn_1 ▸ hr)).mono (by omega)).to ?_
        · rw [xu_row (by decide)]; exact h1
        · rw [xu_oth (by decide)]; exact h2
        · rw [xu_oth (by decide)]; exact h3
        · rw [xu_xu, xu_same]
      · rw [h3, xn_int (by omega), xn_int (by omega)] at c2
        replace hr := hr.go (s_aload_n t157_33 rfl)
        replace hr := hr.go (s_getr t157_34 (hG.1))
        replace hr := hr.go (s_aload_n t157_37 rfl)
        replace hr := hr.go (s_getf t157_38)
        replace hr := hr.go (s_iload_n t157_41 rfl)
        replace hr := hr.go (s_iadd t157_42)
        rw [h2, xn_add] at hr
        replace hr := hr.go (s_iaload t157_43 (hG.2))
        rw [xn_nat (by omega), h1] at hr
        replace hr := hr.go (s_k t157_44)
        replace hr := hr.go (s_isub t157_46)
        replace hr := hr.go (s_k t157_47)
        replace hr := hr.go (s_iadd t157_48)
        replace hr := hr.go (s_goto t157_49)
        replace hr := hr.go (s_ior t157_53)
        replace hr := hr.go (s_putf t157_54)
        replace hr := hr.go (s_iinc (ls' := [(1, _), (0, _)]) t157_57 rfl rfl)
        replace hr := hr.go (s_goto t157_60)
        rw [show 6 - k = (6 - (k + 1)) + 1 by omega]
        show RR _ _ _ _ _ _ _ _ _ _ _ (N + 1) (_, _, _, xu m 128 27 (nmv b s e (6 - (k + 1)) (k + 1) (m 128 27 <<< (5 &&& 31) ||| (if s + k < e then b (s + k) - 97 + 1 else 0))), g)
        rw [if_pos (by omega)]
        refine ((ih (k + 1) _ ?_ ?_ ?_ hk (xn_1 ▸ hr)).mono (by omega)).to ?_
        · rw [xu_row (by decide)]; exact h1
        · rw [xu_oth (by decide)]; exact h2
        · rw [xu_oth (by decide)]; exact h3
        · rw [xu_xu, xu_same]

theorem ct_name {nf : Bool} {xs : List Int32} {d : Nat} {m : xM} {g : xL} {G : xG} {b : Nat → Int32} {s e : Nat} (hG : GM G) (he : e ≤ 700) (hse : s ≤ e) (h1 : m 129 = b) (h2 : m 128 25 = Int32.ofNat s) (h3 : m 128 24 = Int32.ofNat e) : CT nf xs d 157 [.ref 128] m g G (PE none (xu m 128 27 (nmv b s e 6 0 0)) g) := by
  refine CT.of (c := 11) (ini := false) (nL := 2) (rt := none) (tab := zt157) rfl (fun d' r h' N hd hr => ?_)
  replace hr : RR nf xs d' 11 false 2 none zt157 G r h' N (0, [(0, .ref 128)], [], m, g) := hr
  replace hr := hr.go (s_aload_n t157_0 rfl)
  replace hr := hr.go (s_k t157_1)
  replace hr := hr.go (s_putf t157_2)
  replace hr := hr.go (s_k t157_5)
  replace hr := hr.go (s_istore_n (ls' := [(1, _), (0, _)]) t157_6 rfl)
  replace hr := lp157 (b := b) hG he hse N 0 _ (by rw [xu_row (by decide)]; exact h1) (by rw [xu_oth (by decide)]; exact h2) (by rw [xu_oth (by decide)]; exact h3) (by omega) hr
  obtain ⟨rfl, hs⟩ := hr.ret t157_63
  exact ⟨_, _, hs, rfl, by rw [xu_xu, xu_same], rfl⟩
def lcp (b : Nat → Int32) (s e k : Nat) : Nat → Nat → Nat
  | 0, i => i
  | f + 1, i => if s + i < e ∧ ¬ chW (k + i) = 32 ∧ b (s + i) = chW (k + i) then lcp b s e k f (i + 1) else i
theorem lcp_t {b : Nat → Int32} {s e k i : Nat} (h1 : s + i < e) (h2 : ¬ chW (k + i) = 32) (h3 : b (s + i) = chW (k + i)) : lcp b s e k (e - (s + i)) i = lcp b s e k (e - (s + (i + 1))) (i + 1) := by
  rw [show e - (s + i) = (e - (s + (i + 1))) + 1 by omega]
  show (if _ then _ else _) = _
  rw [if_pos ⟨h1, h2, h3⟩]
theorem lcp_f {b : Nat → Int32} {s e k i : Nat} (h : ¬ (s + i < e ∧ ¬ chW (k + i) = 32 ∧ b (s + i) = chW (k + i))) : lcp b s e k (e - (s + i)) i = i := by
  cases hf : e - (s + i) with
  | zero => rfl
  | succ f =>
    show (if _ then _ else _) = _
    rw [if_neg h]
/-- the next blank of WORDS -/
def spc : Nat → Nat → Nat
  | 0, k => k
  | f + 1, k => if chW k = 32 then k else spc f (k + 1)

theorem li156A {nf : Bool} {xs : List Int32} {d : Nat} {g : xL} {G : xG} {r : Option Value} {h' : zH} {m : xM} {b : Nat → Int32} {s e k : Nat} {w : Int32} (hG : GM G) (he : e ≤ 700) (hk : k ≤ 113) : ∀ (N : Nat) (i : Nat), m 129 = b → m 128 25 = Int32.ofNat s → m 128 24 = Int32.ofNat e → s + i ≤ e → RR nf xs d 11 false 4 (some .int) zt156 G r h' N (15, [(3, .int (Int32.ofNat i)), (2, .int (Int32.ofNat k)), (1, .int w), (0, .ref 128)], [], m, g) → RR nf xs d 11 false 4 (some .int) zt156 G r h' N (69, [(3, .int (Int32.ofNat (lcp b s e k (e - (s + i)) i))), (2, .int (Int32.ofNat k)), (1, .int w), (0, .ref 128)], [], m, g) := by
  have km1 : (-1 : Int32).toInt = -1 := rfl
  have k32 : (32 : Int32).toInt = 32 := rfl
  intro N
  induction N with
  | zero => intro i h1 h2 h3 h4 hr; exact hr.no.elim
  | succ N ih =>
    intro i h1 h2 h3 h4 hr
    replace hr := hr.go1 (s_ldcX t156_15 rfl)
    replace hr := hr.go (s_iload_n t156_17 rfl)
    replace hr := hr.go (s_iload_n t156_18 rfl)
    replace hr := hr.go (s_iadd t156_19)
    rw [xn_add] at hr
    replace hr := hr.cXI t156_20 rfl rfl (ct_char)
    rw [xn_nat (by omega)] at hr
    replace hr := hr.go (s_k t156_23)
    rcases hr.bEq t156_25 with ⟨c1, hr⟩ | ⟨c1, hr⟩
    · rw [lcp_f (fun q => q.2.1 c1)]
      exact hr.mono (by omega)
    · replace hr := hr.go (s_aload_n t156_28 rfl)
      replace hr := hr.go (s_getf t156_29)
      replace hr := hr.go (s_iload_n t156_32 rfl)
      replace hr := hr.go (s_iadd t156_33)
      rw [h2, xn_add] at hr
      replace hr := hr.go (s_aload_n t156_34 rfl)
      replace hr := hr.go (s_getf t156_35)
      rcases hr.bGe t156_38 with ⟨c2, hr⟩ | ⟨c2, hr⟩
      · rw [lcp_f (fun q => by rw [h3, xn_int (by omega), xn_int (by omega)] at c2; omega)]
        exact hr.mono (by omega)
      · have hlt : s + i < e := by rw [h3, xn_int (by omega), xn_int (by omega)] at c2; omega
        replace hr := hr.go (s_aload_n t156_41 rfl)
        replace hr := hr.go (s_getr t156_42 (hG.1))
        replace hr := hr.go (s_aload_n t156_45 rfl)
        replace hr := hr.go (s_getf t156_46)
        replace hr := hr.go (s_iload_n t156_49 rfl)
        replace hr := hr.go (s_iadd t156_50)
        rw [h2, xn_add] at hr
        replace hr := hr.go (s_iaload t156_51 (hG.2))
        rw [xn_nat (by omega), h1] at hr
        replace hr := hr.go (s_ldcX t156_52 rfl)
        replace hr := hr.go (s_iload_n t156_54 rfl)
        replace hr := hr.go (s_iload_n t156_55 rfl)
        replace hr := hr.go (s_iadd t156_56)
        rw [xn_add] at hr
        replace hr := hr.cXI t156_57 rfl rfl (ct_char)
        rw [xn_nat (by omega)] at hr
        rcases hr.bNe t156_60 with ⟨c3, hr⟩ | ⟨c3, hr⟩
        · rw [lcp_f (fun q => c3 q.2.2)]
          exact hr.mono (by omega)
        · replace hr := hr.go (s_iinc (ls' := [(3, _), (2, _), (1, _), (0, _)]) t156_63 rfl rfl)
          replace hr := hr.go (s_goto t156_66)
          rw [lcp_t hlt c1 c3]
          exact (ih (i + 1) h1 h2 h3 (by omega) (xn_1 ▸ hr)).mono (by omega)

theorem li156B {nf : Bool} {xs : List Int32} {d : Nat} {g : xL} {G : xG} {r : Option Value} {h' : zH} {m : xM} {b : Nat → Int32} {s e k : Nat} {w : Int32} (hG : GM G) (he : e ≤ 700) (hk : k ≤ 113) : ∀ (N : Nat) (i : Nat), m 129 = b → m 128 25 = Int32.ofNat s → m 128 24 = Int32.ofNat e → s + i ≤ e → RR nf xs d 11 false 4 (some .int) zt156 G r h' N (15, [(3, .int (Int32.ofNat i)), (1, .int w), (2, .int (Int32.ofNat k)), (0, .ref 128)], [], m, g) → RR nf xs d 11 false 4 (some .int) zt156 G r h' N (69, [(3, .int (Int32.ofNat (lcp b s e k (e - (s + i)) i))), (1, .int w), (2, .int (Int32.ofNat k)), (0, .ref 128)], [], m, g) := by
  have km1 : (-1 : Int32).toInt = -1 := rfl
  have k32 : (32 : Int32).toInt = 32 := rfl
  intro N
  induction N with
  | zero => intro i h1 h2 h3 h4 hr; exact hr.no.elim
  | succ N ih =>
    intro i h1 h2 h3 h4 hr
    replace hr := hr.go1 (s_ldcX t156_15 rfl)
    replace hr := hr.go (s_iload_n t156_17 rfl)
    replace hr := hr.go (s_iload_n t156_18 rfl)
    replace hr := hr.go (s_iadd t156_19)
    rw [xn_add] at hr
    replace hr := hr.cXI t156_20 rfl rfl (ct_char)
    rw [xn_nat (by omega)] at hr
    replace hr := hr.go (s_k t156_23)
    rcases hr.bEq t156_25 with ⟨c1, hr⟩ | ⟨c1, hr⟩
    · rw [lcp_f (fun q => q.2.1 c1)]
      exact hr.mono (by omega)
    · replace hr := hr.go (s_aload_n t156_28 rfl)
      replace hr := hr.go (s_getf t156_29)
      replace hr := hr.go (s_iload_n t156_32 rfl)
      replace hr := hr.go (s_iadd t156_33)
      rw [h2, xn_add] at hr
      replace hr := hr.go (s_aload_n t156_34 rfl)
      replace hr := hr.go (s_getf t156_35)
      rcases hr.bGe t156_38 with ⟨c2, hr⟩ | ⟨c2, hr⟩
      · rw [lcp_f (fun q => by rw [h3, xn_int (by omega), xn_int (by omega)] at c2; omega)]
        exact hr.mono (by omega)
      · have hlt : s + i < e := by rw [h3, xn_int (by omega), xn_int (by omega)] at c2; omega
        replace hr := hr.go (s_aload_n t156_41 rfl)
        replace hr := hr.go (s_getr t156_42 (hG.1))
        replace hr := hr.go (s_aload_n t156_45 rfl)
        replace hr := hr.go (s_getf t156_46)
        replace hr := hr.go (s_iload_n t156_49 rfl)
        replace hr := hr.go (s_iadd t156_50)
        rw [h2, xn_add] at hr
        replace hr := hr.go (s_iaload t156_51 (hG.2))
        rw [xn_nat (by omega), h1] at hr
        replace hr := hr.go (s_ldcX t156_52 rfl)
        replace hr := hr.go (s_iload_n t156_54 rfl)
        replace hr := hr.go (s_iload_n t156_55 rfl)
        replace hr := hr.go (s_iadd t156_56)
        rw [xn_add] at hr
        replace hr := hr.cXI t156_57 rfl rfl (ct_char)
        rw [xn_nat (by omega)] at hr
        rcases hr.bNe t156_60 with ⟨c3, hr⟩ | ⟨c3, hr⟩
        · rw [lcp_f (fun q => c3 q.2.2)]
          exact hr.mono (by omega)
        · replace hr := hr.go (s_iinc (ls' := [(3, _), (1, _), (2, _), (0, _)]) t156_63 rfl rfl)
          replace hr := hr.go (s_goto t156_66)
          rw [lcp_t hlt c1 c3]
          exact (ih (i + 1) h1 h2 h3 (by omega) (xn_1 ▸ hr)).mono (by omega)

theorem ch112 : chW 112 = 32 := by decide +kernel
theorem spc_t {k : Nat} (h : k ≤ 112) (hc : chW k = 32) : spc (113 - k) k = k := by
  rw [show 113 - k = (113 - (k + 1)) + 1 by omega]
  show (if _ then _ else _) = _
  rw [if_pos hc]
theorem spc_f {k : Nat} (h : k ≤ 112) (hc : ¬ chW k = 32) : spc (113 - k) k = spc (113 - (k + 1)) (k + 1) := by
  rw [show 113 - k = (113 - (k + 1)) + 1 by omega]
  show (if _ then _ else _) = _
  rw [if_neg hc]
theorem spc_le : ∀ (f k : Nat), 113 - k = f → k ≤ 112 → k ≤ spc (113 - k) k ∧ spc (113 - k) k ≤ 112 := by
  intro f
  induction f with
  | zero => intro k h1 h2; omega
  | succ f ih =>
    intro k h1 h2
    by_cases hc : chW k = 32
    · rw [spc_t h2 hc]; omega
    · have : ¬ k = 112 := fun q => by rw [q] at hc; exact hc ch112
      rw [spc_f h2 hc]
      have := ih (k + 1) (by omega) (by omega)
      omega
theorem lcp_le {b : Nat → Int32} {s e k : Nat} : ∀ (f i : Nat), e - (s + i) = f → s + i ≤ e → s + lcp b s e k (e - (s + i)) i ≤ e := by
  intro f
  induction f with
  | zero =>
    intro i h1 h2
    rw [h1]
    exact h2
  | succ f ih =>
    intro i h1 h2
    by_cases hc : s + i < e ∧ ¬ chW (k + i) = 32 ∧ b (s + i) = chW (k + i)
    · rw [lcp_t hc.1 hc.2.1 hc.2.2]
      exact ih (i + 1) (by omega) (by omega)
    · rw [lcp_f hc]
      exact h2
theorem xn_inj {a b : Nat} (ha : a < 2147483648) (hb : b < 2147483648) (h : Int32.ofNat a = Int32.ofNat b) : a = b := by
  have := congrArg Int32.toInt h
  rw [xn_int ha, xn_int hb] at this
  omega
theorem xn_1i {p : Nat} : Int32.ofNat p + Int32.ofInt 1 = Int32.ofNat (p + 1) := xn_1
def wdM (b : Nat → Int32) (s e : Nat) : Nat → Nat → Nat → Int32
  | 0, _, _ => -1
  | f + 1, k, w => if 113 ≤ k then -1 else if chW (k + lcp b s e k (e - s) 0) = 32 ∧ s + lcp b s e k (e - s) 0 = e then Int32.ofNat w else wdM b s e f (spc (113 - k) k + 1) (w + 1)
theorem wdM_up {b : Nat → Int32} {s e : Nat} : ∀ (f f' k w : Nat), 114 - k ≤ f → 114 - k ≤ f' → k ≤ 113 → wdM b s e f k w = wdM b s e f' k w := by
  intro f
  induction f with
  | zero => intro f' k w h1 h2 h3; omega
  | succ f ih =>
    intro f' k w h1 h2 h3
    cases f' with
    | zero => omega
    | succ f' =>
      unfold wdM
      by_cases hk : 113 ≤ k
      · rw [if_pos hk, if_pos hk]
      · rw [if_neg hk, if_neg hk]
        have := spc_le _ k rfl (by omega)
        rw [ih f' _ _ (by omega) (by omega) (by omega)]
theorem lk156 {nf : Bool} {xs : List Int32} {d : Nat} {g : xL} {G : xG} {r : Option Value} {h' : zH} {m : xM} {i w : Int32} : ∀ (N : Nat) (k : Nat), k ≤ 112 → RR nf xs d 11 false 4 (some .int) zt156 G r h' N (97, [(2, .int (Int32.ofNat k)), (3, .int i), (1, .int w), (0, .ref 128)], [], m, g) → RR nf xs d 11 false 4 (some .int) zt156 G r h' N (114, [(2, .int (Int32.ofNat (spc (113 - k) k))), (3, .int i), (1, .int w), (0, .ref 128)], [], m, g) := by
  have km1 : (-1 : Int32).toInt = -1 := rfl
  have k32 : (32 : Int32).toInt = 32 := rfl
  intro N
  induction N with
  | zero => intro k h1 hr; exact hr.no.elim
  | succ N ih =>
    intro k h1 hr
    replace hr := hr.go1 (s_ldcX t156_97 rfl)
    replace hr := hr.go (s_iload_n t156_99 rfl)
    replace hr := hr.cXI t156_100 rfl rfl (ct_char)
    rw [xn_nat (by omega)] at hr
    replace hr := hr.go (s_k t156_103)
    rcases hr.bEq t156_105 with ⟨c1, hr⟩ | ⟨c1, hr⟩
    · rw [spc_t h1 c1]
      exact hr.mono (by omega)
    · replace hr := hr.go (s_iinc (ls' := [(2, _), (3, _), (1, _), (0, _)]) t156_108 rfl rfl)
      replace hr := hr.go (s_goto t156_111)
      have hne : ¬ k = 112 := fun q => by rw [q] at c1; exact c1 ch112
      rw [spc_f h1 c1]
      exact (ih (k + 1) (by omega) (xn_1 ▸ hr)).mono (by omega)

theorem le156A {nf : Bool} {xs : List Int32} {d : Nat} {g : xL} {G : xG} {r : Option Value} {h' : zH} {N k : Nat} {m : xM} {i w : Int32} (h1 : k ≤ 112) (hr : RR nf xs d 11 false 4 (some .int) zt156 G r h' N (97, [(3, .int i), (2, .int (Int32.ofNat k)), (1, .int w), (0, .ref 128)], [], m, g)) : RR nf xs d 11 false 4 (some .int) zt156 G r h' N (117, [(2, .int (Int32.ofNat ((spc (113 - k) k) + 1))), (3, .int i), (1, .int w), (0, .ref 128)], [], m, g) := by
  replace hr := hr.go (s_ldcX t156_97 rfl)
  replace hr := hr.go (s_iload_n t156_99 rfl)
  replace hr := hr.cXI t156_100 rfl rfl (ct_char)
  rw [xn_nat (by omega)] at hr
  replace hr := hr.go (s_k t156_103)
  rcases hr.bEq t156_105 with ⟨c1, hr⟩ | ⟨c1, hr⟩
  · replace hr := hr.go (s_iinc (ls' := [(2, _), (3, _), (1, _), (0, _)]) t156_114 rfl rfl)
    rw [spc_t h1 c1]
    exact xn_1 ▸ hr
  · replace hr := hr.go (s_iinc (ls' := [(2, _), (3, _), (1, _), (0, _)]) t156_108 rfl rfl)
    replace hr := hr.go (s_goto t156_111)
    have hne : ¬ k = 112 := fun q => by rw [q] at c1; exact c1 ch112
    rw [spc_f h1 c1]
    replace hr := lk156 N (k + 1) (by omega) (xn_1 ▸ hr)
    replace hr := hr.go (s_iinc (ls' := [(2, _), (3, _), (1, _), (0, _)]) t156_114 rfl rfl)
    exact xn_1 ▸ hr
theorem le156B {nf : Bool} {xs : List Int32} {d : Nat} {g : xL} {G : xG} {r : Option Value} {h' : zH} {N k : Nat} {m : xM} {i w : Int32} (h1 : k ≤ 112) (hr : RR nf xs d 11 false 4 (some .int) zt156 G r h' N (97, [(3, .int i), (1, .int w), (2, .int (Int32.ofNat k)), (0, .ref 128)], [], m, g)) : RR nf xs d 11 false 4 (some .int) zt156 G r h' N (117, [(2, .int (Int32.ofNat ((spc (113 - k) k) + 1))), (3, .int i), (1, .int w), (0, .ref 128)], [], m, g) := by
  replace hr := hr.go (s_ldcX t156_97 rfl)
  replace hr := hr.go (s_iload_n t156_99 rfl)
  replace hr := hr.cXI t156_100 rfl rfl (ct_char)
  rw [xn_nat (by omega)] at hr
  replace hr := hr.go (s_k t156_103)
  rcases hr.bEq t156_105 with ⟨c1, hr⟩ | ⟨c1, hr⟩
  · replace hr := hr.go (s_iinc (ls' := [(2, _), (3, _), (1, _), (0, _)]) t156_114 rfl rfl)
    rw [spc_t h1 c1]
    exact xn_1 ▸ hr
  · replace hr := hr.go (s_iinc (ls' := [(2, _), (3, _), (1, _), (0, _)]) t156_108 rfl rfl)
    replace hr := hr.go (s_goto t156_111)
    have hne : ¬ k = 112 := fun q => by rw [q] at c1; exact c1 ch112
    rw [spc_f h1 c1]
    replace hr := lk156 N (k + 1) (by omega) (xn_1 ▸ hr)
    replace hr := hr.go (s_iinc (ls' := [(2, _), (3, _), (1, _), (0, _)]) t156_114 rfl rfl)
    exact xn_1 ▸ hr
theorem lo156 {nf : Bool} {xs : List Int32} {d : Nat} {g : xL} {G : xG} {r : Option Value} {h' : zH} {m : xM} {b : Nat → Int32} {s e : Nat} (hG : GM G) (he : e ≤ 700) (hse : s ≤ e) (h1 : m 129 = b) (h2 : m 128 25 = Int32.ofNat s) (h3 : m 128 24 = Int32.ofNat e) : ∀ (N k w : Nat) (i : Int32), k ≤ 113 → RR nf xs d 11 false 4 (some .int) zt156 G r h' N (4, [(1, .int (Int32.ofNat w)), (2, .int (Int32.ofNat k)), (3, .int i), (0, .ref 128)], [], m, g) → ∃ (m' : xM) (g' : xL), HS h' m' g' G ∧ PE (some (.int (wdM b s e (114 - k) k w))) m g r m' g' := by
  intro N
  induction N with
  | zero => intro k w i hk0 hr; exact hr.no.elim
  | succ N ih =>
    intro k w i hk0 hr
    replace hr := hr.go1 (s_iload_n t156_4 rfl)
    replace hr := hr.go (s_ldcX t156_5 rfl)
    replace hr := hr.cXI t156_7 rfl rfl (ct_len)
    have k113 : (Int32.ofNat zwords.length >>> (0 &&& 31)).toInt = 113 := by decide +kernel
    rcases hr.bGe t156_10 with ⟨c1, hr⟩ | ⟨c1, hr⟩
    · replace hr := hr.go (s_k t156_123)
      obtain ⟨rfl, hs⟩ := hr.iret t156_124
      refine ⟨_, _, hs, congrArg (fun z => some (Value.int z)) ?_, rfl, rfl⟩
      have hk : k = 113 := by rw [k113, xn_int (by omega)] at c1; omega
      subst hk
      rfl
    · have hk : k ≤ 112 := by rw [k113, xn_int (by omega)] at c1; omega
      replace hr := hr.go (s_k t156_13)
      replace hr := hr.go (s_istore_n (ls' := [(3, _), (1, _), (2, _), (0, _)]) t156_14 rfl)
      replace hr := li156B hG he (by omega) N 0 h1 h2 h3 (by omega) hr
      rw [Nat.add_zero] at hr
      have hlc := lcp_le (b := b) (s := s) (e := e) (k := k) _ 0 rfl (by omega)
      rw [Nat.add_zero] at hlc
      replace hr := hr.go (s_ldcX t156_69 rfl)
      replace hr := hr.go (s_iload_n t156_71 rfl)
      replace hr := hr.go (s_iload_n t156_72 rfl)
      replace hr := hr.go (s_iadd t156_73)
      rw [xn_add] at hr
      replace hr := hr.cXI t156_74 rfl rfl (ct_char)
      rw [xn_nat (by omega)] at hr
      replace hr := hr.go (s_k t156_77)
      rcases hr.bNe t156_79 with ⟨c21, hr⟩ | ⟨c21, hr⟩
      · replace hr := le156B hk hr
        have hsp := spc_le _ k rfl hk
        replace hr := hr.go (s_iinc (ls' := [(1, _), (2, _), (3, _), (0, _)]) t156_117 rfl rfl)
        replace hr := hr.go (s_goto t156_120)
        rw [xn_1i] at hr
        have e : wdM b s e (114 - k) k w = wdM b s e (114 - (spc (113 - k) k + 1)) (spc (113 - k) k + 1) (w + 1) := by
          rw [show 114 - k = (113 - k) + 1 by omega]
          show (if _ then _ else _) = _
          rw [if_neg (by omega), if_neg (fun q => c21 q.1)]
          exact wdM_up _ _ _ _ (by omega) (by omega) (by omega)
        rw [e]
        exact ih _ _ _ (by omega) hr
      · replace hr := hr.go (s_aload_n t156_82 rfl)
        replace hr := hr.go (s_getf t156_83)
        replace hr := hr.go (s_iload_n t156_86 rfl)
        replace hr := hr.go (s_iadd t156_87)
        rw [h2, xn_add] at hr
        replace hr := hr.go (s_aload_n t156_88 rfl)
        replace hr := hr.go (s_getf t156_89)
        rcases hr.bNe t156_92 with ⟨c22, hr⟩ | ⟨c22, hr⟩
        · replace hr := le156B hk hr
          have hsp := spc_le _ k rfl hk
          replace hr := hr.go (s_iinc (ls' := [(1, _), (2, _), (3, _), (0, _)]) t156_117 rfl rfl)
          replace hr := hr.go (s_goto t156_120)
          rw [xn_1i] at hr
          have e : wdM b s e (114 - k) k w = wdM b s e (114 - (spc (113 - k) k + 1)) (spc (113 - k) k + 1) (w + 1) := by
            rw [show 114 - k = (113 - k) + 1 by omega]
            show (if _ then _ else _) = _
            rw [if_neg (by omega), if_neg (fun q => c22 (by rw [h3, q.2]))]
            exact wdM_up _ _ _ _ (by omega) (by omega) (by omega)
          rw [e]
          exact ih _ _ _ (by omega) hr
        · replace hr := hr.go (s_iload_n t156_95 rfl)
          obtain ⟨rfl, hs⟩ := hr.iret t156_96
          refine ⟨_, _, hs, congrArg (fun z => some (Value.int z)) ?_, rfl, rfl⟩
          rw [show 114 - k = (113 - k) + 1 by omega]
          show _ = if _ then _ else _
          rw [if_neg (by omega), if_pos ⟨c21, xn_inj (by omega) (by omega) (c22.trans h3)⟩]
theorem ct_wordM {nf : Bool} {xs : List Int32} {d : Nat} {m : xM} {g : xL} {G : xG} {b : Nat → Int32} {s e : Nat} (hG : GM G) (he : e ≤ 700) (hse : s ≤ e) (h1 : m 129 = b) (h2 : m 128 25 = Int32.ofNat s) (h3 : m 128 24 = Int32.ofNat e) : CT nf xs d 156 [.ref 128] m g G (PE (some (.int (wdM b s e 114 0 0))) m g) := by
  refine CT.of (c := 11) (ini := false) (nL := 4) (rt := some .int) (tab := zt156) rfl (fun d' r h' N hd hr => ?_)
  replace hr : RR nf xs d' 11 false 4 (some .int) zt156 G r h' N (0, [(0, .ref 128)], [], m, g) := hr
  replace hr := hr.go (s_k t156_0)
  replace hr := hr.go (s_istore_n (ls' := [(1, _), (0, _)]) t156_1 rfl)
  replace hr := hr.go (s_k t156_2)
  replace hr := hr.go (s_istore_n (ls' := [(2, _), (1, _), (0, _)]) t156_3 rfl)
  have hk0 : (0 : Nat) ≤ 113 := by omega
  obtain ⟨k, ek⟩ : ∃ k : Nat, k = 0 := ⟨0, rfl⟩
  obtain ⟨w, ew⟩ : ∃ w : Nat, w = 0 := ⟨0, rfl⟩
  have e0 : wdM b s e 114 0 0 = wdM b s e (114 - k) k w := by rw [ek, ew]
  rw [e0]
  replace hr : RR nf xs d' 11 false 4 (some .int) zt156 G r h' N (4, [(2, .int (Int32.ofNat k)), (1, .int (Int32.ofNat w)), (0, .ref 128)], [], m, g) := by rw [ek, ew]; exact hr
  rw [← ek] at hk0
  clear ek ew e0
  replace hr := hr.go (s_iload_n t156_4 rfl)
  replace hr := hr.go (s_ldcX t156_5 rfl)
  replace hr := hr.cXI t156_7 rfl rfl (ct_len)
  have k113 : (Int32.ofNat zwords.length >>> (0 &&& 31)).toInt = 113 := by decide +kernel
  rcases hr.bGe t156_10 with ⟨c1, hr⟩ | ⟨c1, hr⟩
  · replace hr := hr.go (s_k t156_123)
    obtain ⟨rfl, hs⟩ := hr.iret t156_124
    refine ⟨_, _, hs, congrArg (fun z => some (Value.int z)) ?_, rfl, rfl⟩
    have hk : k = 113 := by rw [k113, xn_int (by omega)] at c1; omega
    subst hk
    rfl
  · have hk : k ≤ 112 := by rw [k113, xn_int (by omega)] at c1; omega
    replace hr := hr.go (s_k t156_13)
    replace hr := hr.go (s_istore_n (ls' := [(3, _), (2, _), (1, _), (0, _)]) t156_14 rfl)
    replace hr := li156A hG he (by omega) N 0 h1 h2 h3 (by omega) hr
    rw [Nat.add_zero] at hr
    have hlc := lcp_le (b := b) (s := s) (e := e) (k := k) _ 0 rfl (by omega)
    rw [Nat.add_zero] at hlc
    replace hr := hr.go (s_ldcX t156_69 rfl)
    replace hr := hr.go (s_iload_n t156_71 rfl)
    replace hr := hr.go (s_iload_n t156_72 rfl)
    replace hr := hr.go (s_iadd t156_73)
    rw [xn_add] at hr
    replace hr := hr.cXI t156_74 rfl rfl (ct_char)
    rw [xn_nat (by omega)] at hr
    replace hr := hr.go (s_k t156_77)
    rcases hr.bNe t156_79 with ⟨c21, hr⟩ | ⟨c21, hr⟩
    · replace hr := le156A hk hr
      have hsp := spc_le _ k rfl hk
      replace hr := hr.go (s_iinc (ls' := [(1, _), (2, _), (3, _), (0, _)]) t156_117 rfl rfl)
      replace hr := hr.go (s_goto t156_120)
      rw [xn_1i] at hr
      have e : wdM b s e (114 - k) k w = wdM b s e (114 - (spc (113 - k) k + 1)) (spc (113 - k) k + 1) (w + 1) := by
        rw [show 114 - k = (113 - k) + 1 by omega]
        show (if _ then _ else _) = _
        rw [if_neg (by omega), if_neg (fun q => c21 q.1)]
        exact wdM_up _ _ _ _ (by omega) (by omega) (by omega)
      rw [e]
      exact lo156 hG he hse h1 h2 h3 N _ _ _ (by omega) hr
    · replace hr := hr.go (s_aload_n t156_82 rfl)
      replace hr := hr.go (s_getf t156_83)
      replace hr := hr.go (s_iload_n t156_86 rfl)
      replace hr := hr.go (s_iadd t156_87)
      rw [h2, xn_add] at hr
      replace hr := hr.go (s_aload_n t156_88 rfl)
      replace hr := hr.go (s_getf t156_89)
      rcases hr.bNe t156_92 with ⟨c22, hr⟩ | ⟨c22, hr⟩
      · replace hr := le156A hk hr
        have hsp := spc_le _ k rfl hk
        replace hr := hr.go (s_iinc (ls' := [(1, _), (2, _), (3, _), (0, _)]) t156_117 rfl rfl)
        replace hr := hr.go (s_goto t156_120)
        rw [xn_1i] at hr
        have e : wdM b s e (114 - k) k w = wdM b s e (114 - (spc (113 - k) k + 1)) (spc (113 - k) k + 1) (w + 1) := by
          rw [show 114 - k = (113 - k) + 1 by omega]
          show (if _ then _ else _) = _
          rw [if_neg (by omega), if_neg (fun q => c22 (by rw [h3, q.2]))]
          exact wdM_up _ _ _ _ (by omega) (by omega) (by omega)
        rw [e]
        exact lo156 hG he hse h1 h2 h3 N _ _ _ (by omega) hr
      · replace hr := hr.go (s_iload_n t156_95 rfl)
        obtain ⟨rfl, hs⟩ := hr.iret t156_96
        refine ⟨_, _, hs, congrArg (fun z => some (Value.int z)) ?_, rfl, rfl⟩
        rw [show 114 - k = (113 - k) + 1 by omega]
        show _ = if _ then _ else _
        rw [if_neg (by omega), if_pos ⟨c21, xn_inj (by omega) (by omega) (c22.trans h3)⟩]
end
section
/-! The reference: the next token. -/
def fR (v c : Int32) : Int32 := if 99999 < v.toInt then v else 10 * v + c - 48
theorem byt_in {b : Nat → Int32} {n p : Nat} {x : Int32} (h : byt b n p = x) (hx : ¬ x = -1) : p < n ∧ b p = x := by
  unfold byt at h
  by_cases hp : p < n
  · rw [if_pos hp] at h; exact ⟨hp, h⟩
  · rw [if_neg hp] at h; exact absurd h.symm hx
theorem byt_lt {b : Nat → Int32} {n p : Nat} (h : p < n) : byt b n p = b p := by unfold byt; rw [if_pos h]
theorem byt_ge {b : Nat → Int32} {n p : Nat} (h : n ≤ p) : byt b n p = -1 := by unfold byt; rw [if_neg (by omega)]
theorem xn_sub {s e : Nat} (h : s ≤ e) : Int32.ofNat e - Int32.ofNat s = Int32.ofNat (e - s) := by
  have := xn_add (p := e - s) (k := s)
  rw [show e - s + s = e by omega] at this
  rw [← this, Int32.add_sub_cancel]
theorem xextN {m1 m2 : xM} (h3 : m1 128 24 = m2 128 24) (h6 : m1 128 25 = m2 128 25) (h4 : m1 128 26 = m2 128 26) (h5 : m1 128 27 = m2 128 27) (ho : ∀ a k : Nat, ¬ (a = 128 ∧ 24 ≤ k ∧ k ≤ 27) → m1 a k = m2 a k) : m1 = m2 := by
  funext a k
  by_cases h : a = 128 ∧ 24 ≤ k ∧ k ≤ 27
  · obtain ⟨rfl, q1, q2⟩ := h
    rcases (show k = 24 ∨ k = 25 ∨ k = 26 ∨ k = 27 by omega) with rfl | rfl | rfl | rfl
    · exact h3
    · exact h6
    · exact h4
    · exact h5
  · exact ho a k h
def tokM (b : Nat → Int32) (n p : Nat) (old : Int32) : Int32 × Int32 × Nat × Nat :=
  if n ≤ (scn blk fU b n p ()).1 then (4, old, (scn blk fU b n p ()).1, (scn blk fU b n p ()).1)
  else if ltr (b (scn blk fU b n p ()).1) = true then
    (if ¬ wdM b (scn blk fU b n p ()).1 (scn ltr fU b n (scn blk fU b n p ()).1 ()).1 114 0 0 = -1 then (0, wdM b (scn blk fU b n p ()).1 (scn ltr fU b n (scn blk fU b n p ()).1 ()).1 114 0 0, (scn blk fU b n p ()).1, (scn ltr fU b n (scn blk fU b n p ()).1 ()).1)
     else if 6 < (scn ltr fU b n (scn blk fU b n p ()).1 ()).1 - (scn blk fU b n p ()).1 then (5, -1, (scn blk fU b n p ()).1, (scn ltr fU b n (scn blk fU b n p ()).1 ()).1)
     else (1, nmv b (scn blk fU b n p ()).1 (scn ltr fU b n (scn blk fU b n p ()).1 ()).1 6 0 0, (scn blk fU b n p ()).1, (scn ltr fU b n (scn blk fU b n p ()).1 ()).1))
  else if dgt (b (scn blk fU b n p ()).1) = true then (2, (scn dgt fR b n (scn blk fU b n p ()).1 0).2, (scn blk fU b n p ()).1, (scn dgt fR b n (scn blk fU b n p ()).1 0).1)
  else (bif isg (b (scn blk fU b n p ()).1) then 3 else 5, (sgV (b (scn blk fU b n p ()).1) (byt b n ((scn blk fU b n p ()).1 + 1))).1, (scn blk fU b n p ()).1, (scn blk fU b n p ()).1 + (sgV (b (scn blk fU b n p ()).1) (byt b n ((scn blk fU b n p ()).1 + 1))).2)
def tkR (m : xM) (t : Int32 × Int32 × Nat × Nat) : xM := xu (xu (xu (xu m 128 25 (Int32.ofNat t.2.2.1)) 128 26 t.1) 128 27 t.2.1) 128 24 (Int32.ofNat t.2.2.2)

theorem lp154a {nf : Bool} {xs : List Int32} {d : Nat} {g : xL} {G : xG} {r : Option Value} {h' : zH} {b : Nat → Int32} {n : Nat} (hG : GM G) (hn : n ≤ 700) : ∀ (N : Nat) (p : Nat) (m : xM), m 129 = b → m 128 24 = Int32.ofNat p → m 128 23 = Int32.ofNat n → p ≤ n → RR nf xs d 11 false 2 (none) zt154 G r h' N (0, [(0, .ref 128)], [], m, g) → RR nf xs d 11 false 2 (none) zt154 G r h' N (31, [(0, .ref 128)], [], xu m 128 24 (Int32.ofNat (scn blk fU b n p ()).1), g) := by
  have km1 : (-1 : Int32).toInt = -1 := rfl
  have k1 : (1 : Int32).toInt = 1 := rfl
  have k2 : (2 : Int32).toInt = 2 := rfl
  have k4 : (4 : Int32).toInt = 4 := rfl
  have k5 : (5 : Int32).toInt = 5 := rfl
  have k6 : (6 : Int32).toInt = 6 := rfl
  have k10 : (10 : Int32).toInt = 10 := rfl
  have k32 : (32 : Int32).toInt = 32 := rfl
  have k48 : (48 : Int32).toInt = 48 := rfl
  intro N
  induction N with
  | zero => intro p m h1 h2 h3 h4 hr; exact hr.no.elim
  | succ N ih =>
    intro p m h1 h2 h3 h4 hr
    replace hr := hr.go1 (s_aload_n t154_0 rfl)
    replace hr := hr.cvI t154_1 rfl rfl (ct_here_p (b := b) (n := n) (p := p) hG hn (by omega) (by (repeat rw [xu_row (by decide)]); exact h1) (by (repeat rw [xu_oth (by decide)]); exact h2) (by (repeat rw [xu_oth (by decide)]); exact h3))
    replace hr := hr.go (s_k t154_4)
    rcases hr.bEq t154_6 with ⟨c1, hr⟩ | ⟨c1, hr⟩
    · replace hr := hr.go (s_aload_n t154_18 rfl)
      replace hr := hr.go (s_dup t154_19 rfl)
      replace hr := hr.go (s_getf t154_20)
      replace hr := hr.go (s_k t154_23)
      replace hr := hr.go (s_iadd t154_24)
      replace hr := hr.go (s_putf t154_25)
      replace hr := hr.go (s_goto t154_28)
      have hq := byt_in c1 (by decide)
      rw [scn_t hq.1 (blk_t (Or.inl hq.2))]
      refine ((ih (p + 1) _ ?_ ?_ ?_ hq.1 hr).mono (by omega)).to ?_
      · rw [xu_row (by decide)]; exact h1
      · rw [xu_same, h2, xn_1]
      · rw [xu_oth (by decide), h3]
      · exact xu_xu
    · replace hr := hr.go (s_aload_n t154_9 rfl)
      replace hr := hr.cvI t154_10 rfl rfl (ct_here_p (b := b) (n := n) (p := p) hG hn (by omega) (by (repeat rw [xu_row (by decide)]); exact h1) (by (repeat rw [xu_oth (by decide)]); exact h2) (by (repeat rw [xu_oth (by decide)]); exact h3))
      replace hr := hr.go (s_k t154_13)
      rcases hr.bNe t154_15 with ⟨c2, hr⟩ | ⟨c2, hr⟩
      · rw [scn_f (fun q => by rw [byt_lt q] at c1 c2; exact blk_f c1 c2)]
        refine (hr.mono (by omega)).to ?_
        exact (xu_id h2).symm
      · replace hr := hr.go (s_aload_n t154_18 rfl)
        replace hr := hr.go (s_dup t154_19 rfl)
        replace hr := hr.go (s_getf t154_20)
        replace hr := hr.go (s_k t154_23)
        replace hr := hr.go (s_iadd t154_24)
        replace hr := hr.go (s_putf t154_25)
        replace hr := hr.go (s_goto t154_28)
        have hq := byt_in c2 (by decide)
        rw [scn_t hq.1 (blk_t (Or.inr hq.2))]
        refine ((ih (p + 1) _ ?_ ?_ ?_ hq.1 hr).mono (by omega)).to ?_
        · rw [xu_row (by decide)]; exact h1
        · rw [xu_same, h2, xn_1]
        · rw [xu_oth (by decide), h3]
        · exact xu_xu

theorem lp154b {nf : Bool} {xs : List Int32} {d : Nat} {g : xL} {G : xG} {r : Option Value} {h' : zH} {b : Nat → Int32} {n : Nat} {c : Int32} (hG : GM G) (hn : n ≤ 700) : ∀ (N : Nat) (p : Nat) (m : xM), m 129 = b → m 128 24 = Int32.ofNat p → m 128 23 = Int32.ofNat n → p ≤ n → RR nf xs d 11 false 2 (none) zt154 G r h' N (64, [(1, .int c), (0, .ref 128)], [], m, g) → RR nf xs d 11 false 2 (none) zt154 G r h' N (87, [(1, .int c), (0, .ref 128)], [], xu m 128 24 (Int32.ofNat (scn ltr fU b n p ()).1), g) := by
  have km1 : (-1 : Int32).toInt = -1 := rfl
  have k1 : (1 : Int32).toInt = 1 := rfl
  have k2 : (2 : Int32).toInt = 2 := rfl
  have k4 : (4 : Int32).toInt = 4 := rfl
  have k5 : (5 : Int32).toInt = 5 := rfl
  have k6 : (6 : Int32).toInt = 6 := rfl
  have k10 : (10 : Int32).toInt = 10 := rfl
  have k32 : (32 : Int32).toInt = 32 := rfl
  have k48 : (48 : Int32).toInt = 48 := rfl
  intro N
  induction N with
  | zero => intro p m h1 h2 h3 h4 hr; exact hr.no.elim
  | succ N ih =>
    intro p m h1 h2 h3 h4 hr
    replace hr := hr.go1 (s_aload_n t154_64 rfl)
    replace hr := hr.cvI t154_65 rfl rfl (ct_here_p (b := b) (n := n) (p := p) hG hn (by omega) (by (repeat rw [xu_row (by decide)]); exact h1) (by (repeat rw [xu_oth (by decide)]); exact h2) (by (repeat rw [xu_oth (by decide)]); exact h3))
    replace hr := hr.csI t154_68 rfl rfl (ct_small)
    rcases hr.zEq t154_71 with ⟨c1, hr⟩ | ⟨c1, hr⟩
    · rw [scn_f (fun q => by rw [byt_lt q] at c1; exact bI_0 c1)]
      refine (hr.mono (by omega)).to ?_
      exact (xu_id h2).symm
    · replace hr := hr.go (s_aload_n t154_74 rfl)
      replace hr := hr.go (s_dup t154_75 rfl)
      replace hr := hr.go (s_getf t154_76)
      replace hr := hr.go (s_k t154_79)
      replace hr := hr.go (s_iadd t154_80)
      replace hr := hr.go (s_putf t154_81)
      replace hr := hr.go (s_goto t154_84)
      have hlt : p < n := by
        rcases Nat.lt_or_ge p n with q | q
        · exact q
        · rw [byt_ge q] at c1; exact absurd rfl c1
      rw [byt_lt hlt] at c1
      have hq : p < n ∧ True := ⟨hlt, trivial⟩
      rw [scn_t hlt (bI_1 c1)]
      refine ((ih (p + 1) _ ?_ ?_ ?_ hq.1 hr).mono (by omega)).to ?_
      · rw [xu_row (by decide)]; exact h1
      · rw [xu_same, h2, xn_1]
      · rw [xu_oth (by decide), h3]
      · exact xu_xu

theorem lp154c {nf : Bool} {xs : List Int32} {d : Nat} {g : xL} {G : xG} {r : Option Value} {h' : zH} {b : Nat → Int32} {n : Nat} {c : Int32} (hG : GM G) (hn : n ≤ 700) : ∀ (N : Nat) (p : Nat) (m : xM) (v : Int32), m 129 = b → m 128 24 = Int32.ofNat p → m 128 23 = Int32.ofNat n → m 128 27 = v → p ≤ n → RR nf xs d 11 false 2 (none) zt154 G r h' N (162, [(1, .int c), (0, .ref 128)], [], m, g) → RR nf xs d 11 false 2 (none) zt154 G r h' N (225, [(1, .int c), (0, .ref 128)], [], xu (xu m 128 27 (scn dgt fR b n p v).2) 128 24 (Int32.ofNat (scn dgt fR b n p v).1), g) := by
  have km1 : (-1 : Int32).toInt = -1 := rfl
  have k1 : (1 : Int32).toInt = 1 := rfl
  have k2 : (2 : Int32).toInt = 2 := rfl
  have k4 : (4 : Int32).toInt = 4 := rfl
  have k5 : (5 : Int32).toInt = 5 := rfl
  have k6 : (6 : Int32).toInt = 6 := rfl
  have k10 : (10 : Int32).toInt = 10 := rfl
  have k32 : (32 : Int32).toInt = 32 := rfl
  have k48 : (48 : Int32).toInt = 48 := rfl
  intro N
  induction N with
  | zero => intro p m v h1 h2 h3 h4 h5 hr; exact hr.no.elim
  | succ N ih =>
    intro p m v h1 h2 h3 h4 h5 hr
    have k99999 : (99999 : Int32).toInt = 99999 := rfl
    replace hr := hr.go1 (s_aload_n t154_162 rfl)
    replace hr := hr.cvI t154_163 rfl rfl (ct_here_p (b := b) (n := n) (p := p) hG hn (by omega) (by (repeat rw [xu_row (by decide)]); exact h1) (by (repeat rw [xu_oth (by decide)]); exact h2) (by (repeat rw [xu_oth (by decide)]); exact h3))
    replace hr := hr.csI t154_166 rfl rfl (ct_digit)
    rcases hr.zEq t154_169 with ⟨c1, hr⟩ | ⟨c1, hr⟩
    · rw [scn_f (fun q => by rw [byt_lt q] at c1; exact bI_0 c1)]
      refine (hr.mono (by omega)).to ?_
      dsimp only
      rw [xu_id (a := 128) (k := 27) h4, xu_id h2]
    · have hlt2 : byt b n p = b p := by
        rcases Nat.lt_or_ge p n with q | q
        · exact byt_lt q
        · rw [byt_ge q] at c1; exact absurd rfl c1
      replace hr := hr.go (s_aload_n t154_172 rfl)
      replace hr := hr.go (s_aload_n t154_173 rfl)
      replace hr := hr.go (s_getf t154_174)
      replace hr := hr.go (s_ldc t154_177 rfl)
      rcases hr.bLe t154_179 with ⟨c2, hr⟩ | ⟨c2, hr⟩
      · skip
        replace hr := hr.go (s_k t154_189)
        replace hr := hr.go (s_aload_n t154_191 rfl)
        replace hr := hr.go (s_getf t154_192)
        replace hr := hr.go (s_imul t154_195)
        replace hr := hr.go (s_aload_n t154_196 rfl)
        replace hr := hr.cvI t154_197 rfl rfl (ct_here_p (b := b) (n := n) (p := p) hG hn (by omega) (by (repeat rw [xu_row (by decide)]); exact h1) (by (repeat rw [xu_oth (by decide)]); exact h2) (by (repeat rw [xu_oth (by decide)]); exact h3))
        rw [hlt2] at hr
        replace hr := hr.go (s_iadd t154_200)
        replace hr := hr.go (s_k t154_201)
        replace hr := hr.go (s_isub t154_203)
        replace hr := hr.go (s_putf t154_204)
        replace hr := hr.go (s_aload_n t154_207 rfl)
        replace hr := hr.go (s_dup t154_208 rfl)
        replace hr := hr.go (s_getf t154_209)
        replace hr := hr.go (s_k t154_212)
        replace hr := hr.go (s_iadd t154_213)
        replace hr := hr.go (s_putf t154_214)
        replace hr := hr.go (s_goto t154_217)
        have hlt : p < n := by
          rcases Nat.lt_or_ge p n with q | q
          · exact q
          · rw [byt_ge q] at c1; exact absurd rfl c1
        rw [byt_lt hlt] at c1
        have hq : p < n ∧ True := ⟨hlt, trivial⟩
        rw [scn_t hlt (bI_1 c1)]
        refine ((ih (p + 1) _ (fR v (b p)) ?_ ?_ ?_ ?_ hlt hr).mono (by omega)).to ?_
        · rw [xu_row (by decide), xu_row (by decide)]; exact h1
        · rw [xu_same, xu_oth (by decide), h2, xn_1]
        · rw [xu_oth (by decide), xu_oth (by decide), h3]
        · rw [xu_oth (by decide), xu_same]; unfold fR; rw [if_neg (by rw [← h4]; omega)]; rw [h4]
        · funext a k
          simp only [xu]
          (repeat' split) <;> first | rfl | omega
      · skip
        replace hr := hr.go (s_aload_n t154_182 rfl)
        replace hr := hr.go (s_getf t154_183)
        replace hr := hr.go (s_goto t154_186)
        replace hr := hr.go (s_putf t154_204)
        replace hr := hr.go (s_aload_n t154_207 rfl)
        replace hr := hr.go (s_dup t154_208 rfl)
        replace hr := hr.go (s_getf t154_209)
        replace hr := hr.go (s_k t154_212)
        replace hr := hr.go (s_iadd t154_213)
        replace hr := hr.go (s_putf t154_214)
        replace hr := hr.go (s_goto t154_217)
        have hlt : p < n := by
          rcases Nat.lt_or_ge p n with q | q
          · exact q
          · rw [byt_ge q] at c1; exact absurd rfl c1
        rw [byt_lt hlt] at c1
        have hq : p < n ∧ True := ⟨hlt, trivial⟩
        rw [scn_t hlt (bI_1 c1)]
        refine ((ih (p + 1) _ (fR v (b p)) ?_ ?_ ?_ ?_ hlt hr).mono (by omega)).to ?_
        · rw [xu_row (by decide), xu_row (by decide)]; exact h1
        · rw [xu_same, xu_oth (by decide), h2, xn_1]
        · rw [xu_oth (by decide), xu_oth (by decide), h3]
        · rw [xu_oth (by decide), xu_same]; unfold fR; rw [if_pos (by rw [← h4]; omega), h4]
        · funext a k
          simp only [xu]
          (repeat' split) <;> first | rfl | omega

theorem ct_tok {nf : Bool} {xs : List Int32} {d : Nat} {m : xM} {g : xL} {G : xG} {b : Nat → Int32} {n p : Nat} (hG : GM G) (hn : n ≤ 700) (hb : ∀ i : Nat, i < n → 0 ≤ (b i).toInt) (hb2 : ∀ i : Nat, i < n → (b i).toInt < 256) (h1 : m 129 = b) (h2 : m 128 24 = Int32.ofNat p) (h3 : m 128 23 = Int32.ofNat n) (hp : p ≤ n) : CT nf xs d 154 [.ref 128] m g G (PE none (tkR m (tokM b n p (m 128 27))) g) := by
  refine CT.of (c := 11) (ini := false) (nL := 2) (rt := none) (tab := zt154) rfl (fun d' r h' N hd hr => ?_)
  replace hr : RR nf xs d' 11 false 2 (none) zt154 G r h' N (0, [(0, .ref 128)], [], m, g) := hr
  have km1 : (-1 : Int32).toInt = -1 := rfl
  have k1 : (1 : Int32).toInt = 1 := rfl
  have k2 : (2 : Int32).toInt = 2 := rfl
  have k4 : (4 : Int32).toInt = 4 := rfl
  have k5 : (5 : Int32).toInt = 5 := rfl
  have k6 : (6 : Int32).toInt = 6 := rfl
  have k10 : (10 : Int32).toInt = 10 := rfl
  have k32 : (32 : Int32).toInt = 32 := rfl
  have k48 : (48 : Int32).toInt = 48 := rfl
  replace hr := lp154a hG hn N p m h1 h2 h3 hp hr
  have hle := (scn_le (q := blk) (f := fU) (b := b) (n := n) _ p () rfl hp).2.1
  generalize hS : (scn blk fU b n p ()).1 = s at hr hle
  rcases (show s = n ∨ s < n by omega) with hsn | hsn
  · replace hr := hr.go (s_aload_n t154_31 rfl)
    replace hr := hr.go (s_aload_n t154_32 rfl)
    replace hr := hr.go (s_getf t154_33)
    rw [xu_same] at hr
    replace hr := hr.go (s_putf t154_36)
    replace hr := hr.go (s_aload_n t154_39 rfl)
    replace hr := hr.cvI t154_40 rfl rfl (ct_here_p (b := b) (n := n) (p := s) hG hn (by omega) (by (repeat rw [xu_row (by decide)]); exact h1) (by (repeat rw [xu_oth (by decide)]); rw [xu_same]) (by (repeat rw [xu_oth (by decide)]); exact h3))
    rw [byt_ge (show n ≤ s by omega)] at hr
    replace hr := hr.go (s_istore_n (ls' := [(1, _), (0, _)]) t154_43 rfl)
    replace hr := hr.go (s_iload_n t154_44 rfl)
    replace hr := hr.go (s_k t154_45)
    rcases hr.bNe t154_46 with ⟨c1, hr⟩ | ⟨c1, hr⟩
    · exact absurd rfl c1
    · replace hr := hr.go (s_aload_n t154_49 rfl)
      replace hr := hr.go (s_k t154_50)
      replace hr := hr.go (s_putf t154_51)
      replace hr := hr.go (s_goto t154_54)
      obtain ⟨rfl, hs⟩ := hr.ret t154_225
      refine ⟨_, _, hs, rfl, ?_, rfl⟩
      unfold tokM
      rw [hS]
      rw [if_pos (show n ≤ s by omega)]
      exact xextN rfl rfl rfl rfl (fun a k h => by unfold tkR; (try dsimp only); repeat rw [xu_oth (by omega)])
  · replace hr := hr.go (s_aload_n t154_31 rfl)
    replace hr := hr.go (s_aload_n t154_32 rfl)
    replace hr := hr.go (s_getf t154_33)
    rw [xu_same] at hr
    replace hr := hr.go (s_putf t154_36)
    replace hr := hr.go (s_aload_n t154_39 rfl)
    replace hr := hr.cvI t154_40 rfl rfl (ct_here_p (b := b) (n := n) (p := s) hG hn (by omega) (by (repeat rw [xu_row (by decide)]); exact h1) (by (repeat rw [xu_oth (by decide)]); rw [xu_same]) (by (repeat rw [xu_oth (by decide)]); exact h3))
    rw [byt_lt hsn] at hr
    replace hr := hr.go (s_istore_n (ls' := [(1, _), (0, _)]) t154_43 rfl)
    replace hr := hr.go (s_iload_n t154_44 rfl)
    replace hr := hr.go (s_k t154_45)
    rcases hr.bNe t154_46 with ⟨c1, hr⟩ | ⟨c1, hr⟩
    · replace hr := hr.go (s_iload_n t154_57 rfl)
      replace hr := hr.csI t154_58 rfl rfl (ct_small)
      rcases hr.zEq t154_61 with ⟨c2, hr⟩ | ⟨c2, hr⟩
      · replace hr := hr.go (s_iload_n t154_145 rfl)
        replace hr := hr.csI t154_146 rfl rfl (ct_digit)
        rcases hr.zEq t154_149 with ⟨c3, hr⟩ | ⟨c3, hr⟩
        · skip
          replace hr := hr.go (s_aload_n t154_220 rfl)
          replace hr := hr.go (s_iload_n t154_221 rfl)
          replace hr := hr.cvN t154_222 rfl rfl (ct_signM (b := b) (n := n) (s := s) hG hn hsn (hb2 s hsn) (by (repeat rw [xu_row (by decide)]); exact h1) rfl (by (repeat rw [xu_oth (by decide)]); exact h3))
          obtain ⟨rfl, hs⟩ := hr.ret t154_225
          refine ⟨_, _, hs, rfl, ?_, rfl⟩
          unfold tokM
          rw [hS]
          rw [if_neg (show ¬ n ≤ s by omega)]
          rw [if_neg (by rw [bI_0 c2]; decide), if_neg (by rw [bI_0 c3]; decide)]
          exact xextN rfl rfl rfl rfl (fun a k h => by unfold tkR; (try dsimp only); repeat rw [xu_oth (by omega)])
        · skip
          replace hr := hr.go (s_aload_n t154_152 rfl)
          replace hr := hr.go (s_k t154_153)
          replace hr := hr.go (s_putf t154_154)
          replace hr := hr.go (s_aload_n t154_157 rfl)
          replace hr := hr.go (s_k t154_158)
          replace hr := hr.go (s_putf t154_159)
          replace hr := lp154c (b := b) hG hn N s _ 0 (by (repeat rw [xu_row (by decide)]); exact h1) (by (repeat rw [xu_oth (by decide)]); rw [xu_same]) (by (repeat rw [xu_oth (by decide)]); exact h3) (by rw [xu_same]) (by omega) hr
          obtain ⟨rfl, hs⟩ := hr.ret t154_225
          refine ⟨_, _, hs, rfl, ?_, rfl⟩
          unfold tokM
          rw [hS]
          rw [if_neg (show ¬ n ≤ s by omega)]
          rw [if_neg (by rw [bI_0 c2]; decide), if_pos (bI_1 c3)]
          exact xextN rfl rfl rfl rfl (fun a k h => by unfold tkR; (try dsimp only); repeat rw [xu_oth (by omega)])
      replace hr := lp154b (b := b) hG hn N s _ (by (repeat rw [xu_row (by decide)]); exact h1) (by rw [xu_oth (by decide), xu_same]) (by (repeat rw [xu_oth (by decide)]); exact h3) (by omega) hr
      have hle2 := scn_le (q := ltr) (f := fU) (b := b) (n := n) _ s () rfl (by omega)
      generalize hE : (scn ltr fU b n s ()).1 = e at hr hle2
      skip
      replace hr := hr.go (s_aload_n t154_87 rfl)
      replace hr := hr.go (s_aload_n t154_88 rfl)
      replace hr := hr.cvI t154_89 rfl rfl (ct_wordM (b := b) (s := s) (e := e) hG (by omega) (by omega) (by (repeat rw [xu_row (by decide)]); exact h1) (by (repeat rw [xu_oth (by decide)]); rw [xu_same]) (by rw [xu_same]))
      replace hr := hr.go (s_putf t154_92)
      replace hr := hr.go (s_aload_n t154_95 rfl)
      replace hr := hr.go (s_aload_n t154_96 rfl)
      replace hr := hr.go (s_getf t154_97)
      rw [xu_same] at hr
      replace hr := hr.go (s_k t154_100)
      rcases hr.bEq t154_101 with ⟨c3, hr⟩ | ⟨c3, hr⟩
      · replace hr := hr.go (s_aload_n t154_108 rfl)
        replace hr := hr.go (s_getf t154_109)
        replace hr := hr.go (s_aload_n t154_112 rfl)
        replace hr := hr.go (s_getf t154_113)
        replace hr := hr.go (s_isub t154_116)
        rw [show (xu (xu (xu (xu m 128 24 (Int32.ofNat s)) 128 25 (Int32.ofNat s)) 128 24 (Int32.ofNat e)) 128 27 (wdM b s e 114 0 0)) 128 24 = Int32.ofNat e from rfl, show (xu (xu (xu (xu m 128 24 (Int32.ofNat s)) 128 25 (Int32.ofNat s)) 128 24 (Int32.ofNat e)) 128 27 (wdM b s e 114 0 0)) 128 25 = Int32.ofNat s from rfl, xn_sub (by omega)] at hr
        replace hr := hr.go (s_k t154_117)
        rcases hr.bLe t154_119 with ⟨c4, hr⟩ | ⟨c4, hr⟩
        · skip
          replace hr := hr.go (s_k t154_126)
          replace hr := hr.go (s_putf t154_127)
          replace hr := hr.go (s_aload_n t154_130 rfl)
          replace hr := hr.go (s_getf t154_131)
          rw [xu_same] at hr
          replace hr := hr.go (s_k t154_134)
          rcases hr.bNe t154_135 with ⟨c5, hr⟩ | ⟨c5, hr⟩
          · exact absurd rfl c5
          · replace hr := hr.go (s_aload_n t154_138 rfl)
            replace hr := hr.cvN t154_139 rfl rfl (ct_name (b := b) (s := s) (e := e) hG (by omega) (by omega) (by (repeat rw [xu_row (by decide)]); exact h1) rfl rfl)
            replace hr := hr.go (s_goto t154_142)
            obtain ⟨rfl, hs⟩ := hr.ret t154_225
            refine ⟨_, _, hs, rfl, ?_, rfl⟩
            unfold tokM
            rw [hS]
            rw [if_neg (show ¬ n ≤ s by omega)]
            rw [if_pos (bI_1 c2), if_neg (by rw [hE]; exact fun q => q c3), hE, if_neg (by rw [k6, xn_int (by omega)] at c4; omega)]
            exact xextN rfl rfl rfl rfl (fun a k h => by unfold tkR; (try dsimp only); repeat rw [xu_oth (by omega)])
        · skip
          replace hr := hr.go (s_k t154_122)
          replace hr := hr.go (s_goto t154_123)
          replace hr := hr.go (s_putf t154_127)
          replace hr := hr.go (s_aload_n t154_130 rfl)
          replace hr := hr.go (s_getf t154_131)
          rw [xu_same] at hr
          replace hr := hr.go (s_k t154_134)
          rcases hr.bNe t154_135 with ⟨c6, hr⟩ | ⟨c6, hr⟩
          · obtain ⟨rfl, hs⟩ := hr.ret t154_225
            refine ⟨_, _, hs, rfl, ?_, rfl⟩
            unfold tokM
            rw [hS]
            rw [if_neg (show ¬ n ≤ s by omega)]
            rw [if_pos (bI_1 c2), if_neg (by rw [hE]; exact fun q => q c3), hE, if_pos (by rw [k6, xn_int (by omega)] at c4; omega)]
            exact xextN rfl rfl rfl c3 (fun a k h => by unfold tkR; (try dsimp only); repeat rw [xu_oth (by omega)])
          · exact absurd c6 (by decide)
      · skip
        replace hr := hr.go (s_k t154_104)
        replace hr := hr.go (s_goto t154_105)
        replace hr := hr.go (s_putf t154_127)
        replace hr := hr.go (s_aload_n t154_130 rfl)
        replace hr := hr.go (s_getf t154_131)
        rw [xu_same] at hr
        replace hr := hr.go (s_k t154_134)
        rcases hr.bNe t154_135 with ⟨c7, hr⟩ | ⟨c7, hr⟩
        · obtain ⟨rfl, hs⟩ := hr.ret t154_225
          refine ⟨_, _, hs, rfl, ?_, rfl⟩
          unfold tokM
          rw [hS]
          rw [if_neg (show ¬ n ≤ s by omega)]
          rw [if_pos (bI_1 c2), if_pos (by rw [hE]; exact c3), hE]
          exact xextN rfl rfl rfl rfl (fun a k h => by unfold tkR; (try dsimp only); repeat rw [xu_oth (by omega)])
        · exact absurd c7 (by decide)
    · exact absurd (hb s hsn) (by rw [c1]; decide)
end
section
/-! Both scanners see the same tokens. -/
theorem itr_fst {σ τ : Type} {q : Int32 → Bool} {f : σ → Int32 → σ} {f2 : τ → Int32 → τ} {b : Nat → Int32} {n : Nat} {R : σ → τ → Prop} (hf : ∀ (s : σ) (t : τ) (x : Int32), q x = true → R s t → R (f s x) (f2 t x)) : ∀ (k p : Nat) (s : σ) (t : τ), R s t → (itr q f b n k p s).1 = (itr q f2 b n k p t).1 ∧ R (itr q f b n k p s).2 (itr q f2 b n k p t).2 := by
  intro k
  induction k with
  | zero => intro p s t h; exact ⟨rfl, h⟩
  | succ k ih =>
    intro p s t h
    unfold itr
    cases hb : Nat.blt p n && q (b p) with
    | false => exact ⟨rfl, h⟩
    | true =>
      rw [Bool.and_eq_true] at hb
      exact ih (p + 1) _ _ (hf s t _ hb.2 h)
theorem scn_rel {σ τ : Type} {q : Int32 → Bool} {f : σ → Int32 → σ} {f2 : τ → Int32 → τ} {b : Nat → Int32} {n p : Nat} {R : σ → τ → Prop} (hf : ∀ (s : σ) (t : τ) (x : Int32), q x = true → R s t → R (f s x) (f2 t x)) {s : σ} {t : τ} (h : R s t) : (scn q f b n p s).1 = (scn q f2 b n p t).1 ∧ R (scn q f b n p s).2 (scn q f2 b n p t).2 := itr_fst hf _ _ _ _ h
/-- numbers: the same, or both too large -/
def nv (x y : Int32) : Prop := (x = y ∧ 0 ≤ x.toInt ∧ x.toInt ≤ 99999) ∨ (99999 < x.toInt ∧ 99999 < y.toInt)
theorem xt_mul {x : Int32} (h0 : 0 ≤ x.toInt) (h1 : x.toInt ≤ 1000000) : (x * 10).toInt = x.toInt * 10 := by
  rw [Int32.toInt_mul, show (10 : Int32).toInt = 10 from rfl]
  exact Int.bmod_eq_of_le (by omega) (by omega)
theorem xt_sub {c : Int32} (h0 : 48 ≤ c.toInt) (h1 : c.toInt ≤ 57) : (c - 48).toInt = c.toInt - 48 := by
  rw [Int32.toInt_sub, show (48 : Int32).toInt = 48 from rfl]
  exact Int.bmod_eq_of_le (by omega) (by omega)
theorem xt_add {x y : Int32} (h0 : 0 ≤ x.toInt + y.toInt) (h1 : x.toInt + y.toInt ≤ 2000000000) : (x + y).toInt = x.toInt + y.toInt := by
  rw [Int32.toInt_add]
  exact Int.bmod_eq_of_le (by omega) (by omega)
theorem fNR {x c : Int32} : 10 * x + c - 48 = x * 10 + (c - 48) := by
  rw [Int32.mul_comm 10 x, Int32.sub_eq_add_neg, Int32.sub_eq_add_neg, Int32.add_assoc]
theorem fN_nv (x y c : Int32) (hq : dgt c = true) (h : nv x y) : nv (fN x c) (fR y c) := by
  have hc := dgt_i hq
  have e := xt_sub hc.1 hc.2
  rcases h with ⟨rfl, h1, h2⟩ | ⟨h1, h2⟩
  · unfold fN fR
    rw [if_pos (by omega), if_neg (by omega), fNR]
    have e1 := xt_mul (x := x) h1 (by omega)
    have e2 := xt_add (x := x * 10) (y := c - 48) (by omega) (by omega)
    rcases Int.lt_or_le 99999 (x * 10 + (c - 48)).toInt with h | h
    · exact Or.inr ⟨h, h⟩
    · exact Or.inl ⟨rfl, by omega, h⟩
  · unfold fR
    rw [if_pos h2]
    refine Or.inr ⟨?_, h2⟩
    unfold fN
    split
    · next h3 =>
      have e1 := xt_mul (x := x) (by omega) (by omega)
      have e2 := xt_add (x := x * 10) (y := c - 48) (by omega) (by omega)
      omega
    · exact h1
/-- a token of the class and the same one of the reference -/
def TR (k v so va : Int32) : Prop := (k = 0 ∧ so = 4) ∨ (k = 1 ∧ so = 5) ∨ (k = 2 ∧ so = 2 ∧ nv v va) ∨ (k = 3 ∧ so = 1 ∧ va = v) ∨ (∃ w : Nat, w < 22 ∧ k = 32 + Int32.ofNat w ∧ so = 0 ∧ va = Int32.ofNat w) ∨ (so = 3 ∧ ((k = 4 ∧ va = 59) ∨ (k = 5 ∧ va = 40) ∨ (k = 6 ∧ va = 41) ∨ (k = 10 ∧ va = 43) ∨ (k = 11 ∧ va = 45) ∨ (k = 12 ∧ va = 42) ∨ (k = 13 ∧ va = 47) ∨ (k = 14 ∧ va = 60) ∨ (k = 15 ∧ va = 256) ∨ (k = 16 ∧ va = 61) ∨ (k = 17 ∧ va = 257) ∨ (k = 18 ∧ va = 258) ∨ (k = 19 ∧ va = 62)))
theorem sg_TR {x y : Int32} : TR (sg x y).1 0 (bif isg x then 3 else 5) (sgV x y).1 ∧ (sg x y).2 = (sgV x y).2 := by
  by_cases c60 : x = 60
  · subst c60
    by_cases cy : y = 61
    · subst cy; exact ⟨by right; right; right; right; right; exact ⟨rfl, by decide⟩, rfl⟩
    · by_cases cy2 : y = 62
      · subst cy2; exact ⟨by right; right; right; right; right; exact ⟨rfl, by decide⟩, rfl⟩
      · have e1 : sg 60 y = (14, 1) := by
          unfold sg
          rw [decide_eq_false cy, decide_eq_false cy2]
          rfl
        have e2 : sgV 60 y = (60, 1) := by
          unfold sgV
          rw [if_pos rfl, if_neg cy, if_neg cy2]
        rw [e1, e2]
        exact ⟨by right; right; right; right; right; exact ⟨rfl, by decide⟩, rfl⟩
  by_cases c62 : x = 62
  · subst c62
    by_cases cy : y = 61
    · subst cy; exact ⟨by right; right; right; right; right; exact ⟨rfl, by decide⟩, rfl⟩
    · have e1 : sg 62 y = (19, 1) := by
        unfold sg
        rw [decide_eq_false cy]
        rfl
      have e2 : sgV 62 y = (62, 1) := by
        unfold sgV
        rw [if_neg (by decide), if_pos rfl, if_neg cy]
      rw [e1, e2]
      exact ⟨by right; right; right; right; right; exact ⟨rfl, by decide⟩, rfl⟩
  have e2 : sgV x y = (x, 1) := by
    unfold sgV
    rw [if_neg c60, if_neg c62]
  rw [e2]
  by_cases c : x = 59
  · subst c; rw [show sg 59 y = (4, 1) from rfl]; exact ⟨by right; right; right; right; right; exact ⟨rfl, by decide⟩, rfl⟩
  by_cases c40 : x = 40
  · subst c40; rw [show sg 40 y = (5, 1) from rfl]; exact ⟨by right; right; right; right; right; exact ⟨rfl, by decide⟩, rfl⟩
  by_cases c41 : x = 41
  · subst c41; rw [show sg 41 y = (6, 1) from rfl]; exact ⟨by right; right; right; right; right; exact ⟨rfl, by decide⟩, rfl⟩
  by_cases c43 : x = 43
  · subst c43; rw [show sg 43 y = (10, 1) from rfl]; exact ⟨by right; right; right; right; right; exact ⟨rfl, by decide⟩, rfl⟩
  by_cases c45 : x = 45
  · subst c45; rw [show sg 45 y = (11, 1) from rfl]; exact ⟨by right; right; right; right; right; exact ⟨rfl, by decide⟩, rfl⟩
  by_cases c42 : x = 42
  · subst c42; rw [show sg 42 y = (12, 1) from rfl]; exact ⟨by right; right; right; right; right; exact ⟨rfl, by decide⟩, rfl⟩
  by_cases c47 : x = 47
  · subst c47; rw [show sg 47 y = (13, 1) from rfl]; exact ⟨by right; right; right; right; right; exact ⟨rfl, by decide⟩, rfl⟩
  by_cases c61 : x = 61
  · subst c61; rw [show sg 61 y = (16, 1) from rfl]; exact ⟨by right; right; right; right; right; exact ⟨rfl, by decide⟩, rfl⟩
  have e1 : sg x y = (1, 1) := by
    unfold sg
    rw [if_neg c, if_neg c40, if_neg c41, if_neg c43, if_neg c45, if_neg c42, if_neg c47, if_neg c61, if_neg c60, if_neg c62]
  have e3 : isg x = false := decide_eq_false (by rintro (h | h | h | h | h | h | h | h | h | h) <;> contradiction)
  rw [e1, e3]
  exact ⟨Or.inr (Or.inl ⟨rfl, rfl⟩), rfl⟩
end
section
/-! Words: what is packed, what is compared letter by letter. -/
/-- letters packed, 5 bits each -/
def pck (b : Nat → Int32) (s : Nat) : Nat → Int32
  | 0 => 0
  | k + 1 => pck b s k <<< (5 &&& 31) ||| (b (s + k) - 97 + 1)
theorem fW_run {b : Nat → Int32} {n : Nat} : ∀ (f p s : Nat), n - p = f → s ≤ p → p ≤ n → n ≤ 700 → p - s ≤ 6 → (scn ltr fW b n p (Int32.ofNat (p - s), pck b s (p - s))).1 - s ≤ 6 → (scn ltr fW b n p (Int32.ofNat (p - s), pck b s (p - s))).2 = (Int32.ofNat ((scn ltr fW b n p (Int32.ofNat (p - s), pck b s (p - s))).1 - s), pck b s ((scn ltr fW b n p (Int32.ofNat (p - s), pck b s (p - s))).1 - s)) := by
  intro f
  induction f with
  | zero =>
    intro p s hf h1 h2 hn h6 h
    rw [scn_f (fun q => by omega)]
  | succ f ih =>
    intro p s hf h1 h2 hn h6 h
    cases hq : ltr (b p) with
    | false => rw [scn_f (fun _ => hq)]
    | true =>
      have hle := (scn_le (q := ltr) (f := fW) (b := b) (n := n) _ (p + 1) (fW (Int32.ofNat (p - s), pck b s (p - s)) (b p)) rfl (by omega)).1
      rw [scn_t (by omega) hq] at h ⊢
      have h7 : p - s < 6 := by omega
      have e : fW (Int32.ofNat (p - s), pck b s (p - s)) (b p) = (Int32.ofNat (p + 1 - s), pck b s (p + 1 - s)) := by
        unfold fW
        rw [show p + 1 - s = (p - s) + 1 by omega]
        show (Int32.ofNat (p - s) + 1, _) = (_, pck b s (p - s) <<< (5 &&& 31) ||| (b (s + (p - s)) - 97 + 1))
        rw [xn_1, if_pos (by rw [xn_int (by omega)]; omega), show s + (p - s) = p by omega]
      rw [e] at h ⊢
      exact ih (p + 1) s (by omega) (by omega) (by omega) hn (by omega) h
theorem fW_big {b : Nat → Int32} {n : Nat} : ∀ (f p s : Nat) (x y : Int32), n - p = f → s ≤ p → p ≤ n → n ≤ 700 → x = Int32.ofNat (p - s) → (scn ltr fW b n p (x, y)).2.1 = Int32.ofNat ((scn ltr fW b n p (x, y)).1 - s) := by
  intro f
  induction f with
  | zero =>
    intro p s x y hf h1 h2 hn hx
    rw [scn_f (fun q => by omega)]
    exact hx
  | succ f ih =>
    intro p s x y hf h1 h2 hn hx
    cases hq : ltr (b p) with
    | false => rw [scn_f (fun _ => hq)]; exact hx
    | true =>
      rw [scn_t (by omega) hq]
      exact ih (p + 1) s _ _ (by omega) (by omega) (by omega) hn (by show x + 1 = _; rw [hx, xn_1, show p + 1 - s = p - s + 1 by omega])
/-- names: the same packing, with what is wanting to six -/
theorem nmv_run {b : Nat → Int32} {s e : Nat} : ∀ (k : Nat), k ≤ e - s → k ≤ 6 → nmv b s e 6 0 0 = nmv b s e (6 - k) k (pck b s k) := by
  intro k
  induction k with
  | zero => intro _ _; rfl
  | succ k ih =>
    intro h1 h2
    rw [ih (by omega) (by omega), show 6 - k = (6 - (k + 1)) + 1 by omega]
    show nmv b s e (6 - (k + 1)) (k + 1) (pck b s k <<< (5 &&& 31) ||| (if s + k < e then b (s + k) - 97 + 1 else 0)) = _
    rw [if_pos (by omega)]
    rfl
theorem nmv_end {b : Nat → Int32} {s e : Nat} : ∀ (f k : Nat) (v : Int32), e - s ≤ k → nmv b s e (f + 1) k v = nmv b s e f (k + 1) (v <<< (5 &&& 31) ||| 0) := by
  intro f k v h
  show nmv b s e f (k + 1) (v <<< (5 &&& 31) ||| (if s + k < e then b (s + k) - 97 + 1 else 0)) = _
  rw [if_neg (by omega)]
end
section
/-! Packed letters tell the letters. -/
theorem sh_or {a c : Nat} (ha : a < 33554432) (hc : c < 32) : Int32.ofNat a <<< (5 &&& 31) ||| Int32.ofNat c = Int32.ofNat (32 * a + c) := by
  apply Int32.toBitVec_inj.mp
  apply BitVec.eq_of_toNat_eq
  simp only [Int32.toBitVec_or, Int32.toBitVec_shiftLeft, BitVec.toNat_or]
  have e1 : (Int32.ofNat a).toBitVec.toNat = a := by
    show (BitVec.ofNat 32 a).toNat = a
    rw [BitVec.toNat_ofNat]
    exact Nat.mod_eq_of_lt (by omega)
  have e2 : (Int32.ofNat c).toBitVec.toNat = c := by
    show (BitVec.ofNat 32 c).toNat = c
    rw [BitVec.toNat_ofNat]
    exact Nat.mod_eq_of_lt (by omega)
  have e3 : (Int32.ofNat (32 * a + c)).toBitVec.toNat = 32 * a + c := by
    show (BitVec.ofNat 32 (32 * a + c)).toNat = 32 * a + c
    rw [BitVec.toNat_ofNat]
    exact Nat.mod_eq_of_lt (by omega)
  rw [e2, e3]
  have e4 : ((Int32.ofNat a).toBitVec <<< (Int32.toBitVec (5 &&& 31)).smod 32).toNat = a <<< 5 := by
    show ((Int32.ofNat a).toBitVec <<< (5 : BitVec 32)).toNat = a <<< 5
    rw [BitVec.shiftLeft_eq']
    rw [BitVec.toNat_shiftLeft, e1]
    show a <<< 5 % 2 ^ 32 = a <<< 5
    rw [Nat.shiftLeft_eq]
    exact Nat.mod_eq_of_lt (by omega)
  rw [e4, ← Nat.shiftLeft_add_eq_or_of_lt (show c < 2 ^ 5 by omega), Nat.shiftLeft_eq]
  omega
/-- the number of a letter -/
def dgn (b : Nat → Int32) (s e i : Nat) : Nat := if s + i < e then (b (s + i) - 97 + 1).toNatClampNeg else 0
theorem let1 {x : Int32} (h : 97 ≤ x.toInt ∧ x.toInt ≤ 122) : (x - 97 + 1).toInt = x.toInt - 96 := by
  have e1 : (x - 97).toInt = x.toInt - 97 := by
    rw [Int32.toInt_sub, show (97 : Int32).toInt = 97 from rfl]
    exact Int.bmod_eq_of_le (by omega) (by omega)
  rw [xt_add (by rw [e1, show (1 : Int32).toInt = 1 from rfl]; omega) (by rw [e1, show (1 : Int32).toInt = 1 from rfl]; omega), e1, show (1 : Int32).toInt = 1 from rfl]
  omega
theorem dgn_ok {b : Nat → Int32} {s e i : Nat} (hl : ∀ j : Nat, s ≤ j → j < e → ltr (b j) = true) : (if s + i < e then b (s + i) - 97 + 1 else 0) = Int32.ofNat (dgn b s e i) ∧ dgn b s e i ≤ 26 ∧ (s + i < e → 1 ≤ dgn b s e i ∧ (dgn b s e i : Int) = (b (s + i)).toInt - 96) ∧ (¬ s + i < e → dgn b s e i = 0) := by
  unfold dgn
  by_cases h : s + i < e
  · rw [if_pos h, if_pos h]
    have h1 := ltr_i (hl (s + i) (by omega) h)
    have h2 := let1 h1
    have h3 : ((b (s + i) - 97 + 1).toNatClampNeg : Int) = (b (s + i)).toInt - 96 := by
      rw [Int32.toNatClampNeg, h2]; omega
    exact ⟨xn_of (by omega), by omega, fun _ => ⟨by omega, h3⟩, fun q => absurd h q⟩
  · rw [if_neg h, if_neg h]
    exact ⟨rfl, by omega, fun q => absurd q h, fun _ => rfl⟩
theorem nmv_val {b : Nat → Int32} {s e : Nat} (hl : ∀ j : Nat, s ≤ j → j < e → ltr (b j) = true) : nmv b s e 6 0 0 = Int32.ofNat (32 * (32 * (32 * (32 * (32 * dgn b s e 0 + dgn b s e 1) + dgn b s e 2) + dgn b s e 3) + dgn b s e 4) + dgn b s e 5) := by
  have d0 := dgn_ok (i := 0) hl
  have d1 := dgn_ok (i := 1) hl
  have d2 := dgn_ok (i := 2) hl
  have d3 := dgn_ok (i := 3) hl
  have d4 := dgn_ok (i := 4) hl
  have d5 := dgn_ok (i := 5) hl
  unfold nmv nmv nmv nmv nmv nmv nmv
  simp only [Nat.zero_add]
  rw [d0.1, d1.1, d2.1, d3.1, d4.1, d5.1]
  have z : (0 : Int32) = Int32.ofNat 0 := rfl
  rw [z, sh_or (by omega) (by omega), sh_or (by omega) (by omega), sh_or (by omega) (by omega), sh_or (by omega) (by omega), sh_or (by omega) (by omega), sh_or (by omega) (by omega)]
  rw [Nat.mul_zero, Nat.zero_add]
theorem nmv_inj {b b' : Nat → Int32} {s e s' e' : Nat} (hl : ∀ j : Nat, s ≤ j → j < e → ltr (b j) = true) (hl' : ∀ j : Nat, s' ≤ j → j < e' → ltr (b' j) = true) (h1 : s ≤ e) (h2 : s' ≤ e') (h3 : e - s ≤ 6) (h4 : e' - s' ≤ 6) : nmv b s e 6 0 0 = nmv b' s' e' 6 0 0 ↔ (e - s = e' - s' ∧ ∀ i : Nat, i < e - s → b (s + i) = b' (s' + i)) := by
  rw [nmv_val hl, nmv_val hl']
  have d := fun i => dgn_ok (i := i) hl
  have d' := fun i => dgn_ok (i := i) hl'
  constructor
  · intro q
    have b0 := (d 0).2.1; have b1 := (d 1).2.1; have b2 := (d 2).2.1; have b3 := (d 3).2.1; have b4 := (d 4).2.1; have b5 := (d 5).2.1
    have a0 := (d' 0).2.1; have a1 := (d' 1).2.1; have a2 := (d' 2).2.1; have a3 := (d' 3).2.1; have a4 := (d' 4).2.1; have a5 := (d' 5).2.1
    have q2 := xn_inj (by omega) (by omega) q
    have e0 : dgn b s e 0 = dgn b' s' e' 0 := by omega
    have e1 : dgn b s e 1 = dgn b' s' e' 1 := by omega
    have e2 : dgn b s e 2 = dgn b' s' e' 2 := by omega
    have e3 : dgn b s e 3 = dgn b' s' e' 3 := by omega
    have e4 : dgn b s e 4 = dgn b' s' e' 4 := by omega
    have e5 : dgn b s e 5 = dgn b' s' e' 5 := by omega
    have ei : ∀ i : Nat, i < 6 → dgn b s e i = dgn b' s' e' i := by
      intro i hi
      rcases (show i = 0 ∨ i = 1 ∨ i = 2 ∨ i = 3 ∨ i = 4 ∨ i = 5 by omega) with rfl | rfl | rfl | rfl | rfl | rfl <;> assumption
    have hlen : e - s = e' - s' := by
      rcases Nat.lt_trichotomy (e - s) (e' - s') with h | h | h
      · have w1 := (d (e - s)).2.2.2 (by omega)
        have w2 := ((d' (e - s)).2.2.1 (by omega)).1
        have w3 := ei (e - s) (by omega)
        omega
      · exact h
      · have w1 := (d' (e' - s')).2.2.2 (by omega)
        have w2 := ((d (e' - s')).2.2.1 (by omega)).1
        have w3 := ei (e' - s') (by omega)
        omega
    refine ⟨hlen, fun i hi => ?_⟩
    have w1 := ((d i).2.2.1 (by omega)).2
    have w2 := ((d' i).2.2.1 (by omega)).2
    have w3 := ei i (by omega)
    exact Int32.toInt_inj.mp (by omega)
  · intro ⟨q1, q2⟩
    have ei : ∀ i : Nat, dgn b s e i = dgn b' s' e' i := by
      intro i
      by_cases hi : s + i < e
      · have w1 := ((d i).2.2.1 hi).2
        have w2 := ((d' i).2.2.1 (by omega)).2
        have w3 := q2 i (by omega)
        rw [w3] at w1
        omega
      · rw [(d i).2.2.2 hi, (d' i).2.2.2 (by omega)]
    rw [ei 0, ei 1, ei 2, ei 3, ei 4, ei 5]
/-- what the class shifts at the end is what the reference fills up -/
theorem sh_0 {a : Nat} (ha : a < 33554432) : Int32.ofNat a <<< (5 &&& 31) ||| 0 = Int32.ofNat (32 * a) := sh_or (c := 0) ha (by omega)
end
section
/-! Words of the language: compared packed, or letter by letter. -/
theorem shl_1 {a : Nat} (ha : a * 2 ^ 25 < 2147483648) : Int32.ofNat a <<< ((5 * (6 - Int32.ofNat 1)) &&& 31) = Int32.ofNat (a * 2 ^ 25) := by
  rw [show ((5 * (6 - Int32.ofNat 1)) &&& 31 : Int32) = Int32.ofNat 25 by decide]
  apply Int32.toBitVec_inj.mp
  apply BitVec.eq_of_toNat_eq
  rw [Int32.toBitVec_shiftLeft]
  have e1 : (Int32.ofNat a).toBitVec.toNat = a := by
    show (BitVec.ofNat 32 a).toNat = a
    rw [BitVec.toNat_ofNat]
    exact Nat.mod_eq_of_lt (by omega)
  have e3 : (Int32.ofNat (a * 2 ^ 25)).toBitVec.toNat = a * 2 ^ 25 := by
    show (BitVec.ofNat 32 (a * 2 ^ 25)).toNat = a * 2 ^ 25
    rw [BitVec.toNat_ofNat]
    exact Nat.mod_eq_of_lt (by omega)
  rw [e3]
  show ((Int32.ofNat a).toBitVec <<< (25 : BitVec 32)).toNat = a * 2 ^ 25
  rw [BitVec.shiftLeft_eq', BitVec.toNat_shiftLeft, e1]
  show a <<< 25 % 2 ^ 32 = a * 2 ^ 25
  rw [Nat.shiftLeft_eq]
  exact Nat.mod_eq_of_lt (by omega)
theorem shl_2 {a : Nat} (ha : a * 2 ^ 20 < 2147483648) : Int32.ofNat a <<< ((5 * (6 - Int32.ofNat 2)) &&& 31) = Int32.ofNat (a * 2 ^ 20) := by
  rw [show ((5 * (6 - Int32.ofNat 2)) &&& 31 : Int32) = Int32.ofNat 20 by decide]
  apply Int32.toBitVec_inj.mp
  apply BitVec.eq_of_toNat_eq
  rw [Int32.toBitVec_shiftLeft]
  have e1 : (Int32.ofNat a).toBitVec.toNat = a := by
    show (BitVec.ofNat 32 a).toNat = a
    rw [BitVec.toNat_ofNat]
    exact Nat.mod_eq_of_lt (by omega)
  have e3 : (Int32.ofNat (a * 2 ^ 20)).toBitVec.toNat = a * 2 ^ 20 := by
    show (BitVec.ofNat 32 (a * 2 ^ 20)).toNat = a * 2 ^ 20
    rw [BitVec.toNat_ofNat]
    exact Nat.mod_eq_of_lt (by omega)
  rw [e3]
  show ((Int32.ofNat a).toBitVec <<< (20 : BitVec 32)).toNat = a * 2 ^ 20
  rw [BitVec.shiftLeft_eq', BitVec.toNat_shiftLeft, e1]
  show a <<< 20 % 2 ^ 32 = a * 2 ^ 20
  rw [Nat.shiftLeft_eq]
  exact Nat.mod_eq_of_lt (by omega)
theorem shl_3 {a : Nat} (ha : a * 2 ^ 15 < 2147483648) : Int32.ofNat a <<< ((5 * (6 - Int32.ofNat 3)) &&& 31) = Int32.ofNat (a * 2 ^ 15) := by
  rw [show ((5 * (6 - Int32.ofNat 3)) &&& 31 : Int32) = Int32.ofNat 15 by decide]
  apply Int32.toBitVec_inj.mp
  apply BitVec.eq_of_toNat_eq
  rw [Int32.toBitVec_shiftLeft]
  have e1 : (Int32.ofNat a).toBitVec.toNat = a := by
    show (BitVec.ofNat 32 a).toNat = a
    rw [BitVec.toNat_ofNat]
    exact Nat.mod_eq_of_lt (by omega)
  have e3 : (Int32.ofNat (a * 2 ^ 15)).toBitVec.toNat = a * 2 ^ 15 := by
    show (BitVec.ofNat 32 (a * 2 ^ 15)).toNat = a * 2 ^ 15
    rw [BitVec.toNat_ofNat]
    exact Nat.mod_eq_of_lt (by omega)
  rw [e3]
  show ((Int32.ofNat a).toBitVec <<< (15 : BitVec 32)).toNat = a * 2 ^ 15
  rw [BitVec.shiftLeft_eq', BitVec.toNat_shiftLeft, e1]
  show a <<< 15 % 2 ^ 32 = a * 2 ^ 15
  rw [Nat.shiftLeft_eq]
  exact Nat.mod_eq_of_lt (by omega)
theorem shl_4 {a : Nat} (ha : a * 2 ^ 10 < 2147483648) : Int32.ofNat a <<< ((5 * (6 - Int32.ofNat 4)) &&& 31) = Int32.ofNat (a * 2 ^ 10) := by
  rw [show ((5 * (6 - Int32.ofNat 4)) &&& 31 : Int32) = Int32.ofNat 10 by decide]
  apply Int32.toBitVec_inj.mp
  apply BitVec.eq_of_toNat_eq
  rw [Int32.toBitVec_shiftLeft]
  have e1 : (Int32.ofNat a).toBitVec.toNat = a := by
    show (BitVec.ofNat 32 a).toNat = a
    rw [BitVec.toNat_ofNat]
    exact Nat.mod_eq_of_lt (by omega)
  have e3 : (Int32.ofNat (a * 2 ^ 10)).toBitVec.toNat = a * 2 ^ 10 := by
    show (BitVec.ofNat 32 (a * 2 ^ 10)).toNat = a * 2 ^ 10
    rw [BitVec.toNat_ofNat]
    exact Nat.mod_eq_of_lt (by omega)
  rw [e3]
  show ((Int32.ofNat a).toBitVec <<< (10 : BitVec 32)).toNat = a * 2 ^ 10
  rw [BitVec.shiftLeft_eq', BitVec.toNat_shiftLeft, e1]
  show a <<< 10 % 2 ^ 32 = a * 2 ^ 10
  rw [Nat.shiftLeft_eq]
  exact Nat.mod_eq_of_lt (by omega)
theorem shl_5 {a : Nat} (ha : a * 2 ^ 5 < 2147483648) : Int32.ofNat a <<< ((5 * (6 - Int32.ofNat 5)) &&& 31) = Int32.ofNat (a * 2 ^ 5) := by
  rw [show ((5 * (6 - Int32.ofNat 5)) &&& 31 : Int32) = Int32.ofNat 5 by decide]
  apply Int32.toBitVec_inj.mp
  apply BitVec.eq_of_toNat_eq
  rw [Int32.toBitVec_shiftLeft]
  have e1 : (Int32.ofNat a).toBitVec.toNat = a := by
    show (BitVec.ofNat 32 a).toNat = a
    rw [BitVec.toNat_ofNat]
    exact Nat.mod_eq_of_lt (by omega)
  have e3 : (Int32.ofNat (a * 2 ^ 5)).toBitVec.toNat = a * 2 ^ 5 := by
    show (BitVec.ofNat 32 (a * 2 ^ 5)).toNat = a * 2 ^ 5
    rw [BitVec.toNat_ofNat]
    exact Nat.mod_eq_of_lt (by omega)
  rw [e3]
  show ((Int32.ofNat a).toBitVec <<< (5 : BitVec 32)).toNat = a * 2 ^ 5
  rw [BitVec.shiftLeft_eq', BitVec.toNat_shiftLeft, e1]
  show a <<< 5 % 2 ^ 32 = a * 2 ^ 5
  rw [Nat.shiftLeft_eq]
  exact Nat.mod_eq_of_lt (by omega)
theorem shl_6 {a : Nat} : Int32.ofNat a <<< ((5 * (6 - Int32.ofNat 6)) &&& 31) = Int32.ofNat a := by
  rw [show ((5 * (6 - Int32.ofNat 6)) &&& 31 : Int32) = 0 by decide]
  apply Int32.toBitVec_inj.mp
  rw [Int32.toBitVec_shiftLeft]
  show (Int32.ofNat a).toBitVec <<< (0 : BitVec 32) = _
  rw [BitVec.shiftLeft_eq']
  exact BitVec.shiftLeft_zero _
def pn (b : Nat → Int32) (s e : Nat) : Nat → Nat
  | 0 => 0
  | k + 1 => 32 * pn b s e k + dgn b s e k
theorem pck_pn {b : Nat → Int32} {s e : Nat} (hl : ∀ j : Nat, s ≤ j → j < e → ltr (b j) = true) : ∀ k : Nat, k ≤ e - s → k ≤ 6 → pck b s k = Int32.ofNat (pn b s e k) ∧ pn b s e k < 32 ^ k := by
  intro k
  induction k with
  | zero => intro _ _; exact ⟨rfl, Nat.zero_lt_one⟩
  | succ k ih =>
    intro h1 h2
    obtain ⟨i1, i2⟩ := ih (by omega) (by omega)
    have d := dgn_ok (i := k) hl
    have hk : (32 : Nat) ^ k ≤ 33554432 := by
      rcases (show k = 0 ∨ k = 1 ∨ k = 2 ∨ k = 3 ∨ k = 4 ∨ k = 5 by omega) with rfl | rfl | rfl | rfl | rfl | rfl <;> decide
    have ee : b (s + k) - 97 + 1 = Int32.ofNat (dgn b s e k) := by
      rw [← d.1, if_pos (by omega)]
    constructor
    · show pck b s k <<< (5 &&& 31) ||| (b (s + k) - 97 + 1) = _
      rw [ee, i1, sh_or (by omega) (by omega)]
      rfl
    · show 32 * pn b s e k + dgn b s e k < 32 ^ k * 32
      omega
theorem val_same {b : Nat → Int32} {s e : Nat} (hl : ∀ j : Nat, s ≤ j → j < e → ltr (b j) = true) (h1 : s < e) (h2 : e - s ≤ 6) : pck b s (e - s) <<< ((5 * (6 - Int32.ofNat (e - s))) &&& 31) = nmv b s e 6 0 0 := by
  obtain ⟨p1, p2⟩ := pck_pn hl (e - s) (Nat.le_refl _) h2
  rw [p1, nmv_val hl]
  have z := fun i => (dgn_ok (i := i) hl).2.2.2
  rcases (show e - s = 1 ∨ e - s = 2 ∨ e - s = 3 ∨ e - s = 4 ∨ e - s = 5 ∨ e - s = 6 by omega) with q | q | q | q | q | q

  · rw [q] at p2 ⊢
    rw [shl_1 (by omega)]
    rw [z 1 (by omega)]
    rw [z 2 (by omega)]
    rw [z 3 (by omega)]
    rw [z 4 (by omega)]
    rw [z 5 (by omega)]
    congr 1
    show pn b s e 1 * _ = _
    simp only [pn]
    omega
  · rw [q] at p2 ⊢
    rw [shl_2 (by omega)]
    rw [z 2 (by omega)]
    rw [z 3 (by omega)]
    rw [z 4 (by omega)]
    rw [z 5 (by omega)]
    congr 1
    show pn b s e 2 * _ = _
    simp only [pn]
    omega
  · rw [q] at p2 ⊢
    rw [shl_3 (by omega)]
    rw [z 3 (by omega)]
    rw [z 4 (by omega)]
    rw [z 5 (by omega)]
    congr 1
    show pn b s e 3 * _ = _
    simp only [pn]
    omega
  · rw [q] at p2 ⊢
    rw [shl_4 (by omega)]
    rw [z 4 (by omega)]
    rw [z 5 (by omega)]
    congr 1
    show pn b s e 4 * _ = _
    simp only [pn]
    omega
  · rw [q] at p2 ⊢
    rw [shl_5 (by omega)]
    rw [z 5 (by omega)]
    congr 1
    show pn b s e 5 * _ = _
    simp only [pn]
    omega
  · rw [q] at p2 ⊢
    rw [shl_6]
    congr 1
    simp only [pn]
    omega
/-- the words: where they begin, how long they are -/
def wls : List (Nat × Nat) := [(0, 4), (5, 5), (11, 4), (16, 4), (21, 5), (27, 6), (34, 4), (39, 4), (44, 3), (48, 5), (54, 5), (60, 4), (65, 2), (68, 3), (72, 3), (76, 3), (80, 5), (86, 5), (92, 4), (97, 4), (102, 5), (108, 4)]
/-- ... packed -/
def wcs : List Int32 := [412554240, 613553728, 351638528, 676737024, 647209600, 693581996, 475056128, 642945024, 404455424, 446255360, 404397312, 102118400, 522190848, 48365568, 486146048, 223805440, 412456544, 273729664, 452431872, 156643328, 269898336, 446043136]
theorem lcp_spec {b : Nat → Int32} {s e k : Nat} : ∀ (f i : Nat), e - (s + i) = f → i ≤ lcp b s e k (e - (s + i)) i ∧ (∀ j : Nat, i ≤ j → j < lcp b s e k (e - (s + i)) i → s + j < e ∧ ¬ chW (k + j) = 32 ∧ b (s + j) = chW (k + j)) ∧ ¬ (s + lcp b s e k (e - (s + i)) i < e ∧ ¬ chW (k + lcp b s e k (e - (s + i)) i) = 32 ∧ b (s + lcp b s e k (e - (s + i)) i) = chW (k + lcp b s e k (e - (s + i)) i)) := by
  intro f
  induction f with
  | zero =>
    intro i h
    have hn : ¬ (s + i < e ∧ ¬ chW (k + i) = 32 ∧ b (s + i) = chW (k + i)) := fun q => by omega
    rw [lcp_f hn]
    exact ⟨Nat.le_refl _, fun j h1 h2 => by omega, hn⟩
  | succ f ih =>
    intro i h
    by_cases hc : s + i < e ∧ ¬ chW (k + i) = 32 ∧ b (s + i) = chW (k + i)
    · rw [lcp_t hc.1 hc.2.1 hc.2.2]
      obtain ⟨i1, i2, i3⟩ := ih (i + 1) (by omega)
      refine ⟨by omega, fun j h1 h2 => ?_, i3⟩
      rcases Nat.lt_or_ge i j with q | q
      · exact i2 j q h2
      · rw [show j = i by omega]; exact hc
    · rw [lcp_f hc]
      exact ⟨Nat.le_refl _, fun j h1 h2 => by omega, hc⟩
def HW (k L : Nat) : Prop := chW (k + L) = 32 ∧ ∀ i : Nat, i < L → ¬ chW (k + i) = 32
theorem mat_iff {b : Nat → Int32} {s e k L : Nat} (hs : s ≤ e) (hw : HW k L) : (chW (k + lcp b s e k (e - s) 0) = 32 ∧ s + lcp b s e k (e - s) 0 = e) ↔ (e = s + L ∧ ∀ i : Nat, i < L → b (s + i) = chW (k + i)) := by
  have hsp := lcp_spec (b := b) (s := s) (e := e) (k := k) _ 0 rfl
  rw [Nat.add_zero] at hsp
  obtain ⟨-, h2, h3⟩ := hsp
  generalize lcp b s e k (e - s) 0 = r at h2 h3 ⊢
  constructor
  · intro ⟨q1, q2⟩
    have hr : r = L := by
      rcases Nat.lt_trichotomy r L with h | h | h
      · exact absurd q1 (hw.2 r h)
      · exact h
      · exact absurd hw.1 (h2 L (by omega) h).2.1
    subst hr
    exact ⟨q2.symm, fun i hi => (h2 i (by omega) hi).2.2⟩
  · intro ⟨q1, q2⟩
    have hr : r = L := by
      rcases Nat.lt_trichotomy r L with h | h | h
      · exact absurd ⟨by omega, hw.2 r h, q2 r h⟩ h3
      · exact h
      · exact absurd hw.1 (h2 L (by omega) h).2.1
    subst hr
    exact ⟨hw.1, q1.symm⟩
theorem spc_HW {k L : Nat} (hw : HW k L) : ∀ (f i : Nat), L - i = f → i ≤ L → k + L ≤ 112 → spc (113 - (k + i)) (k + i) = k + L := by
  intro f
  induction f with
  | zero =>
    intro i h1 h2 h3
    rw [show i = L by omega]
    exact spc_t h3 hw.1
  | succ f ih =>
    intro i h1 h2 h3
    rw [spc_f (by omega) (hw.2 i (by omega))]
    exact ih (i + 1) (by omega) (by omega) h3

/-- a row of words from k on -/
def wch : List (Nat × Nat) → Nat → Bool
  | [], k => Nat.beq k 113
  | (j, L) :: r, k => Nat.beq j k && (decide (chW (k + L) = 32) && ((List.range L).all (fun i => !decide (chW (k + i) = 32)) && (Nat.ble (k + L) 112 && (Nat.ble L 6 && (Nat.ble 1 L && wch r (k + L + 1))))))
theorem wch_ok {j L k : Nat} {r : List (Nat × Nat)} (h : wch ((j, L) :: r) k = true) : j = k ∧ HW k L ∧ k + L ≤ 112 ∧ L ≤ 6 ∧ 1 ≤ L ∧ wch r (k + L + 1) = true := by
  unfold wch at h
  simp only [Bool.and_eq_true, decide_eq_true_eq, List.all_eq_true, List.mem_range, Bool.not_eq_true', decide_eq_false_iff_not] at h
  exact ⟨Nat.eq_of_beq_eq_true h.1, ⟨h.2.1, h.2.2.1⟩, Nat.le_of_ble_eq_true h.2.2.2.1, Nat.le_of_ble_eq_true h.2.2.2.2.1, Nat.le_of_ble_eq_true h.2.2.2.2.2.1, h.2.2.2.2.2.2⟩
theorem wls_ok : wch wls 0 = true := by decide +kernel
/-- packed words and words that are spelt -/
def wpk : List (Nat × Nat) → List Int32 → Bool
  | [], [] => true
  | (k, L) :: r, v :: vs => decide (nmv chW k (k + L) 6 0 0 = v) && ((List.range L).all (fun i => ltr (chW (k + i))) && wpk r vs)
  | _, _ => false
theorem wpk_ok : wpk wls wcs = true := by decide +kernel
/-- the reference finds word w where the class does -/
theorem wd_find {b : Nat → Int32} {s e : Nat} {wd : Nat → Int32} (hs : s ≤ e) (h6 : e - s ≤ 6) (hl : ∀ j : Nat, s ≤ j → j < e → ltr (b j) = true) : ∀ (r : List (Nat × Nat)) (vs : List Int32) (k w : Nat), wch r k = true → wpk r vs = true → k ≤ 113 → (∀ i : Nat, i < vs.length → wd (w + i) = vs.getD i 0) → (wdM b s e (114 - k) k w = -1 ∧ ∀ i : Nat, i < vs.length → ¬ wd (w + i) = nmv b s e 6 0 0) ∨ (∃ i : Nat, i < vs.length ∧ wdM b s e (114 - k) k w = Int32.ofNat (w + i) ∧ wd (w + i) = nmv b s e 6 0 0) := by
  intro r
  induction r with
  | nil =>
    intro vs k w h1 h2 h3 h4
    have hk : k = 113 := Nat.eq_of_beq_eq_true h1
    subst hk
    cases vs with
    | nil => exact Or.inl ⟨rfl, fun i hi => by cases hi⟩
    | cons v vs => cases h2
  | cons a r ih =>
    intro vs k w h1 h2 h3 h4
    obtain ⟨j, L⟩ := a
    obtain ⟨c1, c2, c3, c4, c5, c6⟩ := wch_ok h1
    subst c1
    cases vs with
    | nil => cases h2
    | cons v vs =>
      have h2 : (decide (nmv chW j (j + L) 6 0 0 = v) && ((List.range L).all (fun i => ltr (chW (j + i))) && wpk r vs)) = true := h2
      simp only [Bool.and_eq_true, decide_eq_true_eq, List.all_eq_true, List.mem_range] at h2
      have hlw : ∀ i : Nat, j ≤ i → i < j + L → ltr (chW i) = true := fun i i1 i2 => by
        have := h2.2.1 (i - j) (by omega)
        rw [show j + (i - j) = i by omega] at this
        exact this
      have hin := nmv_inj (b := b) (b' := chW) (s := s) (e := e) (s' := j) (e' := j + L) hl hlw hs (by omega) h6 (by omega)
      have hm := mat_iff (b := b) (s := s) (e := e) hs c2
      have hv : wd w = v := by
        have := h4 0 (by simp)
        simpa using this
      have hiff : (chW (j + lcp b s e j (e - s) 0) = 32 ∧ s + lcp b s e j (e - s) 0 = e) ↔ wd w = nmv b s e 6 0 0 := by
        rw [hm, hv, ← h2.1]
        constructor
        · intro ⟨q1, q2⟩
          exact (hin.mpr ⟨by omega, fun i hi => q2 i (by omega)⟩).symm
        · intro q
          obtain ⟨q1, q2⟩ := hin.mp q.symm
          exact ⟨by omega, fun i hi => q2 i (by omega)⟩
      rw [show 114 - j = (113 - j) + 1 by omega]
      have eU : wdM b s e (113 - j + 1) j w = if 113 ≤ j then -1 else if chW (j + lcp b s e j (e - s) 0) = 32 ∧ s + lcp b s e j (e - s) 0 = e then Int32.ofNat w else wdM b s e (113 - j) (spc (113 - j) j + 1) (w + 1) := rfl
      rw [eU, if_neg (by omega)]
      by_cases hc : chW (j + lcp b s e j (e - s) 0) = 32 ∧ s + lcp b s e j (e - s) 0 = e
      · rw [if_pos hc]
        exact Or.inr ⟨0, by simp, rfl, hiff.mp hc⟩
      · rw [if_neg hc]
        have hsp := spc_HW c2 _ 0 rfl (by omega) c3
        rw [Nat.add_zero] at hsp
        rw [hsp, wdM_up (113 - j) (114 - (j + L + 1)) (j + L + 1) (w + 1) (by omega) (by omega) (by omega)]
        have h4' : ∀ i : Nat, i < vs.length → wd (w + 1 + i) = vs.getD i 0 := fun i hi => by
          have := h4 (i + 1) (by simpa using hi)
          rw [show w + 1 + i = w + (i + 1) by omega, this]
          simp
        rcases ih vs (j + L + 1) (w + 1) c6 h2.2.2 (by omega) h4' with ⟨q1, q2⟩ | ⟨i, q1, q2, q3⟩
        · refine Or.inl ⟨q1, fun i hi => ?_⟩
          cases i with
          | zero => exact fun q => hc (hiff.mpr q)
          | succ i =>
            have := q2 i (by simpa using hi)
            rw [show w + (i + 1) = w + 1 + i by omega]
            exact this
        · exact Or.inr ⟨i + 1, by simpa using q1, by rw [q2]; congr 1; omega, by rw [show w + (i + 1) = w + 1 + i by omega]; exact q3⟩
end
