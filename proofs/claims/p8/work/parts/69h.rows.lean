/-! The reference: rows of rides copied; what is kept for undoing; keep, back (by program: wip/x/gV3.py). -/
theorem t190_0 : xt zt190 0 1 (.aload_n 0) := ⟨rfl, rfl⟩
theorem t190_1 : xtf zt190 11 1 4 (.getfield 78) 78 11 37 3 := ⟨rfl, rfl, rfl, rfl⟩
theorem t190_4 : xt zt190 4 5 (.iload_n 1) := ⟨rfl, rfl⟩
theorem t190_5 : xt zt190 5 6 (.aload_n 0) := ⟨rfl, rfl⟩
theorem t190_6 : xtf zt190 11 6 9 (.getfield 78) 78 11 37 3 := ⟨rfl, rfl, rfl, rfl⟩
theorem t190_9 : xt zt190 9 10 (.iload_n 2) := ⟨rfl, rfl⟩
theorem t190_10 : xt zt190 10 11 .iaload := ⟨rfl, rfl⟩
theorem t190_11 : xt zt190 11 12 .iastore := ⟨rfl, rfl⟩
theorem t190_12 : xt zt190 12 13 (.aload_n 0) := ⟨rfl, rfl⟩
theorem t190_13 : xtf zt190 11 13 16 (.getfield 81) 81 11 38 3 := ⟨rfl, rfl, rfl, rfl⟩
theorem t190_16 : xt zt190 16 17 (.iload_n 1) := ⟨rfl, rfl⟩
theorem t190_17 : xt zt190 17 18 (.aload_n 0) := ⟨rfl, rfl⟩
theorem t190_18 : xtf zt190 11 18 21 (.getfield 81) 81 11 38 3 := ⟨rfl, rfl, rfl, rfl⟩
theorem t190_21 : xt zt190 21 22 (.iload_n 2) := ⟨rfl, rfl⟩
theorem t190_22 : xt zt190 22 23 .iaload := ⟨rfl, rfl⟩
theorem t190_23 : xt zt190 23 24 .iastore := ⟨rfl, rfl⟩
theorem t190_24 : xt zt190 24 25 (.aload_n 0) := ⟨rfl, rfl⟩
theorem t190_25 : xtf zt190 11 25 28 (.getfield 84) 84 11 39 3 := ⟨rfl, rfl, rfl, rfl⟩
theorem t190_28 : xt zt190 28 29 (.iload_n 1) := ⟨rfl, rfl⟩
theorem t190_29 : xt zt190 29 30 (.aload_n 0) := ⟨rfl, rfl⟩
theorem t190_30 : xtf zt190 11 30 33 (.getfield 84) 84 11 39 3 := ⟨rfl, rfl, rfl, rfl⟩
theorem t190_33 : xt zt190 33 34 (.iload_n 2) := ⟨rfl, rfl⟩
theorem t190_34 : xt zt190 34 35 .iaload := ⟨rfl, rfl⟩
theorem t190_35 : xt zt190 35 36 .iastore := ⟨rfl, rfl⟩
theorem t190_36 : xt zt190 36 37 (.aload_n 0) := ⟨rfl, rfl⟩
theorem t190_37 : xtf zt190 11 37 40 (.getfield 87) 87 11 40 3 := ⟨rfl, rfl, rfl, rfl⟩
theorem t190_40 : xt zt190 40 41 (.iload_n 1) := ⟨rfl, rfl⟩
theorem t190_41 : xt zt190 41 42 (.aload_n 0) := ⟨rfl, rfl⟩
theorem t190_42 : xtf zt190 11 42 45 (.getfield 87) 87 11 40 3 := ⟨rfl, rfl, rfl, rfl⟩
theorem t190_45 : xt zt190 45 46 (.iload_n 2) := ⟨rfl, rfl⟩
theorem t190_46 : xt zt190 46 47 .iaload := ⟨rfl, rfl⟩
theorem t190_47 : xt zt190 47 48 .iastore := ⟨rfl, rfl⟩
theorem t190_48 : xt zt190 48 49 (.aload_n 0) := ⟨rfl, rfl⟩
theorem t190_49 : xtf zt190 11 49 52 (.getfield 90) 90 11 41 3 := ⟨rfl, rfl, rfl, rfl⟩
theorem t190_52 : xt zt190 52 53 (.iload_n 1) := ⟨rfl, rfl⟩
theorem t190_53 : xt zt190 53 54 (.aload_n 0) := ⟨rfl, rfl⟩
theorem t190_54 : xtf zt190 11 54 57 (.getfield 90) 90 11 41 3 := ⟨rfl, rfl, rfl, rfl⟩
theorem t190_57 : xt zt190 57 58 (.iload_n 2) := ⟨rfl, rfl⟩
theorem t190_58 : xt zt190 58 59 .iaload := ⟨rfl, rfl⟩
theorem t190_59 : xt zt190 59 60 .iastore := ⟨rfl, rfl⟩
theorem t190_60 : xt zt190 60 61 (.aload_n 0) := ⟨rfl, rfl⟩
theorem t190_61 : xtf zt190 11 61 64 (.getfield 93) 93 11 42 3 := ⟨rfl, rfl, rfl, rfl⟩
theorem t190_64 : xt zt190 64 65 (.iload_n 1) := ⟨rfl, rfl⟩
theorem t190_65 : xt zt190 65 66 (.aload_n 0) := ⟨rfl, rfl⟩
theorem t190_66 : xtf zt190 11 66 69 (.getfield 93) 93 11 42 3 := ⟨rfl, rfl, rfl, rfl⟩
theorem t190_69 : xt zt190 69 70 (.iload_n 2) := ⟨rfl, rfl⟩
theorem t190_70 : xt zt190 70 71 .iaload := ⟨rfl, rfl⟩
theorem t190_71 : xt zt190 71 72 .iastore := ⟨rfl, rfl⟩
theorem t190_72 : xtk zt190 72 73 (0) := Or.inl ⟨0, ⟨rfl, rfl⟩, by decide⟩
theorem t190_73 : xt zt190 73 74 (.istore_n 3) := ⟨rfl, rfl⟩
theorem t190_74 : xt zt190 74 75 (.iload_n 3) := ⟨rfl, rfl⟩
theorem t190_75 : xtk zt190 75 77 (6) := Or.inr (Or.inl ⟨6, ⟨rfl, rfl⟩, by decide⟩)
theorem t190_77 : xtb zt190 77 80 214 (.if_icmp .ge 137) (137) := ⟨rfl, rfl, rfl⟩
theorem t190_80 : xtk zt190 80 82 (6) := Or.inr (Or.inl ⟨6, ⟨rfl, rfl⟩, by decide⟩)
theorem t190_82 : xt zt190 82 83 (.iload_n 1) := ⟨rfl, rfl⟩
theorem t190_83 : xt zt190 83 84 .imul := ⟨rfl, rfl⟩
theorem t190_84 : xt zt190 84 85 (.iload_n 3) := ⟨rfl, rfl⟩
theorem t190_85 : xt zt190 85 86 .iadd := ⟨rfl, rfl⟩
theorem t190_86 : xt zt190 86 88 (.istore 4) := ⟨rfl, rfl⟩
theorem t190_88 : xtk zt190 88 90 (6) := Or.inr (Or.inl ⟨6, ⟨rfl, rfl⟩, by decide⟩)
theorem t190_90 : xt zt190 90 91 (.iload_n 2) := ⟨rfl, rfl⟩
theorem t190_91 : xt zt190 91 92 .imul := ⟨rfl, rfl⟩
theorem t190_92 : xt zt190 92 93 (.iload_n 3) := ⟨rfl, rfl⟩
theorem t190_93 : xt zt190 93 94 .iadd := ⟨rfl, rfl⟩
theorem t190_94 : xt zt190 94 96 (.istore 5) := ⟨rfl, rfl⟩
theorem t190_96 : xt zt190 96 97 (.aload_n 0) := ⟨rfl, rfl⟩
theorem t190_97 : xtf zt190 11 97 100 (.getfield 96) 96 11 43 3 := ⟨rfl, rfl, rfl, rfl⟩
theorem t190_100 : xt zt190 100 102 (.iload 4) := ⟨rfl, rfl⟩
theorem t190_102 : xt zt190 102 103 (.aload_n 0) := ⟨rfl, rfl⟩
theorem t190_103 : xtf zt190 11 103 106 (.getfield 96) 96 11 43 3 := ⟨rfl, rfl, rfl, rfl⟩
theorem t190_106 : xt zt190 106 108 (.iload 5) := ⟨rfl, rfl⟩
theorem t190_108 : xt zt190 108 109 .iaload := ⟨rfl, rfl⟩
theorem t190_109 : xt zt190 109 110 .iastore := ⟨rfl, rfl⟩
theorem t190_110 : xt zt190 110 111 (.aload_n 0) := ⟨rfl, rfl⟩
theorem t190_111 : xtf zt190 11 111 114 (.getfield 99) 99 11 44 3 := ⟨rfl, rfl, rfl, rfl⟩
theorem t190_114 : xt zt190 114 116 (.iload 4) := ⟨rfl, rfl⟩
theorem t190_116 : xt zt190 116 117 (.aload_n 0) := ⟨rfl, rfl⟩
theorem t190_117 : xtf zt190 11 117 120 (.getfield 99) 99 11 44 3 := ⟨rfl, rfl, rfl, rfl⟩
theorem t190_120 : xt zt190 120 122 (.iload 5) := ⟨rfl, rfl⟩
theorem t190_122 : xt zt190 122 123 .iaload := ⟨rfl, rfl⟩
theorem t190_123 : xt zt190 123 124 .iastore := ⟨rfl, rfl⟩
theorem t190_124 : xt zt190 124 125 (.aload_n 0) := ⟨rfl, rfl⟩
theorem t190_125 : xtf zt190 11 125 128 (.getfield 102) 102 11 45 3 := ⟨rfl, rfl, rfl, rfl⟩
theorem t190_128 : xt zt190 128 130 (.iload 4) := ⟨rfl, rfl⟩
theorem t190_130 : xt zt190 130 131 (.aload_n 0) := ⟨rfl, rfl⟩
theorem t190_131 : xtf zt190 11 131 134 (.getfield 102) 102 11 45 3 := ⟨rfl, rfl, rfl, rfl⟩
theorem t190_134 : xt zt190 134 136 (.iload 5) := ⟨rfl, rfl⟩
theorem t190_136 : xt zt190 136 137 .iaload := ⟨rfl, rfl⟩
theorem t190_137 : xt zt190 137 138 .iastore := ⟨rfl, rfl⟩
theorem t190_138 : xt zt190 138 139 (.aload_n 0) := ⟨rfl, rfl⟩
theorem t190_139 : xtf zt190 11 139 142 (.getfield 105) 105 11 46 3 := ⟨rfl, rfl, rfl, rfl⟩
theorem t190_142 : xt zt190 142 144 (.iload 4) := ⟨rfl, rfl⟩
theorem t190_144 : xt zt190 144 145 (.aload_n 0) := ⟨rfl, rfl⟩
theorem t190_145 : xtf zt190 11 145 148 (.getfield 105) 105 11 46 3 := ⟨rfl, rfl, rfl, rfl⟩
theorem t190_148 : xt zt190 148 150 (.iload 5) := ⟨rfl, rfl⟩
theorem t190_150 : xt zt190 150 151 .iaload := ⟨rfl, rfl⟩
theorem t190_151 : xt zt190 151 152 .iastore := ⟨rfl, rfl⟩
theorem t190_152 : xt zt190 152 153 (.aload_n 0) := ⟨rfl, rfl⟩
theorem t190_153 : xtf zt190 11 153 156 (.getfield 108) 108 11 47 3 := ⟨rfl, rfl, rfl, rfl⟩
theorem t190_156 : xt zt190 156 158 (.iload 4) := ⟨rfl, rfl⟩
theorem t190_158 : xt zt190 158 159 (.aload_n 0) := ⟨rfl, rfl⟩
theorem t190_159 : xtf zt190 11 159 162 (.getfield 108) 108 11 47 3 := ⟨rfl, rfl, rfl, rfl⟩
theorem t190_162 : xt zt190 162 164 (.iload 5) := ⟨rfl, rfl⟩
theorem t190_164 : xt zt190 164 165 .iaload := ⟨rfl, rfl⟩
theorem t190_165 : xt zt190 165 166 .iastore := ⟨rfl, rfl⟩
theorem t190_166 : xt zt190 166 167 (.aload_n 0) := ⟨rfl, rfl⟩
theorem t190_167 : xtf zt190 11 167 170 (.getfield 111) 111 11 48 3 := ⟨rfl, rfl, rfl, rfl⟩
theorem t190_170 : xt zt190 170 172 (.iload 4) := ⟨rfl, rfl⟩
theorem t190_172 : xt zt190 172 173 (.aload_n 0) := ⟨rfl, rfl⟩
theorem t190_173 : xtf zt190 11 173 176 (.getfield 111) 111 11 48 3 := ⟨rfl, rfl, rfl, rfl⟩
theorem t190_176 : xt zt190 176 178 (.iload 5) := ⟨rfl, rfl⟩
theorem t190_178 : xt zt190 178 179 .iaload := ⟨rfl, rfl⟩
theorem t190_179 : xt zt190 179 180 .iastore := ⟨rfl, rfl⟩
theorem t190_180 : xt zt190 180 181 (.aload_n 0) := ⟨rfl, rfl⟩
theorem t190_181 : xtf zt190 11 181 184 (.getfield 114) 114 11 49 3 := ⟨rfl, rfl, rfl, rfl⟩
theorem t190_184 : xt zt190 184 186 (.iload 4) := ⟨rfl, rfl⟩
theorem t190_186 : xt zt190 186 187 (.aload_n 0) := ⟨rfl, rfl⟩
theorem t190_187 : xtf zt190 11 187 190 (.getfield 114) 114 11 49 3 := ⟨rfl, rfl, rfl, rfl⟩
theorem t190_190 : xt zt190 190 192 (.iload 5) := ⟨rfl, rfl⟩
theorem t190_192 : xt zt190 192 193 .iaload := ⟨rfl, rfl⟩
theorem t190_193 : xt zt190 193 194 .iastore := ⟨rfl, rfl⟩
theorem t190_194 : xt zt190 194 195 (.aload_n 0) := ⟨rfl, rfl⟩
theorem t190_195 : xtf zt190 11 195 198 (.getfield 120) 120 11 51 3 := ⟨rfl, rfl, rfl, rfl⟩
theorem t190_198 : xt zt190 198 200 (.iload 4) := ⟨rfl, rfl⟩
theorem t190_200 : xt zt190 200 201 (.aload_n 0) := ⟨rfl, rfl⟩
theorem t190_201 : xtf zt190 11 201 204 (.getfield 120) 120 11 51 3 := ⟨rfl, rfl, rfl, rfl⟩
theorem t190_204 : xt zt190 204 206 (.iload 5) := ⟨rfl, rfl⟩
theorem t190_206 : xt zt190 206 207 .laload := ⟨rfl, rfl⟩
theorem t190_207 : xt zt190 207 208 .lastore := ⟨rfl, rfl⟩
theorem t190_208 : xt zt190 208 211 (.iinc 3 1) := ⟨rfl, rfl⟩
theorem t190_211 : xtb zt190 211 214 74 (.goto (-137)) (-137) := ⟨rfl, rfl, rfl⟩
theorem t190_214 : xtk zt190 214 215 (0) := Or.inl ⟨0, ⟨rfl, rfl⟩, by decide⟩
theorem t190_215 : xt zt190 215 216 (.istore_n 3) := ⟨rfl, rfl⟩
theorem t190_216 : xt zt190 216 217 (.iload_n 3) := ⟨rfl, rfl⟩
theorem t190_217 : xtk zt190 217 219 (36) := Or.inr (Or.inl ⟨36, ⟨rfl, rfl⟩, by decide⟩)
theorem t190_219 : xtb zt190 219 222 250 (.if_icmp .ge 31) (31) := ⟨rfl, rfl, rfl⟩
theorem t190_222 : xt zt190 222 223 (.aload_n 0) := ⟨rfl, rfl⟩
theorem t190_223 : xtf zt190 11 223 226 (.getfield 117) 117 11 50 3 := ⟨rfl, rfl, rfl, rfl⟩
theorem t190_226 : xtk zt190 226 228 (36) := Or.inr (Or.inl ⟨36, ⟨rfl, rfl⟩, by decide⟩)
theorem t190_228 : xt zt190 228 229 (.iload_n 1) := ⟨rfl, rfl⟩
theorem t190_229 : xt zt190 229 230 .imul := ⟨rfl, rfl⟩
theorem t190_230 : xt zt190 230 231 (.iload_n 3) := ⟨rfl, rfl⟩
theorem t190_231 : xt zt190 231 232 .iadd := ⟨rfl, rfl⟩
theorem t190_232 : xt zt190 232 233 (.aload_n 0) := ⟨rfl, rfl⟩
theorem t190_233 : xtf zt190 11 233 236 (.getfield 117) 117 11 50 3 := ⟨rfl, rfl, rfl, rfl⟩
theorem t190_236 : xtk zt190 236 238 (36) := Or.inr (Or.inl ⟨36, ⟨rfl, rfl⟩, by decide⟩)
theorem t190_238 : xt zt190 238 239 (.iload_n 2) := ⟨rfl, rfl⟩
theorem t190_239 : xt zt190 239 240 .imul := ⟨rfl, rfl⟩
theorem t190_240 : xt zt190 240 241 (.iload_n 3) := ⟨rfl, rfl⟩
theorem t190_241 : xt zt190 241 242 .iadd := ⟨rfl, rfl⟩
theorem t190_242 : xt zt190 242 243 .iaload := ⟨rfl, rfl⟩
theorem t190_243 : xt zt190 243 244 .iastore := ⟨rfl, rfl⟩
theorem t190_244 : xt zt190 244 247 (.iinc 3 1) := ⟨rfl, rfl⟩
theorem t190_247 : xtb zt190 247 250 216 (.goto (-31)) (-31) := ⟨rfl, rfl, rfl⟩
theorem t190_250 : xt zt190 250 251 .return_ := ⟨rfl, rfl⟩
theorem t224_0 : xt zt224 0 1 (.aload_n 0) := ⟨rfl, rfl⟩
theorem t224_1 : xtf zt224 11 1 4 (.getfield 326) 326 11 54 1 := ⟨rfl, rfl, rfl, rfl⟩
theorem t224_4 : xtk zt224 4 6 (20) := Or.inr (Or.inl ⟨20, ⟨rfl, rfl⟩, by decide⟩)
theorem t224_6 : xtb zt224 6 9 45 (.if_icmp .ne 39) (39) := ⟨rfl, rfl, rfl⟩
theorem t224_9 : xtk zt224 9 10 (1) := Or.inl ⟨1, ⟨rfl, rfl⟩, by decide⟩
theorem t224_10 : xt zt224 10 11 (.istore_n 1) := ⟨rfl, rfl⟩
theorem t224_11 : xt zt224 11 12 (.iload_n 1) := ⟨rfl, rfl⟩
theorem t224_12 : xtk zt224 12 14 (20) := Or.inr (Or.inl ⟨20, ⟨rfl, rfl⟩, by decide⟩)
theorem t224_14 : xtb zt224 14 17 35 (.if_icmp .ge 21) (21) := ⟨rfl, rfl, rfl⟩
theorem t224_17 : xt zt224 17 18 (.aload_n 0) := ⟨rfl, rfl⟩
theorem t224_18 : xtk zt224 18 19 (4) := Or.inl ⟨4, ⟨rfl, rfl⟩, by decide⟩
theorem t224_19 : xt zt224 19 20 (.iload_n 1) := ⟨rfl, rfl⟩
theorem t224_20 : xt zt224 20 21 .iadd := ⟨rfl, rfl⟩
theorem t224_21 : xtk zt224 21 22 (1) := Or.inl ⟨1, ⟨rfl, rfl⟩, by decide⟩
theorem t224_22 : xt zt224 22 23 .isub := ⟨rfl, rfl⟩
theorem t224_23 : xtk zt224 23 24 (4) := Or.inl ⟨4, ⟨rfl, rfl⟩, by decide⟩
theorem t224_24 : xt zt224 24 25 (.iload_n 1) := ⟨rfl, rfl⟩
theorem t224_25 : xt zt224 25 26 .iadd := ⟨rfl, rfl⟩
theorem t224_26 : xtc zt224 11 26 29 (.invokevirtual 449) 449 1 190 2 := ⟨rfl, rfl, rfl⟩
theorem t224_29 : xt zt224 29 32 (.iinc 1 1) := ⟨rfl, rfl⟩
theorem t224_32 : xtb zt224 32 35 11 (.goto (-21)) (-21) := ⟨rfl, rfl, rfl⟩
theorem t224_35 : xt zt224 35 36 (.aload_n 0) := ⟨rfl, rfl⟩
theorem t224_36 : xt zt224 36 37 .dup := ⟨rfl, rfl⟩
theorem t224_37 : xtf zt224 11 37 40 (.getfield 326) 326 11 54 1 := ⟨rfl, rfl, rfl, rfl⟩
theorem t224_40 : xtk zt224 40 41 (1) := Or.inl ⟨1, ⟨rfl, rfl⟩, by decide⟩
theorem t224_41 : xt zt224 41 42 .isub := ⟨rfl, rfl⟩
theorem t224_42 : xtf zt224 11 42 45 (.putfield 326) 326 11 54 1 := ⟨rfl, rfl, rfl, rfl⟩
theorem t224_45 : xt zt224 45 46 (.aload_n 0) := ⟨rfl, rfl⟩
theorem t224_46 : xtk zt224 46 47 (4) := Or.inl ⟨4, ⟨rfl, rfl⟩, by decide⟩
theorem t224_47 : xt zt224 47 48 (.aload_n 0) := ⟨rfl, rfl⟩
theorem t224_48 : xtf zt224 11 48 51 (.getfield 326) 326 11 54 1 := ⟨rfl, rfl, rfl, rfl⟩
theorem t224_51 : xt zt224 51 52 .iadd := ⟨rfl, rfl⟩
theorem t224_52 : xtk zt224 52 53 (0) := Or.inl ⟨0, ⟨rfl, rfl⟩, by decide⟩
theorem t224_53 : xtc zt224 11 53 56 (.invokevirtual 449) 449 1 190 2 := ⟨rfl, rfl, rfl⟩
theorem t224_56 : xt zt224 56 57 (.aload_n 0) := ⟨rfl, rfl⟩
theorem t224_57 : xt zt224 57 58 .dup := ⟨rfl, rfl⟩
theorem t224_58 : xtf zt224 11 58 61 (.getfield 326) 326 11 54 1 := ⟨rfl, rfl, rfl, rfl⟩
theorem t224_61 : xtk zt224 61 62 (1) := Or.inl ⟨1, ⟨rfl, rfl⟩, by decide⟩
theorem t224_62 : xt zt224 62 63 .iadd := ⟨rfl, rfl⟩
theorem t224_63 : xtf zt224 11 63 66 (.putfield 326) 326 11 54 1 := ⟨rfl, rfl, rfl, rfl⟩
theorem t224_66 : xt zt224 66 67 .return_ := ⟨rfl, rfl⟩
theorem t258_0 : xt zt258 0 1 (.aload_n 0) := ⟨rfl, rfl⟩
theorem t258_1 : xtk zt258 1 2 (0) := Or.inl ⟨0, ⟨rfl, rfl⟩, by decide⟩
theorem t258_2 : xtf zt258 11 2 5 (.putfield 166) 166 11 0 1 := ⟨rfl, rfl, rfl, rfl⟩
theorem t258_5 : xt zt258 5 6 (.aload_n 0) := ⟨rfl, rfl⟩
theorem t258_6 : xtk zt258 6 7 (3) := Or.inl ⟨3, ⟨rfl, rfl⟩, by decide⟩
theorem t258_7 : xtk zt258 7 8 (0) := Or.inl ⟨0, ⟨rfl, rfl⟩, by decide⟩
theorem t258_8 : xtc zt258 11 8 11 (.invokevirtual 449) 449 1 190 2 := ⟨rfl, rfl, rfl⟩
theorem t258_11 : xt zt258 11 12 (.aload_n 0) := ⟨rfl, rfl⟩
theorem t258_12 : xtk zt258 12 13 (1) := Or.inl ⟨1, ⟨rfl, rfl⟩, by decide⟩
theorem t258_13 : xtf zt258 11 13 16 (.putfield 322) 322 11 53 1 := ⟨rfl, rfl, rfl, rfl⟩
theorem t258_16 : xt zt258 16 17 (.aload_n 0) := ⟨rfl, rfl⟩
theorem t258_17 : xtf zt258 11 17 20 (.getfield 78) 78 11 37 3 := ⟨rfl, rfl, rfl, rfl⟩
theorem t258_20 : xtk zt258 20 21 (0) := Or.inl ⟨0, ⟨rfl, rfl⟩, by decide⟩
theorem t258_21 : xt zt258 21 22 .iaload := ⟨rfl, rfl⟩
theorem t258_22 : xt zt258 22 23 .ireturn := ⟨rfl, rfl⟩
theorem t259_0 : xt zt259 0 1 (.aload_n 0) := ⟨rfl, rfl⟩
theorem t259_1 : xtk zt259 1 2 (0) := Or.inl ⟨0, ⟨rfl, rfl⟩, by decide⟩
theorem t259_2 : xtf zt259 11 2 5 (.putfield 166) 166 11 0 1 := ⟨rfl, rfl, rfl, rfl⟩
theorem t259_5 : xt zt259 5 6 (.aload_n 0) := ⟨rfl, rfl⟩
theorem t259_6 : xtf zt259 11 6 9 (.getfield 322) 322 11 53 1 := ⟨rfl, rfl, rfl, rfl⟩
theorem t259_9 : xtb zt259 9 12 14 (.ifCond .ne 5) (5) := ⟨rfl, rfl, rfl⟩
theorem t259_12 : xtk zt259 12 13 (-1) := Or.inl ⟨-1, ⟨rfl, rfl⟩, by decide⟩
theorem t259_13 : xt zt259 13 14 .ireturn := ⟨rfl, rfl⟩
theorem t259_14 : xt zt259 14 15 (.aload_n 0) := ⟨rfl, rfl⟩
theorem t259_15 : xtk zt259 15 16 (0) := Or.inl ⟨0, ⟨rfl, rfl⟩, by decide⟩
theorem t259_16 : xtk zt259 16 17 (3) := Or.inl ⟨3, ⟨rfl, rfl⟩, by decide⟩
theorem t259_17 : xtc zt259 11 17 20 (.invokevirtual 449) 449 1 190 2 := ⟨rfl, rfl, rfl⟩
theorem t259_20 : xt zt259 20 21 (.aload_n 0) := ⟨rfl, rfl⟩
theorem t259_21 : xtk zt259 21 22 (0) := Or.inl ⟨0, ⟨rfl, rfl⟩, by decide⟩
theorem t259_22 : xtf zt259 11 22 25 (.putfield 326) 326 11 54 1 := ⟨rfl, rfl, rfl, rfl⟩
theorem t259_25 : xt zt259 25 26 (.aload_n 0) := ⟨rfl, rfl⟩
theorem t259_26 : xtf zt259 11 26 29 (.getfield 78) 78 11 37 3 := ⟨rfl, rfl, rfl, rfl⟩
theorem t259_29 : xtk zt259 29 30 (0) := Or.inl ⟨0, ⟨rfl, rfl⟩, by decide⟩
theorem t259_30 : xt zt259 30 31 .iaload := ⟨rfl, rfl⟩
theorem t259_31 : xt zt259 31 32 .ireturn := ⟨rfl, rfl⟩
/-- what of a row is held against the class: day, mile, ears, seats, tellings -/
abbrev rRow : Type := Int32 × Int32 × Int32 × (Nat → Int32) × (Nat → Int64)
def rowOf (m : xM) (g : xL) (r : Nat) : rRow := (m 150 r, m 151 r, m 155 r, fun p => if p < 6 then m 156 (6 * r + p) else 0, fun j => if j < 6 then g 164 (6 * r + j) else 0)
theorem rowOf_eq {m m' : xM} {g g' : xL} {r r' : Nat} (h1 : m' 150 r' = m 150 r) (h2 : m' 151 r' = m 151 r) (h3 : m' 155 r' = m 155 r) (h4 : ∀ p : Nat, p < 6 → m' 156 (6 * r' + p) = m 156 (6 * r + p)) (h5 : ∀ p : Nat, p < 6 → g' 164 (6 * r' + p) = g 164 (6 * r + p)) : rowOf m' g' r' = rowOf m g r := by
  have e4 : (fun p => if p < 6 then m' 156 (6 * r' + p) else 0) = (fun p => if p < 6 then m 156 (6 * r + p) else 0) := funext fun p => by
    by_cases hp : p < 6
    · rw [if_pos hp, if_pos hp, h4 p hp]
    · rw [if_neg hp, if_neg hp]
  have e5 : (fun j => if j < 6 then g' 164 (6 * r' + j) else 0) = (fun j => if j < 6 then g 164 (6 * r + j) else 0) := funext fun p => by
    by_cases hp : p < 6
    · rw [if_pos hp, if_pos hp, h5 p hp]
    · rw [if_neg hp, if_neg hp]
  unfold rowOf
  rw [h1, h2, h3, e4, e5]
theorem rowOf_st {m m' : xM} {g g' : xL} {r : Nat} (h : ∀ c : Nat, 150 ≤ c → c ≤ 156 → m' c = m c) (hg : g' 164 = g 164) : rowOf m' g' r = rowOf m g r :=
  rowOf_eq (by rw [h 150 (by decide) (by decide)]) (by rw [h 151 (by decide) (by decide)]) (by rw [h 155 (by decide) (by decide)]) (fun p _ => by rw [h 156 (by decide) (by decide)]) (fun p _ => by rw [hg])
/-- cells of the rows -/
def GW (G : xG) : Prop := (∀ k : Nat, 37 ≤ k → k ≤ 51 → G.1 128 k = some (113 + k)) ∧ ∀ c : Nat, 150 ≤ c → c ≤ 163 → ∃ L : Nat, G.2 c = (0, 1, L)
theorem ix6 {t k : Nat} : (6 : Int32) * Int32.ofNat t + Int32.ofNat k = Int32.ofNat (6 * t + k) := by
  rw [show (6 : Int32) = Int32.ofNat 6 from rfl, xn_mul, xn_add]
/-- row t is as row a was; the others stay -/
def CPR (t a : Nat) (m : xM) (g : xL) (m' : xM) (g' : xL) : Prop := (∀ c : Nat, c < 150 ∨ 163 < c → m' c = m c) ∧ (∀ c : Nat, ¬ c = 164 → g' c = g c) ∧ rowOf m' g' t = rowOf m g a ∧ ∀ r : Nat, ¬ r = t → rowOf m' g' r = rowOf m g r
theorem lp190b {nf : Bool} {xs : List Int32} {d : Nat} {g : xL} {G : xG} {r : Option Value} {h' : zH} {t a : Nat} {i j : Int32} {m0 : xM} (hG : GW G) : ∀ (N : Nat) (k : Int32) (m : xM), (∀ c : Nat, ¬ c = 163 → m c = m0 c) → RR nf xs d 11 false 6 none zt190 G r h' N (216, [(3, .int k), (5, .int j), (4, .int i), (0, .ref 128), (1, .int (Int32.ofNat t)), (2, .int (Int32.ofNat a))], [], m, g) → ∃ (m' : xM) (g' : xL), HS h' m' g' G ∧ r = none ∧ g' = g ∧ ∀ c : Nat, ¬ c = 163 → m' c = m0 c := by
  intro N
  obtain ⟨L163, h163⟩ := hG.2 163 (by decide) (by decide)
  induction N with
  | zero => intro k m _ hr; exact hr.no.elim
  | succ N ih =>
    intro k m hm hr
    replace hr := hr.go1 (s_iload_n t190_216 rfl)
    replace hr := hr.go (s_k t190_217)
    rcases hr.bGe t190_219 with ⟨b219, hr⟩ | ⟨b219, hr⟩
    · obtain ⟨rfl, hs⟩ := hr.ret t190_250
      exact ⟨_, _, hs, rfl, rfl, hm⟩
    · replace hr := hr.go (s_aload_n t190_222 rfl)
      replace hr := hr.go (s_getr t190_223 (hG.1 50 (by decide) (by decide)))
      replace hr := hr.go (s_k t190_226)
      replace hr := hr.go (s_iload_n t190_228 rfl)
      replace hr := hr.go (s_imul t190_229)
      replace hr := hr.go (s_iload_n t190_230 rfl)
      replace hr := hr.go (s_iadd t190_231)
      replace hr := hr.go (s_aload_n t190_232 rfl)
      replace hr := hr.go (s_getr t190_233 (hG.1 50 (by decide) (by decide)))
      replace hr := hr.go (s_k t190_236)
      replace hr := hr.go (s_iload_n t190_238 rfl)
      replace hr := hr.go (s_imul t190_239)
      replace hr := hr.go (s_iload_n t190_240 rfl)
      replace hr := hr.go (s_iadd t190_241)
      replace hr := hr.go (s_iaload t190_242 (h163))
      replace hr := hr.go (s_iastore t190_243)
      replace hr := hr.go (s_iinc (ls' := [(3, _), (5, _), (4, _), (0, _), (1, _), (2, _)]) t190_244 rfl rfl)
      replace hr := hr.go (s_goto t190_247)
      exact ih _ _ (fun c hc => (xu_row hc).trans (hm c hc)) hr
theorem bd190 {nf : Bool} {xs : List Int32} {d : Nat} {g : xL} {G : xG} {r : Option Value} {h' : zH} {t a k N : Nat} {m : xM} (hG : GW G) (ht : t < 24) (ha : a < 24) (hk : k < 6) (hr : RR nf xs d 11 false 6 none zt190 G r h' N (96, [(5, .int (Int32.ofNat (6 * a + k))), (4, .int (Int32.ofNat (6 * t + k))), (3, .int (Int32.ofNat k)), (0, .ref 128), (1, .int (Int32.ofNat t)), (2, .int (Int32.ofNat a))], [], m, g)) : ∃ (m2 : xM) (g2 : xL), (∀ c : Nat, c < 156 ∨ 162 < c → m2 c = m c) ∧ (∀ c : Nat, ¬ c = 164 → g2 c = g c) ∧ (∀ q : Nat, m2 156 q = if q = 6 * t + k then m 156 (6 * a + k) else m 156 q) ∧ (∀ q : Nat, g2 164 q = if q = 6 * t + k then g 164 (6 * a + k) else g 164 q) ∧ RR nf xs d 11 false 6 none zt190 G r h' N (74, [(3, .int (Int32.ofNat (k + 1))), (5, .int (Int32.ofNat (6 * a + k))), (4, .int (Int32.ofNat (6 * t + k))), (0, .ref 128), (1, .int (Int32.ofNat t)), (2, .int (Int32.ofNat a))], [], m2, g2) := by
  obtain ⟨L156, h156⟩ := hG.2 156 (by decide) (by decide)
  obtain ⟨L157, h157⟩ := hG.2 157 (by decide) (by decide)
  obtain ⟨L158, h158⟩ := hG.2 158 (by decide) (by decide)
  obtain ⟨L159, h159⟩ := hG.2 159 (by decide) (by decide)
  obtain ⟨L160, h160⟩ := hG.2 160 (by decide) (by decide)
  obtain ⟨L161, h161⟩ := hG.2 161 (by decide) (by decide)
  obtain ⟨L162, h162⟩ := hG.2 162 (by decide) (by decide)
  replace hr := hr.go (s_aload_n t190_96 rfl)
  replace hr := hr.go (s_getr t190_97 (hG.1 43 (by decide) (by decide)))
  replace hr := hr.go (s_iload t190_100 rfl)
  replace hr := hr.go (s_aload_n t190_102 rfl)
  replace hr := hr.go (s_getr t190_103 (hG.1 43 (by decide) (by decide)))
  replace hr := hr.go (s_iload t190_106 rfl)
  replace hr := hr.go (s_iaload t190_108 (h156))
  replace hr := hr.go (s_iastore t190_109)
  replace hr := hr.go (s_aload_n t190_110 rfl)
  replace hr := hr.go (s_getr t190_111 (hG.1 44 (by decide) (by decide)))
  replace hr := hr.go (s_iload t190_114 rfl)
  replace hr := hr.go (s_aload_n t190_116 rfl)
  replace hr := hr.go (s_getr t190_117 (hG.1 44 (by decide) (by decide)))
  replace hr := hr.go (s_iload t190_120 rfl)
  replace hr := hr.go (s_iaload t190_122 (h157))
  replace hr := hr.go (s_iastore t190_123)
  replace hr := hr.go (s_aload_n t190_124 rfl)
  replace hr := hr.go (s_getr t190_125 (hG.1 45 (by decide) (by decide)))
  replace hr := hr.go (s_iload t190_128 rfl)
  replace hr := hr.go (s_aload_n t190_130 rfl)
  replace hr := hr.go (s_getr t190_131 (hG.1 45 (by decide) (by decide)))
  replace hr := hr.go (s_iload t190_134 rfl)
  replace hr := hr.go (s_iaload t190_136 (h158))
  replace hr := hr.go (s_iastore t190_137)
  replace hr := hr.go (s_aload_n t190_138 rfl)
  replace hr := hr.go (s_getr t190_139 (hG.1 46 (by decide) (by decide)))
  replace hr := hr.go (s_iload t190_142 rfl)
  replace hr := hr.go (s_aload_n t190_144 rfl)
  replace hr := hr.go (s_getr t190_145 (hG.1 46 (by decide) (by decide)))
  replace hr := hr.go (s_iload t190_148 rfl)
  replace hr := hr.go (s_iaload t190_150 (h159))
  replace hr := hr.go (s_iastore t190_151)
  replace hr := hr.go (s_aload_n t190_152 rfl)
  replace hr := hr.go (s_getr t190_153 (hG.1 47 (by decide) (by decide)))
  replace hr := hr.go (s_iload t190_156 rfl)
  replace hr := hr.go (s_aload_n t190_158 rfl)
  replace hr := hr.go (s_getr t190_159 (hG.1 47 (by decide) (by decide)))
  replace hr := hr.go (s_iload t190_162 rfl)
  replace hr := hr.go (s_iaload t190_164 (h160))
  replace hr := hr.go (s_iastore t190_165)
  replace hr := hr.go (s_aload_n t190_166 rfl)
  replace hr := hr.go (s_getr t190_167 (hG.1 48 (by decide) (by decide)))
  replace hr := hr.go (s_iload t190_170 rfl)
  replace hr := hr.go (s_aload_n t190_172 rfl)
  replace hr := hr.go (s_getr t190_173 (hG.1 48 (by decide) (by decide)))
  replace hr := hr.go (s_iload t190_176 rfl)
  replace hr := hr.go (s_iaload t190_178 (h161))
  replace hr := hr.go (s_iastore t190_179)
  replace hr := hr.go (s_aload_n t190_180 rfl)
  replace hr := hr.go (s_getr t190_181 (hG.1 49 (by decide) (by decide)))
  replace hr := hr.go (s_iload t190_184 rfl)
  replace hr := hr.go (s_aload_n t190_186 rfl)
  replace hr := hr.go (s_getr t190_187 (hG.1 49 (by decide) (by decide)))
  replace hr := hr.go (s_iload t190_190 rfl)
  replace hr := hr.go (s_iaload t190_192 (h162))
  replace hr := hr.go (s_iastore t190_193)
  replace hr := hr.go (s_aload_n t190_194 rfl)
  replace hr := hr.go (s_getr t190_195 (hG.1 51 (by decide) (by decide)))
  replace hr := hr.go (s_iload t190_198 rfl)
  replace hr := hr.go (s_aload_n t190_200 rfl)
  replace hr := hr.go (s_getr t190_201 (hG.1 51 (by decide) (by decide)))
  replace hr := hr.go (s_iload t190_204 rfl)
  replace hr := hr.go (s_laload t190_206)
  replace hr := hr.go (s_lastore t190_207)
  rw [xn_nat (show 6 * t + k < 2147483648 by omega), xn_nat (show 6 * a + k < 2147483648 by omega)] at hr
  replace hr := hr.go (s_iinc (ls' := [(3, _), (5, _), (4, _), (0, _), (1, _), (2, _)]) t190_208 rfl rfl)
  rw [xn_1i] at hr
  replace hr := hr.go (s_goto t190_211)
  refine ⟨_, _, fun c hc => ?_, fun c hc => xu_row hc, fun q => ?_, fun q => xu_at, hr⟩
  · repeat rw [xu_row (by omega)]
  · repeat rw [xu_row (by decide)]
    exact xu_at
theorem st190 {m m2 : Nat → Int32} {t a k : Nat} {m0 : Nat → Int32} (hta : ¬ t = a) (hk : k < 6) (h : ∀ q : Nat, m q = if 6 * t ≤ q ∧ q < 6 * t + k then m0 (6 * a + (q - 6 * t)) else m0 q) (h2 : ∀ q : Nat, m2 q = if q = 6 * t + k then m (6 * a + k) else m q) : ∀ q : Nat, m2 q = if 6 * t ≤ q ∧ q < 6 * t + (k + 1) then m0 (6 * a + (q - 6 * t)) else m0 q := by
  intro q
  rw [h2 q, h q, h (6 * a + k)]
  by_cases e : q = 6 * t + k
  · rw [if_pos e, if_neg (by omega), if_pos (by omega)]
    congr 1
    omega
  · rw [if_neg e]
    by_cases f : 6 * t ≤ q ∧ q < 6 * t + k
    · rw [if_pos f, if_pos (by omega)]
    · rw [if_neg f, if_neg (by omega)]
theorem st190l {m m2 : Nat → Int64} {t a k : Nat} {m0 : Nat → Int64} (hta : ¬ t = a) (hk : k < 6) (h : ∀ q : Nat, m q = if 6 * t ≤ q ∧ q < 6 * t + k then m0 (6 * a + (q - 6 * t)) else m0 q) (h2 : ∀ q : Nat, m2 q = if q = 6 * t + k then m (6 * a + k) else m q) : ∀ q : Nat, m2 q = if 6 * t ≤ q ∧ q < 6 * t + (k + 1) then m0 (6 * a + (q - 6 * t)) else m0 q := by
  intro q
  rw [h2 q, h q, h (6 * a + k)]
  by_cases e : q = 6 * t + k
  · rw [if_pos e, if_neg (by omega), if_pos (by omega)]
    congr 1
    omega
  · rw [if_neg e]
    by_cases f : 6 * t ≤ q ∧ q < 6 * t + k
    · rw [if_pos f, if_pos (by omega)]
    · rw [if_neg f, if_neg (by omega)]
theorem lp190a {nf : Bool} {xs : List Int32} {d : Nat} {G : xG} {r : Option Value} {h' : zH} {t a : Nat} {m0 : xM} {g0 : xL} (hG : GW G) (ht : t < 24) (ha : a < 24) (hta : ¬ t = a) : ∀ (N k : Nat) (i j : Int32) (m : xM) (g : xL), (∀ c : Nat, c < 156 ∨ 162 < c → m c = m0 c) → (∀ c : Nat, ¬ c = 164 → g c = g0 c) → (∀ q : Nat, m 156 q = if 6 * t ≤ q ∧ q < 6 * t + k then m0 156 (6 * a + (q - 6 * t)) else m0 156 q) → (∀ q : Nat, g 164 q = if 6 * t ≤ q ∧ q < 6 * t + k then g0 164 (6 * a + (q - 6 * t)) else g0 164 q) → k ≤ 6 → RR nf xs d 11 false 6 none zt190 G r h' N (74, [(3, .int (Int32.ofNat k)), (5, .int j), (4, .int i), (0, .ref 128), (1, .int (Int32.ofNat t)), (2, .int (Int32.ofNat a))], [], m, g) → ∃ (m' : xM) (g' : xL), HS h' m' g' G ∧ r = none ∧ (∀ c : Nat, c < 156 ∨ 163 < c → m' c = m0 c) ∧ (∀ c : Nat, ¬ c = 164 → g' c = g0 c) ∧ (∀ q : Nat, m' 156 q = if 6 * t ≤ q ∧ q < 6 * t + 6 then m0 156 (6 * a + (q - 6 * t)) else m0 156 q) ∧ ∀ q : Nat, g' 164 q = if 6 * t ≤ q ∧ q < 6 * t + 6 then g0 164 (6 * a + (q - 6 * t)) else g0 164 q := by
  intro N
  induction N with
  | zero => intro k i j m g _ _ _ _ _ hr; exact hr.no.elim
  | succ N ih =>
    intro k i j m g h1 h2 h3 h4 hk hr
    have qk : (Int32.ofNat k).toInt = (k : Int) := xn_int (by omega)
    have k6 : (6 : Int32).toInt = 6 := rfl
    replace hr := hr.go1 (s_iload_n t190_74 rfl)
    replace hr := hr.go (s_k t190_75)
    rcases hr.bGe t190_77 with ⟨b77, hr⟩ | ⟨b77, hr⟩
    · replace hr := hr.go (s_k t190_214)
      replace hr := hr.go (s_istore_n (ls' := [(3, _), (5, _), (4, _), (0, _), (1, _), (2, _)]) t190_215 rfl)
      obtain ⟨m', g', hs, e1, e2, e3⟩ := lp190b hG N _ m (fun c _ => rfl) hr
      have k6 : k = 6 := by omega
      subst k6
      subst e2
      refine ⟨m', _, hs, e1, fun c hc => (e3 c (by omega)).trans (h1 c (by omega)), h2, fun q => ?_, h4⟩
      rw [e3 156 (by decide)]
      exact h3 q
    · replace hr := hr.go (s_k t190_80)
      replace hr := hr.go (s_iload_n t190_82 rfl)
      replace hr := hr.go (s_imul t190_83)
      replace hr := hr.go (s_iload_n t190_84 rfl)
      replace hr := hr.go (s_iadd t190_85)
      rw [ix6] at hr
      replace hr := hr.go (s_istore (ls' := [(4, _), (3, _), (5, _), (0, _), (1, _), (2, _)]) t190_86 rfl)
      replace hr := hr.go (s_k t190_88)
      replace hr := hr.go (s_iload_n t190_90 rfl)
      replace hr := hr.go (s_imul t190_91)
      replace hr := hr.go (s_iload_n t190_92 rfl)
      replace hr := hr.go (s_iadd t190_93)
      rw [ix6] at hr
      replace hr := hr.go (s_istore (ls' := [(5, _), (4, _), (3, _), (0, _), (1, _), (2, _)]) t190_94 rfl)
      obtain ⟨m2, g2, f1, f2, f3, f4, hr⟩ := bd190 hG ht ha (by omega) hr
      exact ih (k + 1) _ _ m2 g2 (fun c hc => (f1 c hc).trans (h1 c hc)) (fun c hc => (f2 c hc).trans (h2 c hc)) (st190 hta (by omega) h3 f3) (st190l hta (by omega) h4 f4) (by omega) hr
theorem ct_copies {nf : Bool} {xs : List Int32} {d : Nat} {m : xM} {g : xL} {G : xG} {t a : Nat} (hG : GW G) (ht : t < 24) (ha : a < 24) (hta : ¬ t = a) : CT nf xs d 190 [.ref 128, .int (Int32.ofNat t), .int (Int32.ofNat a)] m g G (fun r m' g' => r = none ∧ CPR t a m g m' g') := by
  refine CT.of (c := 11) (ini := false) (nL := 6) (rt := none) (tab := zt190) rfl (fun d' r h' N hd' hr => ?_)
  replace hr : RR nf xs d' 11 false 6 none zt190 G r h' N (0, [(0, .ref 128), (1, .int (Int32.ofNat t)), (2, .int (Int32.ofNat a))], [], m, g) := hr
  obtain ⟨L150, h150⟩ := hG.2 150 (by decide) (by decide)
  obtain ⟨L151, h151⟩ := hG.2 151 (by decide) (by decide)
  obtain ⟨L152, h152⟩ := hG.2 152 (by decide) (by decide)
  obtain ⟨L153, h153⟩ := hG.2 153 (by decide) (by decide)
  obtain ⟨L154, h154⟩ := hG.2 154 (by decide) (by decide)
  obtain ⟨L155, h155⟩ := hG.2 155 (by decide) (by decide)
  obtain ⟨L156, h156⟩ := hG.2 156 (by decide) (by decide)
  obtain ⟨L157, h157⟩ := hG.2 157 (by decide) (by decide)
  obtain ⟨L158, h158⟩ := hG.2 158 (by decide) (by decide)
  obtain ⟨L159, h159⟩ := hG.2 159 (by decide) (by decide)
  obtain ⟨L160, h160⟩ := hG.2 160 (by decide) (by decide)
  obtain ⟨L161, h161⟩ := hG.2 161 (by decide) (by decide)
  obtain ⟨L162, h162⟩ := hG.2 162 (by decide) (by decide)
  replace hr := hr.go (s_aload_n t190_0 rfl)
  replace hr := hr.go (s_getr t190_1 (hG.1 37 (by decide) (by decide)))
  replace hr := hr.go (s_iload_n t190_4 rfl)
  replace hr := hr.go (s_aload_n t190_5 rfl)
  replace hr := hr.go (s_getr t190_6 (hG.1 37 (by decide) (by decide)))
  replace hr := hr.go (s_iload_n t190_9 rfl)
  replace hr := hr.go (s_iaload t190_10 (h150))
  replace hr := hr.go (s_iastore t190_11)
  replace hr := hr.go (s_aload_n t190_12 rfl)
  replace hr := hr.go (s_getr t190_13 (hG.1 38 (by decide) (by decide)))
  replace hr := hr.go (s_iload_n t190_16 rfl)
  replace hr := hr.go (s_aload_n t190_17 rfl)
  replace hr := hr.go (s_getr t190_18 (hG.1 38 (by decide) (by decide)))
  replace hr := hr.go (s_iload_n t190_21 rfl)
  replace hr := hr.go (s_iaload t190_22 (h151))
  replace hr := hr.go (s_iastore t190_23)
  replace hr := hr.go (s_aload_n t190_24 rfl)
  replace hr := hr.go (s_getr t190_25 (hG.1 39 (by decide) (by decide)))
  replace hr := hr.go (s_iload_n t190_28 rfl)
  replace hr := hr.go (s_aload_n t190_29 rfl)
  replace hr := hr.go (s_getr t190_30 (hG.1 39 (by decide) (by decide)))
  replace hr := hr.go (s_iload_n t190_33 rfl)
  replace hr := hr.go (s_iaload t190_34 (h152))
  replace hr := hr.go (s_iastore t190_35)
  replace hr := hr.go (s_aload_n t190_36 rfl)
  replace hr := hr.go (s_getr t190_37 (hG.1 40 (by decide) (by decide)))
  replace hr := hr.go (s_iload_n t190_40 rfl)
  replace hr := hr.go (s_aload_n t190_41 rfl)
  replace hr := hr.go (s_getr t190_42 (hG.1 40 (by decide) (by decide)))
  replace hr := hr.go (s_iload_n t190_45 rfl)
  replace hr := hr.go (s_iaload t190_46 (h153))
  replace hr := hr.go (s_iastore t190_47)
  replace hr := hr.go (s_aload_n t190_48 rfl)
  replace hr := hr.go (s_getr t190_49 (hG.1 41 (by decide) (by decide)))
  replace hr := hr.go (s_iload_n t190_52 rfl)
  replace hr := hr.go (s_aload_n t190_53 rfl)
  replace hr := hr.go (s_getr t190_54 (hG.1 41 (by decide) (by decide)))
  replace hr := hr.go (s_iload_n t190_57 rfl)
  replace hr := hr.go (s_iaload t190_58 (h154))
  replace hr := hr.go (s_iastore t190_59)
  replace hr := hr.go (s_aload_n t190_60 rfl)
  replace hr := hr.go (s_getr t190_61 (hG.1 42 (by decide) (by decide)))
  replace hr := hr.go (s_iload_n t190_64 rfl)
  replace hr := hr.go (s_aload_n t190_65 rfl)
  replace hr := hr.go (s_getr t190_66 (hG.1 42 (by decide) (by decide)))
  replace hr := hr.go (s_iload_n t190_69 rfl)
  replace hr := hr.go (s_iaload t190_70 (h155))
  replace hr := hr.go (s_iastore t190_71)
  rw [xn_nat (show t < 2147483648 by omega), xn_nat (show a < 2147483648 by omega)] at hr
  replace hr := hr.go (s_k t190_72)
  replace hr := hr.go (s_istore_n (ls' := [(3, _), (0, _), (1, _), (2, _)]) t190_73 rfl)
  replace hr := hr.go (s_iload_n t190_74 rfl)
  replace hr := hr.go (s_k t190_75)
  replace hr := hr.brF t190_77 (by decide)
  replace hr := hr.go (s_k t190_80)
  replace hr := hr.go (s_iload_n t190_82 rfl)
  replace hr := hr.go (s_imul t190_83)
  replace hr := hr.go (s_iload_n t190_84 rfl)
  replace hr := hr.go (s_iadd t190_85)
  rw [show (6 : Int32) * Int32.ofNat t + 0 = Int32.ofNat (6 * t + 0) from ix6 (k := 0)] at hr
  replace hr := hr.go (s_istore (ls' := [(4, _), (3, _), (0, _), (1, _), (2, _)]) t190_86 rfl)
  replace hr := hr.go (s_k t190_88)
  replace hr := hr.go (s_iload_n t190_90 rfl)
  replace hr := hr.go (s_imul t190_91)
  replace hr := hr.go (s_iload_n t190_92 rfl)
  replace hr := hr.go (s_iadd t190_93)
  rw [show (6 : Int32) * Int32.ofNat a + 0 = Int32.ofNat (6 * a + 0) from ix6 (k := 0)] at hr
  replace hr := hr.go (s_istore (ls' := [(5, _), (4, _), (3, _), (0, _), (1, _), (2, _)]) t190_94 rfl)
  obtain ⟨m2, g2, f1, f2, f3, f4, hr⟩ := bd190 (k := 0) hG ht ha (by decide) hr
  have z0 : ∀ {α : Type} (f : Nat → α) (q : Nat), f q = if 6 * t ≤ q ∧ q < 6 * t + 0 then f (6 * a + (q - 6 * t)) else f q := fun f q => by rw [if_neg (by omega)]
  obtain ⟨m', g', hs, e1, e2, e3, e4, e5⟩ := lp190a hG ht ha hta _ 1 _ _ m2 g2 f1 f2 (st190 hta (by decide) (z0 _) f3) (st190l hta (by decide) (z0 _) f4) (by decide) hr
  refine ⟨m', g', hs, e1, fun c hc => ?_, e3, rowOf_eq ?_ ?_ ?_ (fun p hp => ?_) (fun p hp => ?_), fun z hz => rowOf_eq ?_ ?_ ?_ (fun p hp => ?_) (fun p hp => ?_)⟩
  · rw [e2 c (by omega)]
    repeat rw [xu_row (by omega)]
  · rw [e2 150 (by decide)]
    repeat rw [xu_row (a := 155) (by decide)]
    repeat rw [xu_row (by decide)]
    exact xu_same
  · rw [e2 151 (by decide)]
    repeat rw [xu_row (a := 155) (by decide)]
    repeat rw [xu_row (by decide)]
    rw [xu_same, xu_row (by decide)]
  · rw [e2 155 (by decide), xu_same]
    repeat rw [xu_row (by decide)]
  · rw [e4, if_pos (by omega), show 6 * a + (6 * t + p - 6 * t) = 6 * a + p by omega]
    repeat rw [xu_row (by decide)]
  · rw [e5, if_pos (by omega), show 6 * a + (6 * t + p - 6 * t) = 6 * a + p by omega]
  · rw [e2 150 (by decide)]
    repeat rw [xu_row (a := 155) (by decide)]
    repeat rw [xu_row (by decide)]
    exact xu_oth (by omega)
  · rw [e2 151 (by decide)]
    repeat rw [xu_row (a := 155) (by decide)]
    repeat rw [xu_row (by decide)]
    rw [xu_oth (by omega), xu_row (by decide)]
  · rw [e2 155 (by decide), xu_oth (by omega)]
    repeat rw [xu_row (by decide)]
  · rw [e4, if_neg (by omega)]
    repeat rw [xu_row (by decide)]
  · rw [e5, if_neg (by omega)]
def kS (n : Nat) : Nat := if n = 20 then 1 else 0
def kN (n : Nat) : Nat := if n = 20 then 20 else n + 1
theorem k4s {k : Nat} : (4 : Int32) + Int32.ofNat (k + 1) - 1 = Int32.ofNat (4 + k) := by
  rw [show (4 : Int32) = Int32.ofNat 4 from rfl, xn_add, show 4 + (k + 1) = (4 + k) + 1 by omega, xn_pred]
theorem k4 {k : Nat} : (4 : Int32) + Int32.ofNat k = Int32.ofNat (4 + k) := xn_add (p := 4)
/-- what now is was kept behind n of them -/
def KNP (n : Nat) (m : xM) (g : xL) (m' : xM) (g' : xL) : Prop := (∀ c : Nat, ¬ c = 128 → c < 150 ∨ 163 < c → m' c = m c) ∧ (∀ k : Nat, ¬ k = 54 → m' 128 k = m 128 k) ∧ (∀ c : Nat, ¬ c = 164 → g' c = g c) ∧ m' 128 54 = Int32.ofNat (kN n) ∧ (∀ k : Nat, k + 1 < kN n → rowOf m' g' (4 + k) = rowOf m g (4 + (k + kS n))) ∧ rowOf m' g' (4 + (kN n - 1)) = rowOf m g 0 ∧ ∀ r : Nat, r < 4 → rowOf m' g' r = rowOf m g r
theorem lp224 {nf : Bool} {xs : List Int32} {d : Nat} {G : xG} {r : Option Value} {h' : zH} {m0 : xM} {g0 : xL} (hG : GW G) (h54 : m0 128 54 = 20) : ∀ (N k : Nat) (m : xM) (g : xL), (∀ c : Nat, c < 150 ∨ 163 < c → m c = m0 c) → (∀ c : Nat, ¬ c = 164 → g c = g0 c) → (∀ i : Nat, i < k → rowOf m g (4 + i) = rowOf m0 g0 (4 + (i + 1))) → (∀ q : Nat, q < 4 ∨ 4 + k ≤ q → rowOf m g q = rowOf m0 g0 q) → k ≤ 19 → RR nf xs d 11 false 2 none zt224 G r h' N (11, [(1, .int (Int32.ofNat (k + 1))), (0, .ref 128)], [], m, g) → ∃ (m' : xM) (g' : xL), HS h' m' g' G ∧ r = none ∧ KNP 20 m0 g0 m' g' := by
  intro N
  induction N with
  | zero => intro k m g _ _ _ _ _ hr; exact hr.no.elim
  | succ N ih =>
    intro k m g h1 h2 h3 h4 hk hr
    have qk : (Int32.ofNat (k + 1)).toInt = ((k + 1 : Nat) : Int) := xn_int (by omega)
    have k20 : (20 : Int32).toInt = 20 := rfl
    replace hr := hr.go1 (s_iload_n t224_11 rfl)
    replace hr := hr.go (s_k t224_12)
    rcases hr.bGe t224_14 with ⟨b14, hr⟩ | ⟨b14, hr⟩
    · replace hr := hr.go (s_aload_n t224_35 rfl)
      replace hr := hr.go (s_dup t224_36 rfl)
      replace hr := hr.go (s_getf t224_37)
      replace hr := hr.go (s_k t224_40)
      replace hr := hr.go (s_isub t224_41)
      replace hr := hr.go (s_putf t224_42)
      replace hr := hr.go (s_aload_n t224_45 rfl)
      replace hr := hr.go (s_k t224_46)
      replace hr := hr.go (s_aload_n t224_47 rfl)
      replace hr := hr.go (s_getf t224_48)
      replace hr := hr.go (s_iadd t224_51)
      rw [show (4 : Int32) + (xu m 128 54 (m 128 54 - 1)) 128 54 = Int32.ofNat 23 from by rw [xu_same, h1 128 (by decide), h54]; rfl] at hr
      replace hr := hr.go (s_k t224_52)
      obtain ⟨_, m1, g1, ⟨rfl, c1, c2, c3, c4⟩, hr⟩ := hr.callv t224_53 rfl rfl (ct_copies (t := 23) (a := 0) hG (by omega) (by omega) (by omega))
      replace hr : RR nf xs d 11 false 2 none zt224 G r h' N (56, [(1, .int (Int32.ofNat (k + 1))), (0, .ref 128)], [], m1, g1) := hr
      skip
      replace hr := hr.go (s_aload_n t224_56 rfl)
      replace hr := hr.go (s_dup t224_57 rfl)
      replace hr := hr.go (s_getf t224_58)
      replace hr := hr.go (s_k t224_61)
      replace hr := hr.go (s_iadd t224_62)
      replace hr := hr.go (s_putf t224_63)
      obtain ⟨rfl, hs⟩ := hr.ret t224_66
      have k19 : k = 19 := by omega
      subst k19
      refine ⟨_, _, hs, rfl, fun c hc hc2 => ?_, fun q hq => ?_, fun c hc => (c2 c hc).trans (h2 c hc), ?_, fun i hi => ?_, ?_, fun q hq => ?_⟩
      · rw [xu_row hc, c1 c hc2, xu_row hc]; exact h1 c hc2
      · rw [xu_oth (by omega), c1 128 (by decide), xu_oth (by omega), h1 128 (by decide)]
      · rw [xu_same, c1 128 (by decide), xu_same, h1 128 (by decide), h54]
        rfl
      · have hi : i + 1 < 20 := hi
        refine (rowOf_st (fun c c0 _ => xu_row (by omega)) rfl).trans ((c4 _ (by omega)).trans ((rowOf_st (fun c c0 _ => xu_row (by omega)) rfl).trans (h3 i (by omega))))
      · refine (rowOf_st (fun c c0 _ => xu_row (by omega)) rfl).trans (Eq.trans c3 ((rowOf_st (fun c c0 _ => xu_row (by omega)) rfl).trans (h4 0 (by omega))))
      · exact (rowOf_st (fun c c0 _ => xu_row (by omega)) rfl).trans ((c4 _ (by omega)).trans ((rowOf_st (fun c c0 _ => xu_row (by omega)) rfl).trans (h4 q (by omega))))
    · replace hr := hr.go (s_aload_n t224_17 rfl)
      replace hr := hr.go (s_k t224_18)
      replace hr := hr.go (s_iload_n t224_19 rfl)
      replace hr := hr.go (s_iadd t224_20)
      replace hr := hr.go (s_k t224_21)
      skip
      replace hr := hr.go (s_isub t224_22)
      rw [k4s] at hr
      replace hr := hr.go (s_k t224_23)
      replace hr := hr.go (s_iload_n t224_24 rfl)
      replace hr := hr.go (s_iadd t224_25)
      rw [k4] at hr
      obtain ⟨_, m1, g1, ⟨rfl, c1, c2, c3, c4⟩, hr⟩ := hr.callv t224_26 rfl rfl (ct_copies (t := 4 + k) (a := 4 + (k + 1)) hG (by omega) (by omega) (by omega))
      replace hr : RR nf xs d 11 false 2 none zt224 G r h' N (29, [(1, .int (Int32.ofNat (k + 1))), (0, .ref 128)], [], m1, g1) := hr
      skip
      replace hr := hr.go (s_iinc (ls' := [(1, _), (0, _)]) t224_29 rfl rfl)
      rw [xn_1i] at hr
      replace hr := hr.go (s_goto t224_32)
      refine ih (k + 1) m1 g1 (fun c hc => (c1 c hc).trans (h1 c hc)) (fun c hc => (c2 c hc).trans (h2 c hc)) (fun i hi => ?_) (fun q hq => (c4 q (by omega)).trans (h4 q (by omega))) (by omega) hr
      by_cases e : i = k
      · subst e
        exact c3.trans (h4 _ (by omega))
      · exact (c4 _ (by omega)).trans (h3 i (by omega))
theorem ct_keepNow {nf : Bool} {xs : List Int32} {d : Nat} {m : xM} {g : xL} {G : xG} {n : Nat} (hG : GW G) (hn : n ≤ 20) (h54 : m 128 54 = Int32.ofNat n) : CT nf xs d 224 [.ref 128] m g G (fun r m' g' => r = none ∧ KNP n m g m' g') := by
  refine CT.of (c := 11) (ini := false) (nL := 2) (rt := none) (tab := zt224) rfl (fun d' r h' N hd' hr => ?_)
  replace hr : RR nf xs d' 11 false 2 none zt224 G r h' N (0, [(0, .ref 128)], [], m, g) := hr
  replace hr := hr.go (s_aload_n t224_0 rfl)
  replace hr := hr.go (s_getf t224_1)
  replace hr := hr.go (s_k t224_4)
  rcases hr.bNe t224_6 with ⟨b6, hr⟩ | ⟨b6, hr⟩
  · have hn2 : ¬ n = 20 := fun q => b6 (by rw [h54, q]; rfl)
    replace hr := hr.go (s_aload_n t224_45 rfl)
    replace hr := hr.go (s_k t224_46)
    replace hr := hr.go (s_aload_n t224_47 rfl)
    replace hr := hr.go (s_getf t224_48)
    replace hr := hr.go (s_iadd t224_51)
    replace hr := hr.go (s_k t224_52)
    rw [h54, k4] at hr
    obtain ⟨_, m1, g1, ⟨rfl, c1, c2, c3, c4⟩, hr⟩ := hr.callv t224_53 rfl rfl (ct_copies (t := 4 + n) (a := 0) hG (by omega) (by omega) (by omega))
    replace hr : RR nf xs d' 11 false 2 (none) zt224 G r h' N (56, [(0, .ref 128)], [], m1, g1) := hr
    skip
    replace hr := hr.go (s_aload_n t224_56 rfl)
    replace hr := hr.go (s_dup t224_57 rfl)
    replace hr := hr.go (s_getf t224_58)
    replace hr := hr.go (s_k t224_61)
    replace hr := hr.go (s_iadd t224_62)
    replace hr := hr.go (s_putf t224_63)
    obtain ⟨rfl, hs⟩ := hr.ret t224_66
    have e0 : kS n = 0 := if_neg hn2
    have e1 : kN n = n + 1 := if_neg hn2
    refine ⟨_, _, hs, rfl, fun c hc hc2 => (xu_row hc).trans (c1 c hc2), fun q hq => ?_, c2, ?_, fun i hi => ?_, ?_, fun q hq => ?_⟩
    · rw [xu_oth (by omega), c1 128 (by decide)]
    · rw [xu_same, c1 128 (by decide), h54, e1, xn_1]
    · rw [e1] at hi
      rw [e0]
      exact (rowOf_st (fun c c0 _ => xu_row (by omega)) rfl).trans (c4 _ (by omega))
    · rw [e1, show 4 + (n + 1 - 1) = 4 + n by omega]
      exact (rowOf_st (fun c c0 _ => xu_row (by omega)) rfl).trans c3
    · exact (rowOf_st (fun c c0 _ => xu_row (by omega)) rfl).trans (c4 _ (by omega))
  · replace hr := hr.go (s_k t224_9)
    replace hr := hr.go (s_istore_n (ls' := [(1, _), (0, _)]) t224_10 rfl)
    have h20 : n = 20 := xn_inj (by omega) (by decide) (h54.symm.trans b6)
    subst h20
    exact lp224 hG h54 _ 0 m g (fun c _ => rfl) (fun c _ => rfl) (fun i hi => absurd hi (Nat.not_lt_zero i)) (fun q _ => rfl) (by decide) hr
theorem ct_keepR {nf : Bool} {xs : List Int32} {d : Nat} {m : xM} {g : xL} {G : xG} (hG : GW G) : CT nf xs d 258 [.ref 128] m g G (fun r m' g' => r = some (.int (m 150 0)) ∧ (∀ c : Nat, ¬ c = 128 → c < 150 ∨ 163 < c → m' c = m c) ∧ (∀ k : Nat, ¬ k = 0 → ¬ k = 53 → m' 128 k = m 128 k) ∧ (∀ c : Nat, ¬ c = 164 → g' c = g c) ∧ m' 128 53 = 1 ∧ rowOf m' g' 3 = rowOf m g 0 ∧ ∀ q : Nat, ¬ q = 3 → rowOf m' g' q = rowOf m g q) := by
  refine CT.of (c := 11) (ini := false) (nL := 1) (rt := some .int) (tab := zt258) rfl (fun d' r h' N hd hr => ?_)
  replace hr : RR nf xs d' 11 false 1 (some .int) zt258 G r h' N (0, [(0, .ref 128)], [], m, g) := hr
  have k1 : (1 : Int32).toInt = 1 := rfl
  have k3 : (3 : Int32).toInt = 3 := rfl
  obtain ⟨L150, h150⟩ := hG.2 150 (by decide) (by decide)
  replace hr := hr.go (s_aload_n t258_0 rfl)
  replace hr := hr.go (s_k t258_1)
  replace hr := hr.go (s_putf t258_2)
  replace hr := hr.go (s_aload_n t258_5 rfl)
  replace hr := hr.go (s_k t258_6)
  replace hr := hr.go (s_k t258_7)
  obtain ⟨_, m1, g1, ⟨rfl, c1, c2, c3, c4⟩, hr⟩ := hr.callv t258_8 rfl rfl (ct_copies (t := 3) (a := 0) hG (by omega) (by omega) (by omega))
  replace hr : RR nf xs d' 11 false 1 (some .int) zt258 G r h' N (11, [(0, .ref 128)], [], m1, g1) := hr
  skip
  replace hr := hr.go (s_aload_n t258_11 rfl)
  replace hr := hr.go (s_k t258_12)
  replace hr := hr.go (s_putf t258_13)
  replace hr := hr.go (s_aload_n t258_16 rfl)
  replace hr := hr.go (s_getr t258_17 (hG.1 37 (by decide) (by decide)))
  replace hr := hr.go (s_k t258_20)
  replace hr := hr.go (s_iaload t258_21 (h150))
  obtain ⟨rfl, hs⟩ := hr.iret t258_22
  have er : ∀ q : Nat, rowOf (xu m 128 0 0) g q = rowOf m g q := fun q => rowOf_st (fun c c0 _ => xu_row (by omega)) rfl
  refine ⟨_, _, hs, ?_, fun c hc hc2 => ?_, fun k k1 k2 => ?_, c2, xu_same, (rowOf_st (fun c c0 _ => xu_row (by omega)) rfl).trans (c3.trans (er 0)), fun q hq => (rowOf_st (fun c c0 _ => xu_row (by omega)) rfl).trans ((c4 q hq).trans (er q))⟩
  · rw [xu_row (by decide)]
    have e0 := congrArg (fun w : rRow => w.1) (c4 0 (by decide))
    have e0 : m1 150 0 = xu m 128 0 0 150 0 := e0
    exact congrArg (fun z => some (Value.int z)) (e0.trans (by rw [xu_row (by decide)]))
  · rw [xu_row hc, c1 c hc2, xu_row hc]
  · rw [xu_oth (by omega), c1 128 (by decide), xu_oth (by omega)]
theorem ct_backR {nf : Bool} {xs : List Int32} {d : Nat} {m : xM} {g : xL} {G : xG} (hG : GW G) : CT nf xs d 259 [.ref 128] m g G (fun r m' g' => (m 128 53 = 0 ∧ r = some (.int (-1)) ∧ (∀ c : Nat, ¬ c = 128 → m' c = m c) ∧ (∀ k : Nat, ¬ k = 0 → m' 128 k = m 128 k) ∧ g' = g) ∨ (¬ m 128 53 = 0 ∧ r = some (.int (m 150 3)) ∧ (∀ c : Nat, ¬ c = 128 → c < 150 ∨ 163 < c → m' c = m c) ∧ (∀ k : Nat, ¬ k = 0 → ¬ k = 54 → m' 128 k = m 128 k) ∧ (∀ c : Nat, ¬ c = 164 → g' c = g c) ∧ m' 128 54 = 0 ∧ rowOf m' g' 0 = rowOf m g 3 ∧ ∀ q : Nat, ¬ q = 0 → rowOf m' g' q = rowOf m g q)) := by
  refine CT.of (c := 11) (ini := false) (nL := 1) (rt := some .int) (tab := zt259) rfl (fun d' r h' N hd hr => ?_)
  replace hr : RR nf xs d' 11 false 1 (some .int) zt259 G r h' N (0, [(0, .ref 128)], [], m, g) := hr
  have km1 : (-1 : Int32).toInt = -1 := rfl
  have k3 : (3 : Int32).toInt = 3 := rfl
  obtain ⟨L150, h150⟩ := hG.2 150 (by decide) (by decide)
  replace hr := hr.go (s_aload_n t259_0 rfl)
  replace hr := hr.go (s_k t259_1)
  replace hr := hr.go (s_putf t259_2)
  replace hr := hr.go (s_aload_n t259_5 rfl)
  replace hr := hr.go (s_getf t259_6)
  rcases hr.zNe t259_9 with ⟨b9, hr⟩ | ⟨b9, hr⟩
  · replace hr := hr.go (s_aload_n t259_14 rfl)
    replace hr := hr.go (s_k t259_15)
    replace hr := hr.go (s_k t259_16)
    obtain ⟨_, m1, g1, ⟨rfl, c1, c2, c3, c4⟩, hr⟩ := hr.callv t259_17 rfl rfl (ct_copies (t := 0) (a := 3) hG (by omega) (by omega) (by omega))
    replace hr : RR nf xs d' 11 false 1 (some .int) zt259 G r h' N (20, [(0, .ref 128)], [], m1, g1) := hr
    skip
    replace hr := hr.go (s_aload_n t259_20 rfl)
    replace hr := hr.go (s_k t259_21)
    replace hr := hr.go (s_putf t259_22)
    replace hr := hr.go (s_aload_n t259_25 rfl)
    replace hr := hr.go (s_getr t259_26 (hG.1 37 (by decide) (by decide)))
    replace hr := hr.go (s_k t259_29)
    replace hr := hr.go (s_iaload t259_30 (h150))
    obtain ⟨rfl, hs⟩ := hr.iret t259_31
    have er : ∀ q : Nat, rowOf (xu m 128 0 0) g q = rowOf m g q := fun q => rowOf_st (fun c c0 _ => xu_row (by omega)) rfl
    refine ⟨_, _, hs, Or.inr ⟨fun z => b9 ((xu_oth (by decide)).trans z), ?_, fun c hc hc2 => ?_, fun k k1 k2 => ?_, c2, xu_same, (rowOf_st (fun c c0 _ => xu_row (by omega)) rfl).trans (c3.trans (er 3)), fun q hq => (rowOf_st (fun c c0 _ => xu_row (by omega)) rfl).trans ((c4 q hq).trans (er q))⟩⟩
    · rw [xu_row (by decide)]
      have e0 := congrArg (fun w : rRow => w.1) c3
      have e0 : m1 150 0 = xu m 128 0 0 150 3 := e0
      exact congrArg (fun z => some (Value.int z)) (e0.trans (by rw [xu_row (by decide)]))
    · rw [xu_row hc, c1 c hc2, xu_row hc]
    · rw [xu_oth (by omega), c1 128 (by decide), xu_oth (by omega)]
  · replace hr := hr.go (s_k t259_12)
    obtain ⟨rfl, hs⟩ := hr.iret t259_13
    exact ⟨_, _, hs, Or.inl ⟨(xu_oth (by decide)).symm.trans b9, rfl, fun c hc => xu_row hc, fun k hk => xu_oth (by omega), rfl⟩⟩
