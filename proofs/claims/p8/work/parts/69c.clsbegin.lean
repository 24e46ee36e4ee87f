/-! The class: what stands behind the reading of a text; a whole text. -/
theorem t100_0 : xt zt100 0 1 (.iload_n 1) := ⟨rfl, rfl⟩
theorem t100_1 : xtb zt100 1 4 12 (.ifCond .lt 11) (11) := ⟨rfl, rfl, rfl⟩
theorem t100_4 : xt zt100 4 5 (.iload_n 1) := ⟨rfl, rfl⟩
theorem t100_5 : xt zt100 5 6 (.aload_n 0) := ⟨rfl, rfl⟩
theorem t100_6 : xtf zt100 10 6 9 (.getfield 13) 13 10 1 1 := ⟨rfl, rfl, rfl, rfl⟩
theorem t100_9 : xtb zt100 9 12 15 (.if_icmp .le 6) (6) := ⟨rfl, rfl, rfl⟩
theorem t100_12 : xtk zt100 12 14 (-2) := Or.inr (Or.inl ⟨-2, ⟨rfl, rfl⟩, by decide⟩)
theorem t100_14 : xt zt100 14 15 .ireturn := ⟨rfl, rfl⟩
theorem t100_15 : xt zt100 15 16 (.aload_n 0) := ⟨rfl, rfl⟩
theorem t100_16 : xtf zt100 10 16 19 (.getfield 26) 26 10 4 3 := ⟨rfl, rfl, rfl, rfl⟩
theorem t100_19 : xt zt100 19 20 (.aload_n 0) := ⟨rfl, rfl⟩
theorem t100_20 : xtf zt100 10 20 23 (.getfield 9) 9 10 0 3 := ⟨rfl, rfl, rfl, rfl⟩
theorem t100_23 : xt zt100 23 24 (.iload_n 1) := ⟨rfl, rfl⟩
theorem t100_24 : xt zt100 24 25 (.aload_n 0) := ⟨rfl, rfl⟩
theorem t100_25 : xtf zt100 10 25 28 (.getfield 37) 37 10 6 3 := ⟨rfl, rfl, rfl, rfl⟩
theorem t100_28 : xtc zt100 10 28 31 (.invokevirtual 96) 96 1 27 3 := ⟨rfl, rfl, rfl⟩
theorem t100_31 : xt zt100 31 32 (.istore_n 2) := ⟨rfl, rfl⟩
theorem t100_32 : xt zt100 32 33 (.aload_n 0) := ⟨rfl, rfl⟩
theorem t100_33 : xtk zt100 33 34 (0) := Or.inl ⟨0, ⟨rfl, rfl⟩, by decide⟩
theorem t100_34 : xtf zt100 10 34 37 (.putfield 13) 13 10 1 1 := ⟨rfl, rfl, rfl, rfl⟩
theorem t100_37 : xt zt100 37 38 (.aload_n 0) := ⟨rfl, rfl⟩
theorem t100_38 : xt zt100 38 39 (.aload_n 0) := ⟨rfl, rfl⟩
theorem t100_39 : xtf zt100 10 39 42 (.getfield 26) 26 10 4 3 := ⟨rfl, rfl, rfl, rfl⟩
theorem t100_42 : xtf zt100 10 42 45 (.getfield 100) 100 4 5 1 := ⟨rfl, rfl, rfl, rfl⟩
theorem t100_45 : xtf zt100 10 45 48 (.putfield 17) 17 10 2 1 := ⟨rfl, rfl, rfl, rfl⟩
theorem t100_48 : xt zt100 48 49 (.aload_n 0) := ⟨rfl, rfl⟩
theorem t100_49 : xt zt100 49 50 (.aload_n 0) := ⟨rfl, rfl⟩
theorem t100_50 : xtf zt100 10 50 53 (.getfield 26) 26 10 4 3 := ⟨rfl, rfl, rfl, rfl⟩
theorem t100_53 : xtf zt100 10 53 56 (.getfield 103) 103 4 6 1 := ⟨rfl, rfl, rfl, rfl⟩
theorem t100_56 : xtf zt100 10 56 59 (.putfield 20) 20 10 3 1 := ⟨rfl, rfl, rfl, rfl⟩
theorem t100_59 : xt zt100 59 60 (.iload_n 2) := ⟨rfl, rfl⟩
theorem t100_60 : xtb zt100 60 63 65 (.ifCond .ne 5) (5) := ⟨rfl, rfl, rfl⟩
theorem t100_63 : xtk zt100 63 64 (-1) := Or.inl ⟨-1, ⟨rfl, rfl⟩, by decide⟩
theorem t100_64 : xt zt100 64 65 .ireturn := ⟨rfl, rfl⟩
theorem t100_65 : xt zt100 65 66 (.aload_n 0) := ⟨rfl, rfl⟩
theorem t100_66 : xtf zt100 10 66 69 (.getfield 33) 33 10 5 3 := ⟨rfl, rfl, rfl, rfl⟩
theorem t100_69 : xt zt100 69 70 (.astore_n 3) := ⟨rfl, rfl⟩
theorem t100_70 : xt zt100 70 71 (.aload_n 0) := ⟨rfl, rfl⟩
theorem t100_71 : xt zt100 71 72 (.aload_n 0) := ⟨rfl, rfl⟩
theorem t100_72 : xtf zt100 10 72 75 (.getfield 37) 37 10 6 3 := ⟨rfl, rfl, rfl, rfl⟩
theorem t100_75 : xtf zt100 10 75 78 (.putfield 33) 33 10 5 3 := ⟨rfl, rfl, rfl, rfl⟩
theorem t100_78 : xt zt100 78 79 (.aload_n 0) := ⟨rfl, rfl⟩
theorem t100_79 : xt zt100 79 80 (.aload_n 3) := ⟨rfl, rfl⟩
theorem t100_80 : xtf zt100 10 80 83 (.putfield 37) 37 10 6 3 := ⟨rfl, rfl, rfl, rfl⟩
theorem t100_83 : xt zt100 83 84 (.aload_n 0) := ⟨rfl, rfl⟩
theorem t100_84 : xtf zt100 10 84 87 (.getfield 45) 45 10 7 3 := ⟨rfl, rfl, rfl, rfl⟩
theorem t100_87 : xt zt100 87 88 (.aload_n 0) := ⟨rfl, rfl⟩
theorem t100_88 : xtf zt100 10 88 91 (.getfield 33) 33 10 5 3 := ⟨rfl, rfl, rfl, rfl⟩
theorem t100_91 : xtc zt100 10 91 94 (.invokevirtual 89) 89 1 47 1 := ⟨rfl, rfl, rfl⟩
theorem t100_94 : xt zt100 94 95 (.aload_n 0) := ⟨rfl, rfl⟩
theorem t100_95 : xtk zt100 95 96 (0) := Or.inl ⟨0, ⟨rfl, rfl⟩, by decide⟩
theorem t100_96 : xtf zt100 10 96 99 (.putfield 58) 58 10 11 1 := ⟨rfl, rfl, rfl, rfl⟩
theorem t100_99 : xt zt100 99 100 (.aload_n 0) := ⟨rfl, rfl⟩
theorem t100_100 : xtf zt100 10 100 103 (.getfield 72) 72 10 13 3 := ⟨rfl, rfl, rfl, rfl⟩
theorem t100_103 : xtc zt100 10 103 106 (.invokevirtual 106) 106 1 93 0 := ⟨rfl, rfl, rfl⟩
theorem t100_106 : xt zt100 106 107 (.aload_n 0) := ⟨rfl, rfl⟩
theorem t100_107 : xtf zt100 10 107 110 (.getfield 79) 79 10 14 3 := ⟨rfl, rfl, rfl, rfl⟩
theorem t100_110 : xtc zt100 10 110 113 (.invokevirtual 109) 109 1 10 0 := ⟨rfl, rfl, rfl⟩
theorem t100_113 : xt zt100 113 114 (.aload_n 0) := ⟨rfl, rfl⟩
theorem t100_114 : xtf zt100 10 114 117 (.getfield 33) 33 10 5 3 := ⟨rfl, rfl, rfl, rfl⟩
theorem t100_117 : xtf zt100 10 117 120 (.getfield 110) 110 3 9 1 := ⟨rfl, rfl, rfl, rfl⟩
theorem t100_120 : xt zt100 120 121 .ireturn := ⟨rfl, rfl⟩
theorem t47_0 : xt zt47 0 1 (.aload_n 0) := ⟨rfl, rfl⟩
theorem t47_1 : xt zt47 1 2 (.aload_n 1) := ⟨rfl, rfl⟩
theorem t47_2 : xtf zt47 5 2 5 (.putfield 49) 49 5 2 3 := ⟨rfl, rfl, rfl, rfl⟩
theorem t47_5 : xt zt47 5 6 (.aload_n 0) := ⟨rfl, rfl⟩
theorem t47_6 : xtk zt47 6 8 (6) := Or.inr (Or.inl ⟨6, ⟨rfl, rfl⟩, by decide⟩)
theorem t47_8 : xt zt47 8 9 (.aload_n 0) := ⟨rfl, rfl⟩
theorem t47_9 : xtf zt47 5 9 12 (.getfield 49) 49 5 2 3 := ⟨rfl, rfl, rfl, rfl⟩
theorem t47_12 : xtf zt47 5 12 15 (.getfield 54) 54 3 1 3 := ⟨rfl, rfl, rfl, rfl⟩
theorem t47_15 : xtf zt47 5 15 18 (.getfield 60) 60 7 3 1 := ⟨rfl, rfl, rfl, rfl⟩
theorem t47_18 : xtc zt47 5 18 21 (.invokestatic 65) 65 6 0 0 := ⟨rfl, rfl, rfl⟩
theorem t47_21 : xtf zt47 5 21 24 (.putfield 21) 21 5 3 1 := ⟨rfl, rfl, rfl, rfl⟩
theorem t47_24 : xt zt47 24 25 (.aload_n 0) := ⟨rfl, rfl⟩
theorem t47_25 : xtk zt47 25 26 (0) := Or.inl ⟨0, ⟨rfl, rfl⟩, by decide⟩
theorem t47_26 : xtf zt47 5 26 29 (.putfield 25) 25 5 4 1 := ⟨rfl, rfl, rfl, rfl⟩
theorem t47_29 : xt zt47 29 30 (.aload_n 0) := ⟨rfl, rfl⟩
theorem t47_30 : xtk zt47 30 31 (0) := Or.inl ⟨0, ⟨rfl, rfl⟩, by decide⟩
theorem t47_31 : xtf zt47 5 31 34 (.putfield 28) 28 5 5 1 := ⟨rfl, rfl, rfl, rfl⟩
theorem t47_34 : xt zt47 34 35 (.aload_n 0) := ⟨rfl, rfl⟩
theorem t47_35 : xtk zt47 35 36 (0) := Or.inl ⟨0, ⟨rfl, rfl⟩, by decide⟩
theorem t47_36 : xtf zt47 5 36 39 (.putfield 31) 31 5 6 1 := ⟨rfl, rfl, rfl, rfl⟩
theorem t47_39 : xt zt47 39 40 (.aload_n 0) := ⟨rfl, rfl⟩
theorem t47_40 : xtk zt47 40 41 (0) := Or.inl ⟨0, ⟨rfl, rfl⟩, by decide⟩
theorem t47_41 : xtf zt47 5 41 44 (.putfield 34) 34 5 7 1 := ⟨rfl, rfl, rfl, rfl⟩
theorem t47_44 : xt zt47 44 45 (.aload_n 0) := ⟨rfl, rfl⟩
theorem t47_45 : xtk zt47 45 46 (0) := Or.inl ⟨0, ⟨rfl, rfl⟩, by decide⟩
theorem t47_46 : xtf zt47 5 46 49 (.putfield 37) 37 5 8 1 := ⟨rfl, rfl, rfl, rfl⟩
theorem t47_49 : xt zt47 49 50 (.aload_n 0) := ⟨rfl, rfl⟩
theorem t47_50 : xtk zt47 50 51 (0) := Or.inl ⟨0, ⟨rfl, rfl⟩, by decide⟩
theorem t47_51 : xtf zt47 5 51 54 (.putfield 40) 40 5 9 1 := ⟨rfl, rfl, rfl, rfl⟩
theorem t47_54 : xt zt47 54 55 (.aload_n 0) := ⟨rfl, rfl⟩
theorem t47_55 : xtk zt47 55 56 (0) := Or.inl ⟨0, ⟨rfl, rfl⟩, by decide⟩
theorem t47_56 : xtf zt47 5 56 59 (.putfield 43) 43 5 10 1 := ⟨rfl, rfl, rfl, rfl⟩
theorem t47_59 : xt zt47 59 60 (.aload_n 0) := ⟨rfl, rfl⟩
theorem t47_60 : xtk zt47 60 61 (0) := Or.inl ⟨0, ⟨rfl, rfl⟩, by decide⟩
theorem t47_61 : xtf zt47 5 61 64 (.putfield 46) 46 5 11 1 := ⟨rfl, rfl, rfl, rfl⟩
theorem t47_64 : xtk zt47 64 65 (0) := Or.inl ⟨0, ⟨rfl, rfl⟩, by decide⟩
theorem t47_65 : xt zt47 65 66 (.istore_n 2) := ⟨rfl, rfl⟩
theorem t47_66 : xt zt47 66 67 (.iload_n 2) := ⟨rfl, rfl⟩
theorem t47_67 : xtk zt47 67 69 (6) := Or.inr (Or.inl ⟨6, ⟨rfl, rfl⟩, by decide⟩)
theorem t47_69 : xtb zt47 69 72 111 (.if_icmp .ge 42) (42) := ⟨rfl, rfl, rfl⟩
theorem t47_72 : xt zt47 72 73 (.aload_n 0) := ⟨rfl, rfl⟩
theorem t47_73 : xtf zt47 5 73 76 (.getfield 11) 11 5 0 3 := ⟨rfl, rfl, rfl, rfl⟩
theorem t47_76 : xt zt47 76 77 (.iload_n 2) := ⟨rfl, rfl⟩
theorem t47_77 : xt zt47 77 78 .aaload := ⟨rfl, rfl⟩
theorem t47_78 : xt zt47 78 79 (.aload_n 0) := ⟨rfl, rfl⟩
theorem t47_79 : xtf zt47 5 79 82 (.getfield 49) 49 5 2 3 := ⟨rfl, rfl, rfl, rfl⟩
theorem t47_82 : xtf zt47 5 82 85 (.getfield 54) 54 3 1 3 := ⟨rfl, rfl, rfl, rfl⟩
theorem t47_85 : xt zt47 85 86 (.iload_n 2) := ⟨rfl, rfl⟩
theorem t47_86 : xtk zt47 86 87 (2) := Or.inl ⟨2, ⟨rfl, rfl⟩, by decide⟩
theorem t47_87 : xtc zt47 5 87 90 (.invokevirtual 71) 71 1 83 2 := ⟨rfl, rfl, rfl⟩
theorem t47_90 : xt zt47 90 91 (.aload_n 0) := ⟨rfl, rfl⟩
theorem t47_91 : xtf zt47 5 91 94 (.getfield 49) 49 5 2 3 := ⟨rfl, rfl, rfl, rfl⟩
theorem t47_94 : xtf zt47 5 94 97 (.getfield 54) 54 3 1 3 := ⟨rfl, rfl, rfl, rfl⟩
theorem t47_97 : xt zt47 97 98 (.iload_n 2) := ⟨rfl, rfl⟩
theorem t47_98 : xtk zt47 98 99 (3) := Or.inl ⟨3, ⟨rfl, rfl⟩, by decide⟩
theorem t47_99 : xtc zt47 5 99 102 (.invokevirtual 71) 71 1 83 2 := ⟨rfl, rfl, rfl⟩
theorem t47_102 : xtc zt47 5 102 105 (.invokevirtual 74) 74 1 17 2 := ⟨rfl, rfl, rfl⟩
theorem t47_105 : xt zt47 105 108 (.iinc 2 1) := ⟨rfl, rfl⟩
theorem t47_108 : xtb zt47 108 111 66 (.goto (-42)) (-42) := ⟨rfl, rfl, rfl⟩
theorem t47_111 : xtk zt47 111 112 (0) := Or.inl ⟨0, ⟨rfl, rfl⟩, by decide⟩
theorem t47_112 : xt zt47 112 113 (.istore_n 2) := ⟨rfl, rfl⟩
theorem t47_113 : xt zt47 113 114 (.iload_n 2) := ⟨rfl, rfl⟩
theorem t47_114 : xtk zt47 114 116 (6) := Or.inr (Or.inl ⟨6, ⟨rfl, rfl⟩, by decide⟩)
theorem t47_116 : xtb zt47 116 119 132 (.if_icmp .ge 16) (16) := ⟨rfl, rfl, rfl⟩
theorem t47_119 : xt zt47 119 120 (.aload_n 0) := ⟨rfl, rfl⟩
theorem t47_120 : xtf zt47 5 120 123 (.getfield 17) 17 5 1 3 := ⟨rfl, rfl, rfl, rfl⟩
theorem t47_123 : xt zt47 123 124 (.iload_n 2) := ⟨rfl, rfl⟩
theorem t47_124 : xt zt47 124 125 (.lconst 0) := ⟨rfl, rfl⟩
theorem t47_125 : xt zt47 125 126 .lastore := ⟨rfl, rfl⟩
theorem t47_126 : xt zt47 126 129 (.iinc 2 1) := ⟨rfl, rfl⟩
theorem t47_129 : xtb zt47 129 132 113 (.goto (-16)) (-16) := ⟨rfl, rfl, rfl⟩
theorem t47_132 : xtk zt47 132 133 (0) := Or.inl ⟨0, ⟨rfl, rfl⟩, by decide⟩
theorem t47_133 : xt zt47 133 134 (.istore_n 2) := ⟨rfl, rfl⟩
theorem t47_134 : xt zt47 134 135 (.iload_n 2) := ⟨rfl, rfl⟩
theorem t47_135 : xt zt47 135 136 (.aload_n 0) := ⟨rfl, rfl⟩
theorem t47_136 : xtf zt47 5 136 139 (.getfield 49) 49 5 2 3 := ⟨rfl, rfl, rfl, rfl⟩
theorem t47_139 : xtf zt47 5 139 142 (.getfield 78) 78 3 3 3 := ⟨rfl, rfl, rfl, rfl⟩
theorem t47_142 : xtf zt47 5 142 145 (.getfield 60) 60 7 3 1 := ⟨rfl, rfl, rfl, rfl⟩
theorem t47_145 : xtb zt47 145 148 183 (.if_icmp .ge 38) (38) := ⟨rfl, rfl, rfl⟩
theorem t47_148 : xt zt47 148 149 (.aload_n 0) := ⟨rfl, rfl⟩
theorem t47_149 : xt zt47 149 150 (.aload_n 0) := ⟨rfl, rfl⟩
theorem t47_150 : xtf zt47 5 150 153 (.getfield 49) 49 5 2 3 := ⟨rfl, rfl, rfl, rfl⟩
theorem t47_153 : xtf zt47 5 153 156 (.getfield 78) 78 3 3 3 := ⟨rfl, rfl, rfl, rfl⟩
theorem t47_156 : xt zt47 156 157 (.iload_n 2) := ⟨rfl, rfl⟩
theorem t47_157 : xtk zt47 157 158 (0) := Or.inl ⟨0, ⟨rfl, rfl⟩, by decide⟩
theorem t47_158 : xtc zt47 5 158 161 (.invokevirtual 71) 71 1 83 2 := ⟨rfl, rfl, rfl⟩
theorem t47_161 : xt zt47 161 162 (.aload_n 0) := ⟨rfl, rfl⟩
theorem t47_162 : xtf zt47 5 162 165 (.getfield 49) 49 5 2 3 := ⟨rfl, rfl, rfl, rfl⟩
theorem t47_165 : xtf zt47 5 165 168 (.getfield 78) 78 3 3 3 := ⟨rfl, rfl, rfl, rfl⟩
theorem t47_168 : xt zt47 168 169 (.iload_n 2) := ⟨rfl, rfl⟩
theorem t47_169 : xtk zt47 169 170 (1) := Or.inl ⟨1, ⟨rfl, rfl⟩, by decide⟩
theorem t47_170 : xtc zt47 5 170 173 (.invokevirtual 71) 71 1 83 2 := ⟨rfl, rfl, rfl⟩
theorem t47_173 : xtk zt47 173 174 (1) := Or.inl ⟨1, ⟨rfl, rfl⟩, by decide⟩
theorem t47_174 : xtc zt47 5 174 177 (.invokevirtual 80) 80 1 50 3 := ⟨rfl, rfl, rfl⟩
theorem t47_177 : xt zt47 177 180 (.iinc 2 1) := ⟨rfl, rfl⟩
theorem t47_180 : xtb zt47 180 183 134 (.goto (-46)) (-46) := ⟨rfl, rfl, rfl⟩
theorem t47_183 : xt zt47 183 184 .return_ := ⟨rfl, rfl⟩
theorem t17_0 : xt zt17 0 1 (.aload_n 0) := ⟨rfl, rfl⟩
theorem t17_1 : xt zt17 1 2 (.iload_n 1) := ⟨rfl, rfl⟩
theorem t17_2 : xtf zt17 2 2 5 (.putfield 15) 15 2 1 1 := ⟨rfl, rfl, rfl, rfl⟩
theorem t17_5 : xt zt17 5 6 (.aload_n 0) := ⟨rfl, rfl⟩
theorem t17_6 : xt zt17 6 7 (.iload_n 2) := ⟨rfl, rfl⟩
theorem t17_7 : xtf zt17 2 7 10 (.putfield 18) 18 2 2 1 := ⟨rfl, rfl, rfl, rfl⟩
theorem t17_10 : xt zt17 10 11 (.aload_n 0) := ⟨rfl, rfl⟩
theorem t17_11 : xtk zt17 11 12 (0) := Or.inl ⟨0, ⟨rfl, rfl⟩, by decide⟩
theorem t17_12 : xtf zt17 2 12 15 (.putfield 25) 25 2 4 1 := ⟨rfl, rfl, rfl, rfl⟩
theorem t17_15 : xt zt17 15 16 (.aload_n 0) := ⟨rfl, rfl⟩
theorem t17_16 : xtk zt17 16 17 (-1) := Or.inl ⟨-1, ⟨rfl, rfl⟩, by decide⟩
theorem t17_17 : xtf zt17 2 17 20 (.putfield 28) 28 2 5 1 := ⟨rfl, rfl, rfl, rfl⟩
theorem t17_20 : xt zt17 20 21 (.aload_n 0) := ⟨rfl, rfl⟩
theorem t17_21 : xtk zt17 21 22 (0) := Or.inl ⟨0, ⟨rfl, rfl⟩, by decide⟩
theorem t17_22 : xtf zt17 2 22 25 (.putfield 31) 31 2 6 1 := ⟨rfl, rfl, rfl, rfl⟩
theorem t17_25 : xt zt17 25 26 (.aload_n 0) := ⟨rfl, rfl⟩
theorem t17_26 : xtk zt17 26 27 (0) := Or.inl ⟨0, ⟨rfl, rfl⟩, by decide⟩
theorem t17_27 : xtf zt17 2 27 30 (.putfield 34) 34 2 7 1 := ⟨rfl, rfl, rfl, rfl⟩
theorem t17_30 : xt zt17 30 31 (.aload_n 0) := ⟨rfl, rfl⟩
theorem t17_31 : xtk zt17 31 32 (0) := Or.inl ⟨0, ⟨rfl, rfl⟩, by decide⟩
theorem t17_32 : xtf zt17 2 32 35 (.putfield 37) 37 2 8 1 := ⟨rfl, rfl, rfl, rfl⟩
theorem t17_35 : xtk zt17 35 36 (0) := Or.inl ⟨0, ⟨rfl, rfl⟩, by decide⟩
theorem t17_36 : xt zt17 36 37 (.istore_n 3) := ⟨rfl, rfl⟩
theorem t17_37 : xt zt17 37 38 (.iload_n 3) := ⟨rfl, rfl⟩
theorem t17_38 : xtk zt17 38 40 (6) := Or.inr (Or.inl ⟨6, ⟨rfl, rfl⟩, by decide⟩)
theorem t17_40 : xtb zt17 40 43 56 (.if_icmp .ge 16) (16) := ⟨rfl, rfl, rfl⟩
theorem t17_43 : xt zt17 43 44 (.aload_n 0) := ⟨rfl, rfl⟩
theorem t17_44 : xtf zt17 2 44 47 (.getfield 40) 40 2 9 3 := ⟨rfl, rfl, rfl, rfl⟩
theorem t17_47 : xt zt17 47 48 (.iload_n 3) := ⟨rfl, rfl⟩
theorem t17_48 : xtk zt17 48 49 (0) := Or.inl ⟨0, ⟨rfl, rfl⟩, by decide⟩
theorem t17_49 : xt zt17 49 50 .iastore := ⟨rfl, rfl⟩
theorem t17_50 : xt zt17 50 53 (.iinc 3 1) := ⟨rfl, rfl⟩
theorem t17_53 : xtb zt17 53 56 37 (.goto (-16)) (-16) := ⟨rfl, rfl, rfl⟩
theorem t17_56 : xt zt17 56 57 (.aload_n 0) := ⟨rfl, rfl⟩
theorem t17_57 : xtc zt17 2 57 60 (.invokevirtual 44) 44 1 18 0 := ⟨rfl, rfl, rfl⟩
theorem t17_60 : xt zt17 60 61 .return_ := ⟨rfl, rfl⟩
theorem t18_0 : xt zt18 0 1 (.aload_n 0) := ⟨rfl, rfl⟩
theorem t18_1 : xtk zt18 1 2 (1) := Or.inl ⟨1, ⟨rfl, rfl⟩, by decide⟩
theorem t18_2 : xtf zt18 2 2 5 (.putfield 21) 21 2 3 1 := ⟨rfl, rfl, rfl, rfl⟩
theorem t18_5 : xt zt18 5 6 (.aload_n 0) := ⟨rfl, rfl⟩
theorem t18_6 : xtk zt18 6 7 (0) := Or.inl ⟨0, ⟨rfl, rfl⟩, by decide⟩
theorem t18_7 : xtf zt18 2 7 10 (.putfield 9) 9 2 0 1 := ⟨rfl, rfl, rfl, rfl⟩
theorem t18_10 : xt zt18 10 11 .return_ := ⟨rfl, rfl⟩
theorem t50_0 : xt zt50 0 1 (.iload_n 1) := ⟨rfl, rfl⟩
theorem t50_1 : xtb zt50 1 4 10 (.ifCond .lt 9) (9) := ⟨rfl, rfl, rfl⟩
theorem t50_4 : xt zt50 4 5 (.iload_n 1) := ⟨rfl, rfl⟩
theorem t50_5 : xtk zt50 5 7 (6) := Or.inr (Or.inl ⟨6, ⟨rfl, rfl⟩, by decide⟩)
theorem t50_7 : xtb zt50 7 10 11 (.if_icmp .lt 4) (4) := ⟨rfl, rfl, rfl⟩
theorem t50_10 : xt zt50 10 11 .return_ := ⟨rfl, rfl⟩
theorem t50_11 : xt zt50 11 12 (.iload_n 3) := ⟨rfl, rfl⟩
theorem t50_12 : xtb zt50 12 15 30 (.ifCond .eq 18) (18) := ⟨rfl, rfl, rfl⟩
theorem t50_15 : xt zt50 15 16 (.aload_n 0) := ⟨rfl, rfl⟩
theorem t50_16 : xtf zt50 5 16 19 (.getfield 17) 17 5 1 3 := ⟨rfl, rfl, rfl, rfl⟩
theorem t50_19 : xt zt50 19 20 (.iload_n 1) := ⟨rfl, rfl⟩
theorem t50_20 : xt zt50 20 21 .dup2 := ⟨rfl, rfl⟩
theorem t50_21 : xt zt50 21 22 .laload := ⟨rfl, rfl⟩
theorem t50_22 : xt zt50 22 23 (.lconst 1) := ⟨rfl, rfl⟩
theorem t50_23 : xt zt50 23 24 (.iload_n 2) := ⟨rfl, rfl⟩
theorem t50_24 : xt zt50 24 25 .lshl := ⟨rfl, rfl⟩
theorem t50_25 : xt zt50 25 26 .lor := ⟨rfl, rfl⟩
theorem t50_26 : xt zt50 26 27 .lastore := ⟨rfl, rfl⟩
theorem t50_27 : xtb zt50 27 30 46 (.goto 19) (19) := ⟨rfl, rfl, rfl⟩
theorem t50_30 : xt zt50 30 31 (.aload_n 0) := ⟨rfl, rfl⟩
theorem t50_31 : xtf zt50 5 31 34 (.getfield 17) 17 5 1 3 := ⟨rfl, rfl, rfl, rfl⟩
theorem t50_34 : xt zt50 34 35 (.iload_n 1) := ⟨rfl, rfl⟩
theorem t50_35 : xt zt50 35 36 .dup2 := ⟨rfl, rfl⟩
theorem t50_36 : xt zt50 36 37 .laload := ⟨rfl, rfl⟩
theorem t50_37 : xt zt50 37 38 (.lconst 1) := ⟨rfl, rfl⟩
theorem t50_38 : xt zt50 38 39 (.iload_n 2) := ⟨rfl, rfl⟩
theorem t50_39 : xt zt50 39 40 .lshl := ⟨rfl, rfl⟩
theorem t50_40 : xt zt50 40 43 (.ldc2_w 88) := ⟨rfl, rfl⟩
theorem t50_43 : xt zt50 43 44 .lxor := ⟨rfl, rfl⟩
theorem t50_44 : xt zt50 44 45 .land := ⟨rfl, rfl⟩
theorem t50_45 : xt zt50 45 46 .lastore := ⟨rfl, rfl⟩
theorem t50_46 : xt zt50 46 47 .return_ := ⟨rfl, rfl⟩
theorem t93_0 : xt zt93 0 1 (.aload_n 0) := ⟨rfl, rfl⟩
theorem t93_1 : xtk zt93 1 2 (0) := Or.inl ⟨0, ⟨rfl, rfl⟩, by decide⟩
theorem t93_2 : xtf zt93 9 2 5 (.putfield 19) 19 9 3 1 := ⟨rfl, rfl, rfl, rfl⟩
theorem t93_5 : xt zt93 5 6 .return_ := ⟨rfl, rfl⟩
theorem t10_0 : xt zt10 0 1 (.aload_n 0) := ⟨rfl, rfl⟩
theorem t10_1 : xtk zt10 1 2 (0) := Or.inl ⟨0, ⟨rfl, rfl⟩, by decide⟩
theorem t10_2 : xtf zt10 1 2 5 (.putfield 28) 28 1 5 1 := ⟨rfl, rfl, rfl, rfl⟩
theorem t10_5 : xt zt10 5 6 (.aload_n 0) := ⟨rfl, rfl⟩
theorem t10_6 : xtk zt10 6 7 (-1) := Or.inl ⟨-1, ⟨rfl, rfl⟩, by decide⟩
theorem t10_7 : xtf zt10 1 7 10 (.putfield 32) 32 1 6 1 := ⟨rfl, rfl, rfl, rfl⟩
theorem t10_10 : xt zt10 10 11 .return_ := ⟨rfl, rfl⟩
theorem xgu_same {G : xG} {a k x : Nat} : (xgu G a k x).1 a k = some x := if_pos ⟨rfl, rfl⟩
theorem ct_board {nf : Bool} {xs : List Int32} {d : Nat} {m : xM} {g : xL} {G : xG} {p : Nat} : CT nf xs d 18 [.ref p] m g G (PE none (xu (xu m p 3 1) p 0 0) g) := by
  refine CT.of (c := 2) (ini := false) (nL := 1) (rt := none) (tab := zt18) rfl (fun d' r h' N hd hr => ?_)
  replace hr : RR nf xs d' 2 false 1 (none) zt18 G r h' N (0, [(0, .ref p)], [], m, g) := hr
  have k1 : (1 : Int32).toInt = 1 := rfl
  replace hr := hr.go (s_aload_n t18_0 rfl)
  replace hr := hr.go (s_k t18_1)
  replace hr := hr.go (s_putf t18_2)
  replace hr := hr.go (s_aload_n t18_5 rfl)
  replace hr := hr.go (s_k t18_6)
  replace hr := hr.go (s_putf t18_7)
  obtain ⟨rfl, hs⟩ := hr.ret t18_10
  exact ⟨_, _, hs, rfl, rfl, rfl⟩

theorem ct_uclear {nf : Bool} {xs : List Int32} {d : Nat} {m : xM} {g : xL} {G : xG} {p : Nat} : CT nf xs d 93 [.ref p] m g G (PE none (xu m p 3 0) g) := by
  refine CT.of (c := 9) (ini := false) (nL := 1) (rt := none) (tab := zt93) rfl (fun d' r h' N hd hr => ?_)
  replace hr : RR nf xs d' 9 false 1 (none) zt93 G r h' N (0, [(0, .ref p)], [], m, g) := hr
  replace hr := hr.go (s_aload_n t93_0 rfl)
  replace hr := hr.go (s_k t93_1)
  replace hr := hr.go (s_putf t93_2)
  obtain ⟨rfl, hs⟩ := hr.ret t93_5
  exact ⟨_, _, hs, rfl, rfl, rfl⟩

theorem ct_nclear {nf : Bool} {xs : List Int32} {d : Nat} {m : xM} {g : xL} {G : xG} {p : Nat} : CT nf xs d 10 [.ref p] m g G (PE none (xu (xu m p 5 0) p 6 (-1)) g) := by
  refine CT.of (c := 1) (ini := false) (nL := 1) (rt := none) (tab := zt10) rfl (fun d' r h' N hd hr => ?_)
  replace hr : RR nf xs d' 1 false 1 (none) zt10 G r h' N (0, [(0, .ref p)], [], m, g) := hr
  have km1 : (-1 : Int32).toInt = -1 := rfl
  replace hr := hr.go (s_aload_n t10_0 rfl)
  replace hr := hr.go (s_k t10_1)
  replace hr := hr.go (s_putf t10_2)
  replace hr := hr.go (s_aload_n t10_5 rfl)
  replace hr := hr.go (s_k t10_6)
  replace hr := hr.go (s_putf t10_7)
  obtain ⟨rfl, hs⟩ := hr.ret t10_10
  exact ⟨_, _, hs, rfl, rfl, rfl⟩

theorem lp17 {nf : Bool} {xs : List Int32} {d : Nat} {g : xL} {G : xG} {r : Option Value} {h' : zH} {p : Nat} {x y : Int32} {m0 : xM} (h9 : G.1 p 9 = some (p + 1)) : ∀ (N : Nat) (k : Int32) (m : xM), (∀ a : Nat, ¬ a = p → ¬ a = p + 1 → m a = m0 a) → RR nf xs d 2 false 4 none zt17 G r h' N (37, [(3, .int k), (0, .ref p), (1, .int x), (2, .int y)], [], m, g) → ∃ (m' : xM) (g' : xL), HS h' m' g' G ∧ PF none g (fun m' => ∀ a : Nat, ¬ a = p → ¬ a = p + 1 → m' a = m0 a) r m' g' := by
  intro N
  induction N with
  | zero => intro k m _ hr; exact hr.no.elim
  | succ N ih =>
    intro k m hm hr
    replace hr := hr.go1 (s_iload_n t17_37 rfl)
    replace hr := hr.go (s_k t17_38)
    rcases hr.bGe t17_40 with ⟨b40, hr⟩ | ⟨b40, hr⟩
    · replace hr := hr.go (s_aload_n t17_56 rfl)
      replace hr := hr.cvN t17_57 rfl rfl (ct_board)
      obtain ⟨rfl, hs⟩ := hr.ret t17_60
      exact ⟨_, _, hs, rfl, rfl, fun a a1 a2 => by rw [xu_row a1, xu_row a1]; exact hm a a1 a2⟩
    · replace hr := hr.go (s_aload_n t17_43 rfl)
      replace hr := hr.go (s_getr t17_44 (h9))
      replace hr := hr.go (s_iload_n t17_47 rfl)
      replace hr := hr.go (s_k t17_48)
      replace hr := hr.go (s_iastore t17_49)
      replace hr := hr.go (s_iinc (ls' := [(3, _), (0, _), (1, _), (2, _)]) t17_50 rfl rfl)
      replace hr := hr.go (s_goto t17_53)
      exact ih _ _ (fun a a1 a2 => by rw [xu_row a2]; exact hm a a1 a2) hr
theorem ct_pbegin {nf : Bool} {xs : List Int32} {d : Nat} {m : xM} {g : xL} {G : xG} {p : Nat} {x y : Int32} (h9 : G.1 p 9 = some (p + 1)) : CT nf xs d 17 [.ref p, .int x, .int y] m g G (PF none g (fun m' => ∀ a : Nat, ¬ a = p → ¬ a = p + 1 → m' a = m a)) := by
  refine CT.of (c := 2) (ini := false) (nL := 4) (rt := none) (tab := zt17) rfl (fun d' r h' N hd' hr => ?_)
  replace hr : RR nf xs d' 2 false 4 none zt17 G r h' N (0, [(0, .ref p), (1, .int x), (2, .int y)], [], m, g) := hr
  replace hr := hr.go (s_aload_n t17_0 rfl)
  replace hr := hr.go (s_iload_n t17_1 rfl)
  replace hr := hr.go (s_putf t17_2)
  replace hr := hr.go (s_aload_n t17_5 rfl)
  replace hr := hr.go (s_iload_n t17_6 rfl)
  replace hr := hr.go (s_putf t17_7)
  replace hr := hr.go (s_aload_n t17_10 rfl)
  replace hr := hr.go (s_k t17_11)
  replace hr := hr.go (s_putf t17_12)
  replace hr := hr.go (s_aload_n t17_15 rfl)
  replace hr := hr.go (s_k t17_16)
  replace hr := hr.go (s_putf t17_17)
  replace hr := hr.go (s_aload_n t17_20 rfl)
  replace hr := hr.go (s_k t17_21)
  replace hr := hr.go (s_putf t17_22)
  replace hr := hr.go (s_aload_n t17_25 rfl)
  replace hr := hr.go (s_k t17_26)
  replace hr := hr.go (s_putf t17_27)
  replace hr := hr.go (s_aload_n t17_30 rfl)
  replace hr := hr.go (s_k t17_31)
  replace hr := hr.go (s_putf t17_32)
  replace hr := hr.go (s_k t17_35)
  replace hr := hr.go (s_istore_n (ls' := [(3, _), (0, _), (1, _), (2, _)]) t17_36 rfl)
  exact lp17 h9 _ _ _ (fun a a1 a2 => by repeat rw [xu_row a1]) hr
theorem ct_setTold {nf : Bool} {xs : List Int32} {d : Nat} {m : xM} {g : xL} {G : xG} {x y z : Int32} (h1 : G.1 55 1 = some 57) : CT nf xs d 50 [.ref 55, .int x, .int y, .int z] m g G (fun r m' _ => r = none ∧ m' = m) := by
  refine CT.of (c := 5) (ini := false) (nL := 4) (rt := none) (tab := zt50) rfl (fun d' r h' N hd' hr => ?_)
  replace hr : RR nf xs d' 5 false 4 none zt50 G r h' N (0, [(0, .ref 55), (1, .int x), (2, .int y), (3, .int z)], [], m, g) := hr
  replace hr := hr.go (s_iload_n t50_0 rfl)
  rcases hr.zLt t50_1 with ⟨b1, hr⟩ | ⟨b1, hr⟩
  · obtain ⟨rfl, hs⟩ := hr.ret t50_10
    exact ⟨_, _, hs, rfl, rfl⟩
  · replace hr := hr.go (s_iload_n t50_4 rfl)
    replace hr := hr.go (s_k t50_5)
    rcases hr.bLt t50_7 with ⟨b7, hr⟩ | ⟨b7, hr⟩
    · replace hr := hr.go (s_iload_n t50_11 rfl)
      rcases hr.zEq t50_12 with ⟨b12, hr⟩ | ⟨b12, hr⟩
      · replace hr := hr.go (s_aload_n t50_30 rfl)
        replace hr := hr.go (s_getr t50_31 (h1))
        replace hr := hr.go (s_iload_n t50_34 rfl)
        replace hr := hr.go (s_dup2 t50_35)
        replace hr := hr.go (s_laload t50_36)
        replace hr := hr.go (s_lconst t50_37)
        replace hr := hr.go (s_iload_n t50_38 rfl)
        replace hr := hr.go (s_lshl t50_39)
        replace hr := hr.go (s_ldc2 t50_40 rfl)
        replace hr := hr.go (s_lxor t50_43)
        replace hr := hr.go (s_land t50_44)
        replace hr := hr.go (s_lastore t50_45)
        obtain ⟨rfl, hs⟩ := hr.ret t50_46
        exact ⟨_, _, hs, rfl, rfl⟩
      · replace hr := hr.go (s_aload_n t50_15 rfl)
        replace hr := hr.go (s_getr t50_16 (h1))
        replace hr := hr.go (s_iload_n t50_19 rfl)
        replace hr := hr.go (s_dup2 t50_20)
        replace hr := hr.go (s_laload t50_21)
        replace hr := hr.go (s_lconst t50_22)
        replace hr := hr.go (s_iload_n t50_23 rfl)
        replace hr := hr.go (s_lshl t50_24)
        replace hr := hr.go (s_lor t50_25)
        replace hr := hr.go (s_lastore t50_26)
        replace hr := hr.go (s_goto t50_27)
        obtain ⟨rfl, hs⟩ := hr.ret t50_46
        exact ⟨_, _, hs, rfl, rfl⟩
    · obtain ⟨rfl, hs⟩ := hr.ret t50_10
      exact ⟨_, _, hs, rfl, rfl⟩
/-- the cells of the ride that is now, behind its plan at P -/
def GR (G : xG) (P : Nat) : Prop := G.1 55 0 = some 56 ∧ G.1 55 1 = some 57 ∧ (∀ k : Nat, k < 6 → G.1 56 k = some (58 + 2 * k) ∧ G.1 (58 + 2 * k) 9 = some (58 + 2 * k + 1)) ∧ G.1 P 1 = some (P + 3) ∧ G.1 P 3 = some (P + 7) ∧ G.1 (P + 3) 2 = some (P + 4) ∧ G.1 (P + 7) 2 = some (P + 8) ∧ (∃ L : Nat, G.2 (P + 4) = (0, 1, L)) ∧ (∃ L : Nat, G.2 (P + 8) = (0, 1, L)) ∧ P ≤ 31
def MR (P R : Nat) (m : xM) : Prop := m (P + 3) 0 = Int32.ofNat 5 ∧ m (P + 3) 1 = Int32.ofNat 6 ∧ m (P + 7) 0 = Int32.ofNat 2 ∧ m (P + 7) 1 = Int32.ofNat 8 ∧ m (P + 7) 3 = Int32.ofNat R ∧ R ≤ 8
theorem MR.of {P R : Nat} {m m0 : xM} (hP : P ≤ 31) (h : MR P R m0) (hm : ∀ a : Nat, a < 55 → m a = m0 a) : MR P R m := by
  unfold MR
  rw [hm (P + 3) (by omega), hm (P + 7) (by omega)]
  exact h
theorem lp47c {nf : Bool} {xs : List Int32} {d : Nat} {G : xG} {r : Option Value} {h' : zH} {P R : Nat} {m0 : xM} (hG : GR G P) (h2 : G.1 55 2 = some P) (hM : MR P R m0) : ∀ (N k : Nat) (m : xM) (g : xL), (∀ a : Nat, a < 56 → m a = m0 a) → k ≤ R → RR nf xs d 5 false 3 none zt47 G r h' N (134, [(2, .int (Int32.ofNat k)), (0, .ref 55), (1, .ref P)], [], m, g) → ∃ (m' : xM) (g' : xL), HS h' m' g' G ∧ r = none ∧ ∀ a : Nat, a < 56 → m' a = m0 a := by
  intro N
  induction N with
  | zero => intro k m g _ _ hr; exact hr.no.elim
  | succ N ih =>
    intro k m g hm hk hr
    obtain ⟨v1, v2, v3, v4, v5, v6⟩ := MR.of hG.2.2.2.2.2.2.2.2.2 hM (fun a ha => hm a (by omega))
    obtain ⟨len8, hlen8⟩ := hG.2.2.2.2.2.2.2.2.1
    have qk : (Int32.ofNat k).toInt = (k : Int) := xn_int (by omega)
    have qR : (Int32.ofNat R).toInt = (R : Int) := xn_int (by omega)
    replace hr := hr.go1 (s_iload_n t47_134 rfl)
    replace hr := hr.go (s_aload_n t47_135 rfl)
    replace hr := hr.go (s_getr t47_136 (h2))
    replace hr := hr.go (s_getr t47_139 (hG.2.2.2.2.1))
    replace hr := hr.go (s_getf t47_142)
    rw [v5] at hr
    rcases hr.bGe t47_145 with ⟨b145, hr⟩ | ⟨b145, hr⟩
    · obtain ⟨rfl, hs⟩ := hr.ret t47_183
      exact ⟨_, _, hs, rfl, hm⟩
    · replace hr := hr.go (s_aload_n t47_148 rfl)
      replace hr := hr.go (s_aload_n t47_149 rfl)
      replace hr := hr.go (s_getr t47_150 (h2))
      replace hr := hr.go (s_getr t47_153 (hG.2.2.2.2.1))
      replace hr := hr.go (s_iload_n t47_156 rfl)
      replace hr := hr.go (s_k t47_157)
      replace hr := hr.cvI t47_158 rfl rfl (ct_at (t := P + 7) (c := P + 8) (cols := 2) (most := 8) (ro := k) (k := 0) hG.2.2.2.2.2.2.1 hlen8 v3 v4 (by decide) (by decide) (by omega) (by decide))
      replace hr := hr.go (s_aload_n t47_161 rfl)
      replace hr := hr.go (s_getr t47_162 (h2))
      replace hr := hr.go (s_getr t47_165 (hG.2.2.2.2.1))
      replace hr := hr.go (s_iload_n t47_168 rfl)
      replace hr := hr.go (s_k t47_169)
      replace hr := hr.cvI t47_170 rfl rfl (ct_at (t := P + 7) (c := P + 8) (cols := 2) (most := 8) (ro := k) (k := 1) hG.2.2.2.2.2.2.1 hlen8 v3 v4 (by decide) (by decide) (by omega) (by decide))
      replace hr := hr.go (s_k t47_173)
      obtain ⟨_, m1, g1, ⟨rfl, e1⟩, hr⟩ := hr.callv t47_174 rfl rfl (ct_setTold hG.2.1)
      rw [e1] at hr
      replace hr : RR nf xs d 5 false 3 none zt47 G r h' N (177, [(2, .int (Int32.ofNat k)), (0, .ref 55), (1, .ref P)], [], m, g1) := hr
      replace hr := hr.go (s_iinc (ls' := [(2, _), (0, _), (1, _)]) t47_177 rfl rfl)
      rw [xn_1i] at hr
      replace hr := hr.go (s_goto t47_180)
      exact ih (k + 1) _ _ hm (by omega) hr
theorem lp47b {nf : Bool} {xs : List Int32} {d : Nat} {G : xG} {r : Option Value} {h' : zH} {P R : Nat} {m0 : xM} (hG : GR G P) (h2 : G.1 55 2 = some P) (hM : MR P R m0) : ∀ (N : Nat) (k : Int32) (m : xM) (g : xL), (∀ a : Nat, a < 56 → m a = m0 a) → RR nf xs d 5 false 3 none zt47 G r h' N (113, [(2, .int k), (0, .ref 55), (1, .ref P)], [], m, g) → ∃ (m' : xM) (g' : xL), HS h' m' g' G ∧ r = none ∧ ∀ a : Nat, a < 56 → m' a = m0 a := by
  intro N
  induction N with
  | zero => intro k m g _ hr; exact hr.no.elim
  | succ N ih =>
    intro k m g hm hr
    replace hr := hr.go1 (s_iload_n t47_113 rfl)
    replace hr := hr.go (s_k t47_114)
    rcases hr.bGe t47_116 with ⟨b116, hr⟩ | ⟨b116, hr⟩
    · replace hr := hr.go (s_k t47_132)
      replace hr := hr.go (s_istore_n (ls' := [(2, _), (0, _), (1, _)]) t47_133 rfl)
      exact lp47c hG h2 hM N 0 m g hm (Nat.zero_le _) hr
    · replace hr := hr.go (s_aload_n t47_119 rfl)
      replace hr := hr.go (s_getr t47_120 (hG.2.1))
      replace hr := hr.go (s_iload_n t47_123 rfl)
      replace hr := hr.go (s_lconst t47_124)
      replace hr := hr.go (s_lastore t47_125)
      replace hr := hr.go (s_iinc (ls' := [(2, _), (0, _), (1, _)]) t47_126 rfl rfl)
      replace hr := hr.go (s_goto t47_129)
      exact ih _ _ _ hm hr
theorem lp47a {nf : Bool} {xs : List Int32} {d : Nat} {G : xG} {r : Option Value} {h' : zH} {P R : Nat} {m0 : xM} (hG : GR G P) (h2 : G.1 55 2 = some P) (hM : MR P R m0) : ∀ (N k : Nat) (m : xM) (g : xL), (∀ a : Nat, a < 56 → m a = m0 a) → k ≤ 6 → RR nf xs d 5 false 3 none zt47 G r h' N (66, [(2, .int (Int32.ofNat k)), (0, .ref 55), (1, .ref P)], [], m, g) → ∃ (m' : xM) (g' : xL), HS h' m' g' G ∧ r = none ∧ ∀ a : Nat, a < 56 → m' a = m0 a := by
  intro N
  induction N with
  | zero => intro k m g _ _ hr; exact hr.no.elim
  | succ N ih =>
    intro k m g hm hk hr
    obtain ⟨v1, v2, v3, v4, v5, v6⟩ := MR.of hG.2.2.2.2.2.2.2.2.2 hM (fun a ha => hm a (by omega))
    obtain ⟨len4, hlen4⟩ := hG.2.2.2.2.2.2.2.1
    have qk : (Int32.ofNat k).toInt = (k : Int) := xn_int (by omega)
    have k6 : (6 : Int32).toInt = 6 := rfl
    replace hr := hr.go1 (s_iload_n t47_66 rfl)
    replace hr := hr.go (s_k t47_67)
    rcases hr.bGe t47_69 with ⟨b69, hr⟩ | ⟨b69, hr⟩
    · replace hr := hr.go (s_k t47_111)
      replace hr := hr.go (s_istore_n (ls' := [(2, _), (0, _), (1, _)]) t47_112 rfl)
      exact lp47b hG h2 hM N _ m g hm hr
    · replace hr := hr.go (s_aload_n t47_72 rfl)
      replace hr := hr.go (s_getr t47_73 (hG.1))
      replace hr := hr.go (s_iload_n t47_76 rfl)
      replace hr := hr.go (s_aaload t47_77 (by rw [xn_nat (by omega)]; exact (hG.2.2.1 k (by omega)).1))
      replace hr := hr.go (s_aload_n t47_78 rfl)
      replace hr := hr.go (s_getr t47_79 (h2))
      replace hr := hr.go (s_getr t47_82 (hG.2.2.2.1))
      replace hr := hr.go (s_iload_n t47_85 rfl)
      replace hr := hr.go (s_k t47_86)
      replace hr := hr.cvI t47_87 rfl rfl (ct_at (t := P + 3) (c := P + 4) (cols := 5) (most := 6) (ro := k) (k := 2) hG.2.2.2.2.2.1 hlen4 v1 v2 (by decide) (by decide) (by omega) (by decide))
      replace hr := hr.go (s_aload_n t47_90 rfl)
      replace hr := hr.go (s_getr t47_91 (h2))
      replace hr := hr.go (s_getr t47_94 (hG.2.2.2.1))
      replace hr := hr.go (s_iload_n t47_97 rfl)
      replace hr := hr.go (s_k t47_98)
      replace hr := hr.cvI t47_99 rfl rfl (ct_at (t := P + 3) (c := P + 4) (cols := 5) (most := 6) (ro := k) (k := 3) hG.2.2.2.2.2.1 hlen4 v1 v2 (by decide) (by decide) (by omega) (by decide))
      obtain ⟨m1, q1, hr⟩ := hr.fvN t47_102 rfl rfl (ct_pbegin (p := 58 + 2 * k) (hG.2.2.1 k (by omega)).2)
      skip
      replace hr := hr.go (s_iinc (ls' := [(2, _), (0, _), (1, _)]) t47_105 rfl rfl)
      rw [xn_1i] at hr
      replace hr := hr.go (s_goto t47_108)
      exact ih (k + 1) m1 _ (fun a ha => by rw [q1 a (by omega) (by omega)]; exact hm a ha) (by omega) hr
theorem cg_rbegin {nf : Bool} {xs : List Int32} {d : Nat} {m : xM} {g : xL} {G : xG} {P R : Nat} (hG : GR (xgu G 55 2 P) P) (hM : MR P R m) : CG nf xs d 47 [.ref 55, .ref P] m g G (fun r m' _ G' => r = none ∧ G' = xgu G 55 2 P ∧ (∀ a : Nat, a < 55 → m' a = m a) ∧ m' 55 3 = (if m (P + 3) 3 < 6 then m (P + 3) 3 else 6) ∧ m' 55 4 = 0 ∧ m' 55 5 = 0) := by
  refine CG.of (c := 5) (ini := false) (nL := 3) (rt := none) (tab := zt47) rfl (fun d' r h' N hd hr => ?_)
  replace hr : RR nf xs d' 5 false 3 none zt47 G r h' N (0, [(0, .ref 55), (1, .ref P)], [], m, g) := hr
  replace hr := hr.go (s_aload_n t47_0 rfl)
  replace hr := hr.go (s_aload_n t47_1 rfl)
  replace hr := hr.putr t47_2
  replace hr := hr.go (s_aload_n t47_5 rfl)
  replace hr := hr.go (s_k t47_6)
  replace hr := hr.go (s_aload_n t47_8 rfl)
  replace hr := hr.go (s_getr t47_9 (xgu_same))
  replace hr := hr.go (s_getr t47_12 (hG.2.2.2.1))
  replace hr := hr.go (s_getf t47_15)
  replace hr := hr.go (s_math6 t47_18)
  replace hr := hr.go (s_putf t47_21)
  replace hr := hr.go (s_aload_n t47_24 rfl)
  replace hr := hr.go (s_k t47_25)
  replace hr := hr.go (s_putf t47_26)
  replace hr := hr.go (s_aload_n t47_29 rfl)
  replace hr := hr.go (s_k t47_30)
  replace hr := hr.go (s_putf t47_31)
  replace hr := hr.go (s_aload_n t47_34 rfl)
  replace hr := hr.go (s_k t47_35)
  replace hr := hr.go (s_putf t47_36)
  replace hr := hr.go (s_aload_n t47_39 rfl)
  replace hr := hr.go (s_k t47_40)
  replace hr := hr.go (s_putf t47_41)
  replace hr := hr.go (s_aload_n t47_44 rfl)
  replace hr := hr.go (s_k t47_45)
  replace hr := hr.go (s_putf t47_46)
  replace hr := hr.go (s_aload_n t47_49 rfl)
  replace hr := hr.go (s_k t47_50)
  replace hr := hr.go (s_putf t47_51)
  replace hr := hr.go (s_aload_n t47_54 rfl)
  replace hr := hr.go (s_k t47_55)
  replace hr := hr.go (s_putf t47_56)
  replace hr := hr.go (s_aload_n t47_59 rfl)
  replace hr := hr.go (s_k t47_60)
  replace hr := hr.go (s_putf t47_61)
  replace hr := hr.go (s_k t47_64)
  replace hr := hr.go (s_istore_n (ls' := [(2, _), (0, _), (1, _)]) t47_65 rfl)
  obtain ⟨m', g', hs, h1, h2⟩ := lp47a (m0 := _) hG xgu_same (MR.of hG.2.2.2.2.2.2.2.2.2 hM (fun a ha => by repeat rw [xu_row (by omega)])) N 0 _ g (fun a ha => rfl) (by decide) hr
  refine ⟨m', g', _, hs, h1, rfl, fun a ha => ?_, ?_, ?_, ?_⟩
  · rw [h2 a (by omega)]
    repeat rw [xu_row (by omega)]
  · rw [h2 55 (by decide)]
    repeat (first | rw [xu_same] | rw [xu_oth (by decide)])
  · rw [h2 55 (by decide)]
    repeat (first | rw [xu_same] | rw [xu_oth (by decide)])
  · rw [h2 55 (by decide)]
    repeat (first | rw [xu_same] | rw [xu_oth (by decide)])
