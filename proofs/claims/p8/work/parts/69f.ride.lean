/-! The class: a ride copied; keep, back; notes, of both sides (by program: wip/x/gV1.py). -/
theorem t19_0 : xt zt19 0 1 (.aload_n 0) := ⟨rfl, rfl⟩
theorem t19_1 : xt zt19 1 2 (.aload_n 1) := ⟨rfl, rfl⟩
theorem t19_2 : xtf zt19 2 2 5 (.getfield 9) 9 2 0 1 := ⟨rfl, rfl, rfl, rfl⟩
theorem t19_5 : xtf zt19 2 5 8 (.putfield 9) 9 2 0 1 := ⟨rfl, rfl, rfl, rfl⟩
theorem t19_8 : xt zt19 8 9 (.aload_n 0) := ⟨rfl, rfl⟩
theorem t19_9 : xt zt19 9 10 (.aload_n 1) := ⟨rfl, rfl⟩
theorem t19_10 : xtf zt19 2 10 13 (.getfield 15) 15 2 1 1 := ⟨rfl, rfl, rfl, rfl⟩
theorem t19_13 : xtf zt19 2 13 16 (.putfield 15) 15 2 1 1 := ⟨rfl, rfl, rfl, rfl⟩
theorem t19_16 : xt zt19 16 17 (.aload_n 0) := ⟨rfl, rfl⟩
theorem t19_17 : xt zt19 17 18 (.aload_n 1) := ⟨rfl, rfl⟩
theorem t19_18 : xtf zt19 2 18 21 (.getfield 18) 18 2 2 1 := ⟨rfl, rfl, rfl, rfl⟩
theorem t19_21 : xtf zt19 2 21 24 (.putfield 18) 18 2 2 1 := ⟨rfl, rfl, rfl, rfl⟩
theorem t19_24 : xt zt19 24 25 (.aload_n 0) := ⟨rfl, rfl⟩
theorem t19_25 : xt zt19 25 26 (.aload_n 1) := ⟨rfl, rfl⟩
theorem t19_26 : xtf zt19 2 26 29 (.getfield 21) 21 2 3 1 := ⟨rfl, rfl, rfl, rfl⟩
theorem t19_29 : xtf zt19 2 29 32 (.putfield 21) 21 2 3 1 := ⟨rfl, rfl, rfl, rfl⟩
theorem t19_32 : xt zt19 32 33 (.aload_n 0) := ⟨rfl, rfl⟩
theorem t19_33 : xt zt19 33 34 (.aload_n 1) := ⟨rfl, rfl⟩
theorem t19_34 : xtf zt19 2 34 37 (.getfield 25) 25 2 4 1 := ⟨rfl, rfl, rfl, rfl⟩
theorem t19_37 : xtf zt19 2 37 40 (.putfield 25) 25 2 4 1 := ⟨rfl, rfl, rfl, rfl⟩
theorem t19_40 : xt zt19 40 41 (.aload_n 0) := ⟨rfl, rfl⟩
theorem t19_41 : xt zt19 41 42 (.aload_n 1) := ⟨rfl, rfl⟩
theorem t19_42 : xtf zt19 2 42 45 (.getfield 28) 28 2 5 1 := ⟨rfl, rfl, rfl, rfl⟩
theorem t19_45 : xtf zt19 2 45 48 (.putfield 28) 28 2 5 1 := ⟨rfl, rfl, rfl, rfl⟩
theorem t19_48 : xt zt19 48 49 (.aload_n 0) := ⟨rfl, rfl⟩
theorem t19_49 : xt zt19 49 50 (.aload_n 1) := ⟨rfl, rfl⟩
theorem t19_50 : xtf zt19 2 50 53 (.getfield 31) 31 2 6 1 := ⟨rfl, rfl, rfl, rfl⟩
theorem t19_53 : xtf zt19 2 53 56 (.putfield 31) 31 2 6 1 := ⟨rfl, rfl, rfl, rfl⟩
theorem t19_56 : xt zt19 56 57 (.aload_n 0) := ⟨rfl, rfl⟩
theorem t19_57 : xt zt19 57 58 (.aload_n 1) := ⟨rfl, rfl⟩
theorem t19_58 : xtf zt19 2 58 61 (.getfield 34) 34 2 7 1 := ⟨rfl, rfl, rfl, rfl⟩
theorem t19_61 : xtf zt19 2 61 64 (.putfield 34) 34 2 7 1 := ⟨rfl, rfl, rfl, rfl⟩
theorem t19_64 : xt zt19 64 65 (.aload_n 0) := ⟨rfl, rfl⟩
theorem t19_65 : xt zt19 65 66 (.aload_n 1) := ⟨rfl, rfl⟩
theorem t19_66 : xtf zt19 2 66 69 (.getfield 37) 37 2 8 1 := ⟨rfl, rfl, rfl, rfl⟩
theorem t19_69 : xtf zt19 2 69 72 (.putfield 37) 37 2 8 1 := ⟨rfl, rfl, rfl, rfl⟩
theorem t19_72 : xtk zt19 72 73 (0) := Or.inl ⟨0, ⟨rfl, rfl⟩, by decide⟩
theorem t19_73 : xt zt19 73 74 (.istore_n 2) := ⟨rfl, rfl⟩
theorem t19_74 : xt zt19 74 75 (.iload_n 2) := ⟨rfl, rfl⟩
theorem t19_75 : xtk zt19 75 77 (6) := Or.inr (Or.inl ⟨6, ⟨rfl, rfl⟩, by decide⟩)
theorem t19_77 : xtb zt19 77 80 98 (.if_icmp .ge 21) (21) := ⟨rfl, rfl, rfl⟩
theorem t19_80 : xt zt19 80 81 (.aload_n 0) := ⟨rfl, rfl⟩
theorem t19_81 : xtf zt19 2 81 84 (.getfield 40) 40 2 9 3 := ⟨rfl, rfl, rfl, rfl⟩
theorem t19_84 : xt zt19 84 85 (.iload_n 2) := ⟨rfl, rfl⟩
theorem t19_85 : xt zt19 85 86 (.aload_n 1) := ⟨rfl, rfl⟩
theorem t19_86 : xtf zt19 2 86 89 (.getfield 40) 40 2 9 3 := ⟨rfl, rfl, rfl, rfl⟩
theorem t19_89 : xt zt19 89 90 (.iload_n 2) := ⟨rfl, rfl⟩
theorem t19_90 : xt zt19 90 91 .iaload := ⟨rfl, rfl⟩
theorem t19_91 : xt zt19 91 92 .iastore := ⟨rfl, rfl⟩
theorem t19_92 : xt zt19 92 95 (.iinc 2 1) := ⟨rfl, rfl⟩
theorem t19_95 : xtb zt19 95 98 74 (.goto (-21)) (-21) := ⟨rfl, rfl, rfl⟩
theorem t19_98 : xt zt19 98 99 .return_ := ⟨rfl, rfl⟩
theorem t48_0 : xt zt48 0 1 (.aload_n 0) := ⟨rfl, rfl⟩
theorem t48_1 : xt zt48 1 2 (.aload_n 1) := ⟨rfl, rfl⟩
theorem t48_2 : xtf zt48 5 2 5 (.getfield 49) 49 5 2 3 := ⟨rfl, rfl, rfl, rfl⟩
theorem t48_5 : xtf zt48 5 5 8 (.putfield 49) 49 5 2 3 := ⟨rfl, rfl, rfl, rfl⟩
theorem t48_8 : xt zt48 8 9 (.aload_n 0) := ⟨rfl, rfl⟩
theorem t48_9 : xt zt48 9 10 (.aload_n 1) := ⟨rfl, rfl⟩
theorem t48_10 : xtf zt48 5 10 13 (.getfield 21) 21 5 3 1 := ⟨rfl, rfl, rfl, rfl⟩
theorem t48_13 : xtf zt48 5 13 16 (.putfield 21) 21 5 3 1 := ⟨rfl, rfl, rfl, rfl⟩
theorem t48_16 : xt zt48 16 17 (.aload_n 0) := ⟨rfl, rfl⟩
theorem t48_17 : xt zt48 17 18 (.aload_n 1) := ⟨rfl, rfl⟩
theorem t48_18 : xtf zt48 5 18 21 (.getfield 25) 25 5 4 1 := ⟨rfl, rfl, rfl, rfl⟩
theorem t48_21 : xtf zt48 5 21 24 (.putfield 25) 25 5 4 1 := ⟨rfl, rfl, rfl, rfl⟩
theorem t48_24 : xt zt48 24 25 (.aload_n 0) := ⟨rfl, rfl⟩
theorem t48_25 : xt zt48 25 26 (.aload_n 1) := ⟨rfl, rfl⟩
theorem t48_26 : xtf zt48 5 26 29 (.getfield 28) 28 5 5 1 := ⟨rfl, rfl, rfl, rfl⟩
theorem t48_29 : xtf zt48 5 29 32 (.putfield 28) 28 5 5 1 := ⟨rfl, rfl, rfl, rfl⟩
theorem t48_32 : xt zt48 32 33 (.aload_n 0) := ⟨rfl, rfl⟩
theorem t48_33 : xt zt48 33 34 (.aload_n 1) := ⟨rfl, rfl⟩
theorem t48_34 : xtf zt48 5 34 37 (.getfield 31) 31 5 6 1 := ⟨rfl, rfl, rfl, rfl⟩
theorem t48_37 : xtf zt48 5 37 40 (.putfield 31) 31 5 6 1 := ⟨rfl, rfl, rfl, rfl⟩
theorem t48_40 : xt zt48 40 41 (.aload_n 0) := ⟨rfl, rfl⟩
theorem t48_41 : xt zt48 41 42 (.aload_n 1) := ⟨rfl, rfl⟩
theorem t48_42 : xtf zt48 5 42 45 (.getfield 34) 34 5 7 1 := ⟨rfl, rfl, rfl, rfl⟩
theorem t48_45 : xtf zt48 5 45 48 (.putfield 34) 34 5 7 1 := ⟨rfl, rfl, rfl, rfl⟩
theorem t48_48 : xt zt48 48 49 (.aload_n 0) := ⟨rfl, rfl⟩
theorem t48_49 : xt zt48 49 50 (.aload_n 1) := ⟨rfl, rfl⟩
theorem t48_50 : xtf zt48 5 50 53 (.getfield 37) 37 5 8 1 := ⟨rfl, rfl, rfl, rfl⟩
theorem t48_53 : xtf zt48 5 53 56 (.putfield 37) 37 5 8 1 := ⟨rfl, rfl, rfl, rfl⟩
theorem t48_56 : xt zt48 56 57 (.aload_n 0) := ⟨rfl, rfl⟩
theorem t48_57 : xt zt48 57 58 (.aload_n 1) := ⟨rfl, rfl⟩
theorem t48_58 : xtf zt48 5 58 61 (.getfield 40) 40 5 9 1 := ⟨rfl, rfl, rfl, rfl⟩
theorem t48_61 : xtf zt48 5 61 64 (.putfield 40) 40 5 9 1 := ⟨rfl, rfl, rfl, rfl⟩
theorem t48_64 : xt zt48 64 65 (.aload_n 0) := ⟨rfl, rfl⟩
theorem t48_65 : xt zt48 65 66 (.aload_n 1) := ⟨rfl, rfl⟩
theorem t48_66 : xtf zt48 5 66 69 (.getfield 43) 43 5 10 1 := ⟨rfl, rfl, rfl, rfl⟩
theorem t48_69 : xtf zt48 5 69 72 (.putfield 43) 43 5 10 1 := ⟨rfl, rfl, rfl, rfl⟩
theorem t48_72 : xt zt48 72 73 (.aload_n 0) := ⟨rfl, rfl⟩
theorem t48_73 : xt zt48 73 74 (.aload_n 1) := ⟨rfl, rfl⟩
theorem t48_74 : xtf zt48 5 74 77 (.getfield 46) 46 5 11 1 := ⟨rfl, rfl, rfl, rfl⟩
theorem t48_77 : xtf zt48 5 77 80 (.putfield 46) 46 5 11 1 := ⟨rfl, rfl, rfl, rfl⟩
theorem t48_80 : xtk zt48 80 81 (0) := Or.inl ⟨0, ⟨rfl, rfl⟩, by decide⟩
theorem t48_81 : xt zt48 81 82 (.istore_n 2) := ⟨rfl, rfl⟩
theorem t48_82 : xt zt48 82 83 (.iload_n 2) := ⟨rfl, rfl⟩
theorem t48_83 : xt zt48 83 84 (.aload_n 0) := ⟨rfl, rfl⟩
theorem t48_84 : xtf zt48 5 84 87 (.getfield 21) 21 5 3 1 := ⟨rfl, rfl, rfl, rfl⟩
theorem t48_87 : xtb zt48 87 90 117 (.if_icmp .ge 30) (30) := ⟨rfl, rfl, rfl⟩
theorem t48_90 : xt zt48 90 91 (.iload_n 2) := ⟨rfl, rfl⟩
theorem t48_91 : xtk zt48 91 93 (6) := Or.inr (Or.inl ⟨6, ⟨rfl, rfl⟩, by decide⟩)
theorem t48_93 : xtb zt48 93 96 117 (.if_icmp .ge 24) (24) := ⟨rfl, rfl, rfl⟩
theorem t48_96 : xt zt48 96 97 (.aload_n 0) := ⟨rfl, rfl⟩
theorem t48_97 : xtf zt48 5 97 100 (.getfield 11) 11 5 0 3 := ⟨rfl, rfl, rfl, rfl⟩
theorem t48_100 : xt zt48 100 101 (.iload_n 2) := ⟨rfl, rfl⟩
theorem t48_101 : xt zt48 101 102 .aaload := ⟨rfl, rfl⟩
theorem t48_102 : xt zt48 102 103 (.aload_n 1) := ⟨rfl, rfl⟩
theorem t48_103 : xtf zt48 5 103 106 (.getfield 11) 11 5 0 3 := ⟨rfl, rfl, rfl, rfl⟩
theorem t48_106 : xt zt48 106 107 (.iload_n 2) := ⟨rfl, rfl⟩
theorem t48_107 : xt zt48 107 108 .aaload := ⟨rfl, rfl⟩
theorem t48_108 : xtc zt48 5 108 111 (.invokevirtual 84) 84 1 19 1 := ⟨rfl, rfl, rfl⟩
theorem t48_111 : xt zt48 111 114 (.iinc 2 1) := ⟨rfl, rfl⟩
theorem t48_114 : xtb zt48 114 117 82 (.goto (-32)) (-32) := ⟨rfl, rfl, rfl⟩
theorem t48_117 : xtk zt48 117 118 (0) := Or.inl ⟨0, ⟨rfl, rfl⟩, by decide⟩
theorem t48_118 : xt zt48 118 119 (.istore_n 2) := ⟨rfl, rfl⟩
theorem t48_119 : xt zt48 119 120 (.iload_n 2) := ⟨rfl, rfl⟩
theorem t48_120 : xtk zt48 120 122 (6) := Or.inr (Or.inl ⟨6, ⟨rfl, rfl⟩, by decide⟩)
theorem t48_122 : xtb zt48 122 125 143 (.if_icmp .ge 21) (21) := ⟨rfl, rfl, rfl⟩
theorem t48_125 : xt zt48 125 126 (.aload_n 0) := ⟨rfl, rfl⟩
theorem t48_126 : xtf zt48 5 126 129 (.getfield 17) 17 5 1 3 := ⟨rfl, rfl, rfl, rfl⟩
theorem t48_129 : xt zt48 129 130 (.iload_n 2) := ⟨rfl, rfl⟩
theorem t48_130 : xt zt48 130 131 (.aload_n 1) := ⟨rfl, rfl⟩
theorem t48_131 : xtf zt48 5 131 134 (.getfield 17) 17 5 1 3 := ⟨rfl, rfl, rfl, rfl⟩
theorem t48_134 : xt zt48 134 135 (.iload_n 2) := ⟨rfl, rfl⟩
theorem t48_135 : xt zt48 135 136 .laload := ⟨rfl, rfl⟩
theorem t48_136 : xt zt48 136 137 .lastore := ⟨rfl, rfl⟩
theorem t48_137 : xt zt48 137 140 (.iinc 2 1) := ⟨rfl, rfl⟩
theorem t48_140 : xtb zt48 140 143 119 (.goto (-21)) (-21) := ⟨rfl, rfl, rfl⟩
theorem t48_143 : xt zt48 143 144 .return_ := ⟨rfl, rfl⟩
theorem t118_0 : xt zt118 0 1 (.aload_n 0) := ⟨rfl, rfl⟩
theorem t118_1 : xtf zt118 10 1 4 (.getfield 49) 49 10 8 3 := ⟨rfl, rfl, rfl, rfl⟩
theorem t118_4 : xt zt118 4 5 (.aload_n 0) := ⟨rfl, rfl⟩
theorem t118_5 : xtf zt118 10 5 8 (.getfield 45) 45 10 7 3 := ⟨rfl, rfl, rfl, rfl⟩
theorem t118_8 : xtc zt118 10 8 11 (.invokevirtual 294) 294 1 48 1 := ⟨rfl, rfl, rfl⟩
theorem t118_11 : xt zt118 11 12 (.aload_n 0) := ⟨rfl, rfl⟩
theorem t118_12 : xtk zt118 12 13 (1) := Or.inl ⟨1, ⟨rfl, rfl⟩, by decide⟩
theorem t118_13 : xtf zt118 10 13 16 (.putfield 58) 58 10 11 1 := ⟨rfl, rfl, rfl, rfl⟩
theorem t118_16 : xt zt118 16 17 (.aload_n 0) := ⟨rfl, rfl⟩
theorem t118_17 : xtf zt118 10 17 20 (.getfield 45) 45 10 7 3 := ⟨rfl, rfl, rfl, rfl⟩
theorem t118_20 : xtf zt118 10 20 23 (.getfield 248) 248 5 4 1 := ⟨rfl, rfl, rfl, rfl⟩
theorem t118_23 : xt zt118 23 24 .ireturn := ⟨rfl, rfl⟩
theorem t119_0 : xt zt119 0 1 (.aload_n 0) := ⟨rfl, rfl⟩
theorem t119_1 : xtf zt119 10 1 4 (.getfield 58) 58 10 11 1 := ⟨rfl, rfl, rfl, rfl⟩
theorem t119_4 : xtb zt119 4 7 9 (.ifCond .ne 5) (5) := ⟨rfl, rfl, rfl⟩
theorem t119_7 : xtk zt119 7 8 (-1) := Or.inl ⟨-1, ⟨rfl, rfl⟩, by decide⟩
theorem t119_8 : xt zt119 8 9 .ireturn := ⟨rfl, rfl⟩
theorem t119_9 : xt zt119 9 10 (.aload_n 0) := ⟨rfl, rfl⟩
theorem t119_10 : xtf zt119 10 10 13 (.getfield 45) 45 10 7 3 := ⟨rfl, rfl, rfl, rfl⟩
theorem t119_13 : xt zt119 13 14 (.aload_n 0) := ⟨rfl, rfl⟩
theorem t119_14 : xtf zt119 10 14 17 (.getfield 49) 49 10 8 3 := ⟨rfl, rfl, rfl, rfl⟩
theorem t119_17 : xtc zt119 10 17 20 (.invokevirtual 294) 294 1 48 1 := ⟨rfl, rfl, rfl⟩
theorem t119_20 : xt zt119 20 21 (.aload_n 0) := ⟨rfl, rfl⟩
theorem t119_21 : xtf zt119 10 21 24 (.getfield 72) 72 10 13 3 := ⟨rfl, rfl, rfl, rfl⟩
theorem t119_24 : xtc zt119 10 24 27 (.invokevirtual 106) 106 1 93 0 := ⟨rfl, rfl, rfl⟩
theorem t119_27 : xt zt119 27 28 (.aload_n 0) := ⟨rfl, rfl⟩
theorem t119_28 : xtf zt119 10 28 31 (.getfield 45) 45 10 7 3 := ⟨rfl, rfl, rfl, rfl⟩
theorem t119_31 : xtf zt119 10 31 34 (.getfield 248) 248 5 4 1 := ⟨rfl, rfl, rfl, rfl⟩
theorem t119_34 : xt zt119 34 35 .ireturn := ⟨rfl, rfl⟩
theorem t145_0 : xt zt145 0 1 (.aload_n 0) := ⟨rfl, rfl⟩
theorem t145_1 : xt zt145 1 2 (.iload_n 1) := ⟨rfl, rfl⟩
theorem t145_2 : xtc zt145 10 2 5 (.invokevirtual 132) 132 1 103 1 := ⟨rfl, rfl, rfl⟩
theorem t145_5 : xtb zt145 5 8 28 (.ifCond .eq 23) (23) := ⟨rfl, rfl, rfl⟩
theorem t145_8 : xt zt145 8 9 (.iload_n 2) := ⟨rfl, rfl⟩
theorem t145_9 : xtc zt145 10 9 12 (.invokestatic 201) 201 2 105 1 := ⟨rfl, rfl, rfl⟩
theorem t145_12 : xtb zt145 12 15 28 (.ifCond .eq 16) (16) := ⟨rfl, rfl, rfl⟩
theorem t145_15 : xt zt145 15 16 (.aload_n 0) := ⟨rfl, rfl⟩
theorem t145_16 : xtf zt145 10 16 19 (.getfield 79) 79 10 14 3 := ⟨rfl, rfl, rfl, rfl⟩
theorem t145_19 : xt zt145 19 20 (.iload_n 1) := ⟨rfl, rfl⟩
theorem t145_20 : xt zt145 20 21 (.iload_n 2) := ⟨rfl, rfl⟩
theorem t145_21 : xt zt145 21 22 (.iload_n 3) := ⟨rfl, rfl⟩
theorem t145_22 : xtc zt145 10 22 25 (.invokevirtual 383) 383 1 12 3 := ⟨rfl, rfl, rfl⟩
theorem t145_25 : xtb zt145 25 28 29 (.goto 4) (4) := ⟨rfl, rfl, rfl⟩
theorem t145_28 : xtk zt145 28 29 (-1) := Or.inl ⟨-1, ⟨rfl, rfl⟩, by decide⟩
theorem t145_29 : xt zt145 29 30 .ireturn := ⟨rfl, rfl⟩
theorem t146_0 : xt zt146 0 1 (.aload_n 0) := ⟨rfl, rfl⟩
theorem t146_1 : xtf zt146 10 1 4 (.getfield 79) 79 10 14 3 := ⟨rfl, rfl, rfl, rfl⟩
theorem t146_4 : xt zt146 4 5 (.iload_n 1) := ⟨rfl, rfl⟩
theorem t146_5 : xtc zt146 10 5 8 (.invokevirtual 387) 387 1 13 1 := ⟨rfl, rfl, rfl⟩
theorem t146_8 : xt zt146 8 9 .ireturn := ⟨rfl, rfl⟩
theorem t147_0 : xt zt147 0 1 (.iload_n 1) := ⟨rfl, rfl⟩
theorem t147_1 : xtk zt147 1 2 (-1) := Or.inl ⟨-1, ⟨rfl, rfl⟩, by decide⟩
theorem t147_2 : xtb zt147 2 5 16 (.if_icmp .lt 14) (14) := ⟨rfl, rfl, rfl⟩
theorem t147_5 : xt zt147 5 6 (.iload_n 1) := ⟨rfl, rfl⟩
theorem t147_6 : xt zt147 6 7 (.aload_n 0) := ⟨rfl, rfl⟩
theorem t147_7 : xtf zt147 10 7 10 (.getfield 79) 79 10 14 3 := ⟨rfl, rfl, rfl, rfl⟩
theorem t147_10 : xtf zt147 10 10 13 (.getfield 272) 272 1 5 1 := ⟨rfl, rfl, rfl, rfl⟩
theorem t147_13 : xtb zt147 13 16 18 (.if_icmp .le 5) (5) := ⟨rfl, rfl, rfl⟩
theorem t147_16 : xtk zt147 16 17 (0) := Or.inl ⟨0, ⟨rfl, rfl⟩, by decide⟩
theorem t147_17 : xt zt147 17 18 .ireturn := ⟨rfl, rfl⟩
theorem t147_18 : xt zt147 18 19 (.aload_n 0) := ⟨rfl, rfl⟩
theorem t147_19 : xtf zt147 10 19 22 (.getfield 79) 79 10 14 3 := ⟨rfl, rfl, rfl, rfl⟩
theorem t147_22 : xt zt147 22 23 (.iload_n 1) := ⟨rfl, rfl⟩
theorem t147_23 : xtf zt147 10 23 26 (.putfield 390) 390 1 6 1 := ⟨rfl, rfl, rfl, rfl⟩
theorem t147_26 : xtk zt147 26 27 (1) := Or.inl ⟨1, ⟨rfl, rfl⟩, by decide⟩
theorem t147_27 : xt zt147 27 28 .ireturn := ⟨rfl, rfl⟩
theorem t12_0 : xt zt12 0 1 (.aload_n 0) := ⟨rfl, rfl⟩
theorem t12_1 : xtf zt12 1 1 4 (.getfield 28) 28 1 5 1 := ⟨rfl, rfl, rfl, rfl⟩
theorem t12_4 : xtk zt12 4 6 (24) := Or.inr (Or.inl ⟨24, ⟨rfl, rfl⟩, by decide⟩)
theorem t12_6 : xtb zt12 6 9 11 (.if_icmp .lt 5) (5) := ⟨rfl, rfl, rfl⟩
theorem t12_9 : xtk zt12 9 10 (-1) := Or.inl ⟨-1, ⟨rfl, rfl⟩, by decide⟩
theorem t12_10 : xt zt12 10 11 .ireturn := ⟨rfl, rfl⟩
theorem t12_11 : xt zt12 11 12 (.aload_n 0) := ⟨rfl, rfl⟩
theorem t12_12 : xtf zt12 1 12 15 (.getfield 11) 11 1 0 3 := ⟨rfl, rfl, rfl, rfl⟩
theorem t12_15 : xt zt12 15 16 (.aload_n 0) := ⟨rfl, rfl⟩
theorem t12_16 : xtf zt12 1 16 19 (.getfield 28) 28 1 5 1 := ⟨rfl, rfl, rfl, rfl⟩
theorem t12_19 : xt zt12 19 20 (.iload_n 1) := ⟨rfl, rfl⟩
theorem t12_20 : xt zt12 20 21 .iastore := ⟨rfl, rfl⟩
theorem t12_21 : xt zt12 21 22 (.aload_n 0) := ⟨rfl, rfl⟩
theorem t12_22 : xtf zt12 1 22 25 (.getfield 15) 15 1 1 3 := ⟨rfl, rfl, rfl, rfl⟩
theorem t12_25 : xt zt12 25 26 (.aload_n 0) := ⟨rfl, rfl⟩
theorem t12_26 : xtf zt12 1 26 29 (.getfield 28) 28 1 5 1 := ⟨rfl, rfl, rfl, rfl⟩
theorem t12_29 : xt zt12 29 30 (.iload_n 2) := ⟨rfl, rfl⟩
theorem t12_30 : xt zt12 30 31 .iastore := ⟨rfl, rfl⟩
theorem t12_31 : xt zt12 31 32 (.aload_n 0) := ⟨rfl, rfl⟩
theorem t12_32 : xtf zt12 1 32 35 (.getfield 18) 18 1 2 3 := ⟨rfl, rfl, rfl, rfl⟩
theorem t12_35 : xt zt12 35 36 (.aload_n 0) := ⟨rfl, rfl⟩
theorem t12_36 : xtf zt12 1 36 39 (.getfield 28) 28 1 5 1 := ⟨rfl, rfl, rfl, rfl⟩
theorem t12_39 : xt zt12 39 40 (.iload_n 3) := ⟨rfl, rfl⟩
theorem t12_40 : xt zt12 40 41 .bastore := ⟨rfl, rfl⟩
theorem t12_41 : xt zt12 41 42 (.aload_n 0) := ⟨rfl, rfl⟩
theorem t12_42 : xtf zt12 1 42 45 (.getfield 22) 22 1 3 3 := ⟨rfl, rfl, rfl, rfl⟩
theorem t12_45 : xt zt12 45 46 (.aload_n 0) := ⟨rfl, rfl⟩
theorem t12_46 : xtf zt12 1 46 49 (.getfield 28) 28 1 5 1 := ⟨rfl, rfl, rfl, rfl⟩
theorem t12_49 : xtk zt12 49 50 (-1) := Or.inl ⟨-1, ⟨rfl, rfl⟩, by decide⟩
theorem t12_50 : xt zt12 50 51 .iastore := ⟨rfl, rfl⟩
theorem t12_51 : xt zt12 51 52 (.aload_n 0) := ⟨rfl, rfl⟩
theorem t12_52 : xt zt12 52 53 .dup := ⟨rfl, rfl⟩
theorem t12_53 : xtf zt12 1 53 56 (.getfield 28) 28 1 5 1 := ⟨rfl, rfl, rfl, rfl⟩
theorem t12_56 : xtk zt12 56 57 (1) := Or.inl ⟨1, ⟨rfl, rfl⟩, by decide⟩
theorem t12_57 : xt zt12 57 58 .iadd := ⟨rfl, rfl⟩
theorem t12_58 : xtf zt12 1 58 61 (.putfield 28) 28 1 5 1 := ⟨rfl, rfl, rfl, rfl⟩
theorem t12_61 : xt zt12 61 62 (.aload_n 0) := ⟨rfl, rfl⟩
theorem t12_62 : xtf zt12 1 62 65 (.getfield 28) 28 1 5 1 := ⟨rfl, rfl, rfl, rfl⟩
theorem t12_65 : xtk zt12 65 66 (1) := Or.inl ⟨1, ⟨rfl, rfl⟩, by decide⟩
theorem t12_66 : xt zt12 66 67 .isub := ⟨rfl, rfl⟩
theorem t12_67 : xt zt12 67 68 .ireturn := ⟨rfl, rfl⟩
theorem t13_0 : xt zt13 0 1 (.iload_n 1) := ⟨rfl, rfl⟩
theorem t13_1 : xtb zt13 1 4 21 (.ifCond .lt 20) (20) := ⟨rfl, rfl, rfl⟩
theorem t13_4 : xt zt13 4 5 (.iload_n 1) := ⟨rfl, rfl⟩
theorem t13_5 : xt zt13 5 6 (.aload_n 0) := ⟨rfl, rfl⟩
theorem t13_6 : xtf zt13 1 6 9 (.getfield 28) 28 1 5 1 := ⟨rfl, rfl, rfl, rfl⟩
theorem t13_9 : xtb zt13 9 12 21 (.if_icmp .ge 12) (12) := ⟨rfl, rfl, rfl⟩
theorem t13_12 : xt zt13 12 13 (.aload_n 0) := ⟨rfl, rfl⟩
theorem t13_13 : xtf zt13 1 13 16 (.getfield 28) 28 1 5 1 := ⟨rfl, rfl, rfl, rfl⟩
theorem t13_16 : xtk zt13 16 18 (24) := Or.inr (Or.inl ⟨24, ⟨rfl, rfl⟩, by decide⟩)
theorem t13_18 : xtb zt13 18 21 23 (.if_icmp .lt 5) (5) := ⟨rfl, rfl, rfl⟩
theorem t13_21 : xtk zt13 21 22 (-1) := Or.inl ⟨-1, ⟨rfl, rfl⟩, by decide⟩
theorem t13_22 : xt zt13 22 23 .ireturn := ⟨rfl, rfl⟩
theorem t13_23 : xt zt13 23 24 (.aload_n 0) := ⟨rfl, rfl⟩
theorem t13_24 : xtf zt13 1 24 27 (.getfield 22) 22 1 3 3 := ⟨rfl, rfl, rfl, rfl⟩
theorem t13_27 : xt zt13 27 28 (.aload_n 0) := ⟨rfl, rfl⟩
theorem t13_28 : xtf zt13 1 28 31 (.getfield 28) 28 1 5 1 := ⟨rfl, rfl, rfl, rfl⟩
theorem t13_31 : xt zt13 31 32 (.iload_n 1) := ⟨rfl, rfl⟩
theorem t13_32 : xt zt13 32 33 .iastore := ⟨rfl, rfl⟩
theorem t13_33 : xt zt13 33 34 (.aload_n 0) := ⟨rfl, rfl⟩
theorem t13_34 : xt zt13 34 35 .dup := ⟨rfl, rfl⟩
theorem t13_35 : xtf zt13 1 35 38 (.getfield 28) 28 1 5 1 := ⟨rfl, rfl, rfl, rfl⟩
theorem t13_38 : xtk zt13 38 39 (1) := Or.inl ⟨1, ⟨rfl, rfl⟩, by decide⟩
theorem t13_39 : xt zt13 39 40 .iadd := ⟨rfl, rfl⟩
theorem t13_40 : xtf zt13 1 40 43 (.putfield 28) 28 1 5 1 := ⟨rfl, rfl, rfl, rfl⟩
theorem t13_43 : xt zt13 43 44 (.aload_n 0) := ⟨rfl, rfl⟩
theorem t13_44 : xtf zt13 1 44 47 (.getfield 28) 28 1 5 1 := ⟨rfl, rfl, rfl, rfl⟩
theorem t13_47 : xtk zt13 47 48 (1) := Or.inl ⟨1, ⟨rfl, rfl⟩, by decide⟩
theorem t13_48 : xt zt13 48 49 .isub := ⟨rfl, rfl⟩
theorem t13_49 : xt zt13 49 50 .ireturn := ⟨rfl, rfl⟩
theorem t103_0 : xt zt103 0 1 (.iload_n 1) := ⟨rfl, rfl⟩
theorem t103_1 : xtb zt103 1 4 19 (.ifCond .lt 18) (18) := ⟨rfl, rfl, rfl⟩
theorem t103_4 : xt zt103 4 5 (.iload_n 1) := ⟨rfl, rfl⟩
theorem t103_5 : xt zt103 5 6 (.aload_n 0) := ⟨rfl, rfl⟩
theorem t103_6 : xtf zt103 10 6 9 (.getfield 45) 45 10 7 3 := ⟨rfl, rfl, rfl, rfl⟩
theorem t103_9 : xtf zt103 10 9 12 (.getfield 126) 126 5 3 1 := ⟨rfl, rfl, rfl, rfl⟩
theorem t103_12 : xtb zt103 12 15 19 (.if_icmp .ge 7) (7) := ⟨rfl, rfl, rfl⟩
theorem t103_15 : xtk zt103 15 16 (1) := Or.inl ⟨1, ⟨rfl, rfl⟩, by decide⟩
theorem t103_16 : xtb zt103 16 19 20 (.goto 4) (4) := ⟨rfl, rfl, rfl⟩
theorem t103_19 : xtk zt103 19 20 (0) := Or.inl ⟨0, ⟨rfl, rfl⟩, by decide⟩
theorem t103_20 : xt zt103 20 21 .ireturn := ⟨rfl, rfl⟩
theorem t105_0 : xt zt105 0 1 (.iload_n 0) := ⟨rfl, rfl⟩
theorem t105_1 : xtb zt105 1 4 14 (.ifCond .lt 13) (13) := ⟨rfl, rfl, rfl⟩
theorem t105_4 : xt zt105 4 5 (.iload_n 0) := ⟨rfl, rfl⟩
theorem t105_5 : xtk zt105 5 7 (60) := Or.inr (Or.inl ⟨60, ⟨rfl, rfl⟩, by decide⟩)
theorem t105_7 : xtb zt105 7 10 14 (.if_icmp .gt 7) (7) := ⟨rfl, rfl, rfl⟩
theorem t105_10 : xtk zt105 10 11 (1) := Or.inl ⟨1, ⟨rfl, rfl⟩, by decide⟩
theorem t105_11 : xtb zt105 11 14 15 (.goto 4) (4) := ⟨rfl, rfl, rfl⟩
theorem t105_14 : xtk zt105 14 15 (0) := Or.inl ⟨0, ⟨rfl, rfl⟩, by decide⟩
theorem t105_15 : xt zt105 15 16 .ireturn := ⟨rfl, rfl⟩
theorem t249_0 : xt zt249 0 1 (.aload_n 0) := ⟨rfl, rfl⟩
theorem t249_1 : xtk zt249 1 2 (0) := Or.inl ⟨0, ⟨rfl, rfl⟩, by decide⟩
theorem t249_2 : xtf zt249 11 2 5 (.putfield 166) 166 11 0 1 := ⟨rfl, rfl, rfl, rfl⟩
theorem t249_5 : xt zt249 5 6 (.aload_n 0) := ⟨rfl, rfl⟩
theorem t249_6 : xt zt249 6 7 (.iload_n 1) := ⟨rfl, rfl⟩
theorem t249_7 : xtc zt249 11 7 10 (.invokevirtual 455) 455 1 191 1 := ⟨rfl, rfl, rfl⟩
theorem t249_10 : xtb zt249 10 13 29 (.ifCond .eq 19) (19) := ⟨rfl, rfl, rfl⟩
theorem t249_13 : xt zt249 13 14 (.iload_n 2) := ⟨rfl, rfl⟩
theorem t249_14 : xtc zt249 11 14 17 (.invokestatic 465) 465 2 193 1 := ⟨rfl, rfl, rfl⟩
theorem t249_17 : xtb zt249 17 20 29 (.ifCond .eq 12) (12) := ⟨rfl, rfl, rfl⟩
theorem t249_20 : xt zt249 20 21 (.aload_n 0) := ⟨rfl, rfl⟩
theorem t249_21 : xtf zt249 11 21 24 (.getfield 319) 319 11 67 1 := ⟨rfl, rfl, rfl, rfl⟩
theorem t249_24 : xtk zt249 24 26 (24) := Or.inr (Or.inl ⟨24, ⟨rfl, rfl⟩, by decide⟩)
theorem t249_26 : xtb zt249 26 29 31 (.if_icmp .ne 5) (5) := ⟨rfl, rfl, rfl⟩
theorem t249_29 : xtk zt249 29 30 (-1) := Or.inl ⟨-1, ⟨rfl, rfl⟩, by decide⟩
theorem t249_30 : xt zt249 30 31 .ireturn := ⟨rfl, rfl⟩
theorem t249_31 : xt zt249 31 32 (.aload_n 0) := ⟨rfl, rfl⟩
theorem t249_32 : xtf zt249 11 32 35 (.getfield 147) 147 11 69 3 := ⟨rfl, rfl, rfl, rfl⟩
theorem t249_35 : xt zt249 35 36 (.aload_n 0) := ⟨rfl, rfl⟩
theorem t249_36 : xtf zt249 11 36 39 (.getfield 319) 319 11 67 1 := ⟨rfl, rfl, rfl, rfl⟩
theorem t249_39 : xt zt249 39 40 (.iload_n 1) := ⟨rfl, rfl⟩
theorem t249_40 : xt zt249 40 41 .iastore := ⟨rfl, rfl⟩
theorem t249_41 : xt zt249 41 42 (.aload_n 0) := ⟨rfl, rfl⟩
theorem t249_42 : xtf zt249 11 42 45 (.getfield 150) 150 11 70 3 := ⟨rfl, rfl, rfl, rfl⟩
theorem t249_45 : xt zt249 45 46 (.aload_n 0) := ⟨rfl, rfl⟩
theorem t249_46 : xtf zt249 11 46 49 (.getfield 319) 319 11 67 1 := ⟨rfl, rfl, rfl, rfl⟩
theorem t249_49 : xt zt249 49 50 (.iload_n 2) := ⟨rfl, rfl⟩
theorem t249_50 : xt zt249 50 51 .iastore := ⟨rfl, rfl⟩
theorem t249_51 : xt zt249 51 52 (.aload_n 0) := ⟨rfl, rfl⟩
theorem t249_52 : xtf zt249 11 52 55 (.getfield 153) 153 11 71 3 := ⟨rfl, rfl, rfl, rfl⟩
theorem t249_55 : xt zt249 55 56 (.aload_n 0) := ⟨rfl, rfl⟩
theorem t249_56 : xtf zt249 11 56 59 (.getfield 319) 319 11 67 1 := ⟨rfl, rfl, rfl, rfl⟩
theorem t249_59 : xt zt249 59 60 (.iload_n 3) := ⟨rfl, rfl⟩
theorem t249_60 : xt zt249 60 61 .bastore := ⟨rfl, rfl⟩
theorem t249_61 : xt zt249 61 62 (.aload_n 0) := ⟨rfl, rfl⟩
theorem t249_62 : xtf zt249 11 62 65 (.getfield 157) 157 11 72 3 := ⟨rfl, rfl, rfl, rfl⟩
theorem t249_65 : xt zt249 65 66 (.aload_n 0) := ⟨rfl, rfl⟩
theorem t249_66 : xtf zt249 11 66 69 (.getfield 319) 319 11 67 1 := ⟨rfl, rfl, rfl, rfl⟩
theorem t249_69 : xtk zt249 69 70 (-1) := Or.inl ⟨-1, ⟨rfl, rfl⟩, by decide⟩
theorem t249_70 : xt zt249 70 71 .iastore := ⟨rfl, rfl⟩
theorem t249_71 : xt zt249 71 72 (.aload_n 0) := ⟨rfl, rfl⟩
theorem t249_72 : xt zt249 72 73 .dup := ⟨rfl, rfl⟩
theorem t249_73 : xtf zt249 11 73 76 (.getfield 319) 319 11 67 1 := ⟨rfl, rfl, rfl, rfl⟩
theorem t249_76 : xtk zt249 76 77 (1) := Or.inl ⟨1, ⟨rfl, rfl⟩, by decide⟩
theorem t249_77 : xt zt249 77 78 .iadd := ⟨rfl, rfl⟩
theorem t249_78 : xtf zt249 11 78 81 (.putfield 319) 319 11 67 1 := ⟨rfl, rfl, rfl, rfl⟩
theorem t249_81 : xt zt249 81 82 (.aload_n 0) := ⟨rfl, rfl⟩
theorem t249_82 : xtf zt249 11 82 85 (.getfield 319) 319 11 67 1 := ⟨rfl, rfl, rfl, rfl⟩
theorem t249_85 : xtk zt249 85 86 (1) := Or.inl ⟨1, ⟨rfl, rfl⟩, by decide⟩
theorem t249_86 : xt zt249 86 87 .isub := ⟨rfl, rfl⟩
theorem t249_87 : xt zt249 87 88 .ireturn := ⟨rfl, rfl⟩
theorem t250_0 : xt zt250 0 1 (.aload_n 0) := ⟨rfl, rfl⟩
theorem t250_1 : xtk zt250 1 2 (0) := Or.inl ⟨0, ⟨rfl, rfl⟩, by decide⟩
theorem t250_2 : xtf zt250 11 2 5 (.putfield 166) 166 11 0 1 := ⟨rfl, rfl, rfl, rfl⟩
theorem t250_5 : xt zt250 5 6 (.iload_n 1) := ⟨rfl, rfl⟩
theorem t250_6 : xtb zt250 6 9 26 (.ifCond .lt 20) (20) := ⟨rfl, rfl, rfl⟩
theorem t250_9 : xt zt250 9 10 (.iload_n 1) := ⟨rfl, rfl⟩
theorem t250_10 : xt zt250 10 11 (.aload_n 0) := ⟨rfl, rfl⟩
theorem t250_11 : xtf zt250 11 11 14 (.getfield 319) 319 11 67 1 := ⟨rfl, rfl, rfl, rfl⟩
theorem t250_14 : xtb zt250 14 17 26 (.if_icmp .ge 12) (12) := ⟨rfl, rfl, rfl⟩
theorem t250_17 : xt zt250 17 18 (.aload_n 0) := ⟨rfl, rfl⟩
theorem t250_18 : xtf zt250 11 18 21 (.getfield 319) 319 11 67 1 := ⟨rfl, rfl, rfl, rfl⟩
theorem t250_21 : xtk zt250 21 23 (24) := Or.inr (Or.inl ⟨24, ⟨rfl, rfl⟩, by decide⟩)
theorem t250_23 : xtb zt250 23 26 28 (.if_icmp .ne 5) (5) := ⟨rfl, rfl, rfl⟩
theorem t250_26 : xtk zt250 26 27 (-1) := Or.inl ⟨-1, ⟨rfl, rfl⟩, by decide⟩
theorem t250_27 : xt zt250 27 28 .ireturn := ⟨rfl, rfl⟩
theorem t250_28 : xt zt250 28 29 (.aload_n 0) := ⟨rfl, rfl⟩
theorem t250_29 : xtf zt250 11 29 32 (.getfield 157) 157 11 72 3 := ⟨rfl, rfl, rfl, rfl⟩
theorem t250_32 : xt zt250 32 33 (.aload_n 0) := ⟨rfl, rfl⟩
theorem t250_33 : xtf zt250 11 33 36 (.getfield 319) 319 11 67 1 := ⟨rfl, rfl, rfl, rfl⟩
theorem t250_36 : xt zt250 36 37 (.iload_n 1) := ⟨rfl, rfl⟩
theorem t250_37 : xt zt250 37 38 .iastore := ⟨rfl, rfl⟩
theorem t250_38 : xt zt250 38 39 (.aload_n 0) := ⟨rfl, rfl⟩
theorem t250_39 : xt zt250 39 40 .dup := ⟨rfl, rfl⟩
theorem t250_40 : xtf zt250 11 40 43 (.getfield 319) 319 11 67 1 := ⟨rfl, rfl, rfl, rfl⟩
theorem t250_43 : xtk zt250 43 44 (1) := Or.inl ⟨1, ⟨rfl, rfl⟩, by decide⟩
theorem t250_44 : xt zt250 44 45 .iadd := ⟨rfl, rfl⟩
theorem t250_45 : xtf zt250 11 45 48 (.putfield 319) 319 11 67 1 := ⟨rfl, rfl, rfl, rfl⟩
theorem t250_48 : xt zt250 48 49 (.aload_n 0) := ⟨rfl, rfl⟩
theorem t250_49 : xtf zt250 11 49 52 (.getfield 319) 319 11 67 1 := ⟨rfl, rfl, rfl, rfl⟩
theorem t250_52 : xtk zt250 52 53 (1) := Or.inl ⟨1, ⟨rfl, rfl⟩, by decide⟩
theorem t250_53 : xt zt250 53 54 .isub := ⟨rfl, rfl⟩
theorem t250_54 : xt zt250 54 55 .ireturn := ⟨rfl, rfl⟩
theorem t251_0 : xt zt251 0 1 (.aload_n 0) := ⟨rfl, rfl⟩
theorem t251_1 : xtk zt251 1 2 (0) := Or.inl ⟨0, ⟨rfl, rfl⟩, by decide⟩
theorem t251_2 : xtf zt251 11 2 5 (.putfield 166) 166 11 0 1 := ⟨rfl, rfl, rfl, rfl⟩
theorem t251_5 : xt zt251 5 6 (.iload_n 1) := ⟨rfl, rfl⟩
theorem t251_6 : xtk zt251 6 7 (-1) := Or.inl ⟨-1, ⟨rfl, rfl⟩, by decide⟩
theorem t251_7 : xtb zt251 7 10 18 (.if_icmp .lt 11) (11) := ⟨rfl, rfl, rfl⟩
theorem t251_10 : xt zt251 10 11 (.iload_n 1) := ⟨rfl, rfl⟩
theorem t251_11 : xt zt251 11 12 (.aload_n 0) := ⟨rfl, rfl⟩
theorem t251_12 : xtf zt251 11 12 15 (.getfield 319) 319 11 67 1 := ⟨rfl, rfl, rfl, rfl⟩
theorem t251_15 : xtb zt251 15 18 20 (.if_icmp .le 5) (5) := ⟨rfl, rfl, rfl⟩
theorem t251_18 : xtk zt251 18 19 (0) := Or.inl ⟨0, ⟨rfl, rfl⟩, by decide⟩
theorem t251_19 : xt zt251 19 20 .ireturn := ⟨rfl, rfl⟩
theorem t251_20 : xt zt251 20 21 (.aload_n 0) := ⟨rfl, rfl⟩
theorem t251_21 : xt zt251 21 22 (.iload_n 1) := ⟨rfl, rfl⟩
theorem t251_22 : xtf zt251 11 22 25 (.putfield 144) 144 11 68 1 := ⟨rfl, rfl, rfl, rfl⟩
theorem t251_25 : xtk zt251 25 26 (1) := Or.inl ⟨1, ⟨rfl, rfl⟩, by decide⟩
theorem t251_26 : xt zt251 26 27 .ireturn := ⟨rfl, rfl⟩
theorem t191_0 : xt zt191 0 1 (.iload_n 1) := ⟨rfl, rfl⟩
theorem t191_1 : xtb zt191 1 4 18 (.ifCond .lt 17) (17) := ⟨rfl, rfl, rfl⟩
theorem t191_4 : xt zt191 4 5 (.iload_n 1) := ⟨rfl, rfl⟩
theorem t191_5 : xt zt191 5 6 (.aload_n 0) := ⟨rfl, rfl⟩
theorem t191_6 : xtf zt191 11 6 9 (.getfield 13) 13 11 3 3 := ⟨rfl, rfl, rfl, rfl⟩
theorem t191_9 : xtk zt191 9 10 (1) := Or.inl ⟨1, ⟨rfl, rfl⟩, by decide⟩
theorem t191_10 : xt zt191 10 11 .iaload := ⟨rfl, rfl⟩
theorem t191_11 : xtb zt191 11 14 18 (.if_icmp .ge 7) (7) := ⟨rfl, rfl, rfl⟩
theorem t191_14 : xtk zt191 14 15 (1) := Or.inl ⟨1, ⟨rfl, rfl⟩, by decide⟩
theorem t191_15 : xtb zt191 15 18 19 (.goto 4) (4) := ⟨rfl, rfl, rfl⟩
theorem t191_18 : xtk zt191 18 19 (0) := Or.inl ⟨0, ⟨rfl, rfl⟩, by decide⟩
theorem t191_19 : xt zt191 19 20 .ireturn := ⟨rfl, rfl⟩
theorem t193_0 : xt zt193 0 1 (.iload_n 0) := ⟨rfl, rfl⟩
theorem t193_1 : xtb zt193 1 4 14 (.ifCond .lt 13) (13) := ⟨rfl, rfl, rfl⟩
theorem t193_4 : xt zt193 4 5 (.iload_n 0) := ⟨rfl, rfl⟩
theorem t193_5 : xtk zt193 5 7 (60) := Or.inr (Or.inl ⟨60, ⟨rfl, rfl⟩, by decide⟩)
theorem t193_7 : xtb zt193 7 10 14 (.if_icmp .gt 7) (7) := ⟨rfl, rfl, rfl⟩
theorem t193_10 : xtk zt193 10 11 (1) := Or.inl ⟨1, ⟨rfl, rfl⟩, by decide⟩
theorem t193_11 : xtb zt193 11 14 15 (.goto 4) (4) := ⟨rfl, rfl, rfl⟩
theorem t193_14 : xtk zt193 14 15 (0) := Or.inl ⟨0, ⟨rfl, rfl⟩, by decide⟩
theorem t193_15 : xt zt193 15 16 .ireturn := ⟨rfl, rfl⟩
section XI
variable {nf : Bool} {xs : List Int32} {d c : Nat} {ini : Bool} {nL : Nat} {rt : Option FieldType} {tab : Nat → Option (Instr × Nat)} {G : xG} {r : Option Value} {h' : zH} {pc pc' len : Nat} {ls ls' : zL} {st : List Value} {m : xM} {g : xL} {N : Nat}
theorem s_bastore {a : Nat} {i x : Int32} (t : xt tab pc pc' .bastore) : XS nf xs d c ini nL rt tab G r h' (pc, ls, .int x :: .int i :: .ref a :: st, m, g) (pc', ls, st, xu m a i.toNatClampNeg (x &&& 1), g) := by
  obtain ⟨t, rfl⟩ := t
  intro n ⟨h, hs, q2⟩
  obtain ⟨n', p1, l1, s1, k1, en, z, q⟩ := zinv t rfl rfl rfl q2
  simp only [zstep, zstI, zstL, zstH] at z
  split at z
  · next l hh =>
    split at z
    · next qi =>
      cases z
      exact ⟨n', en, _, xset_arr hs hh (xidx qi).1, q⟩
    · cases z
  · cases z
end XI
theorem lp19 {nf : Bool} {xs : List Int32} {d : Nat} {g : xL} {G : xG} {r : Option Value} {h' : zH} {p q L : Nat} {m0 : xM} (hp : G.1 p 9 = some (p + 1)) (hq : G.1 q 9 = some (q + 1)) (hl : G.2 (q + 1) = (0, 1, L)) : ∀ (N : Nat) (k : Int32) (m : xM), (∀ a : Nat, ¬ a = p + 1 → m a = m0 a) → RR nf xs d 2 false 3 none zt19 G r h' N (74, [(2, .int k), (0, .ref p), (1, .ref q)], [], m, g) → ∃ (m' : xM) (g' : xL), HS h' m' g' G ∧ PF none g (fun m' => ∀ a : Nat, ¬ a = p + 1 → m' a = m0 a) r m' g' := by
  intro N
  induction N with
  | zero => intro k m _ hr; exact hr.no.elim
  | succ N ih =>
    intro k m hm hr
    replace hr := hr.go1 (s_iload_n t19_74 rfl)
    replace hr := hr.go (s_k t19_75)
    rcases hr.bGe t19_77 with ⟨b77, hr⟩ | ⟨b77, hr⟩
    · obtain ⟨rfl, hs⟩ := hr.ret t19_98
      exact ⟨_, _, hs, rfl, rfl, hm⟩
    · replace hr := hr.go (s_aload_n t19_80 rfl)
      replace hr := hr.go (s_getr t19_81 (hp))
      replace hr := hr.go (s_iload_n t19_84 rfl)
      replace hr := hr.go (s_aload_n t19_85 rfl)
      replace hr := hr.go (s_getr t19_86 (hq))
      replace hr := hr.go (s_iload_n t19_89 rfl)
      replace hr := hr.go (s_iaload t19_90 (hl))
      replace hr := hr.go (s_iastore t19_91)
      replace hr := hr.go (s_iinc (ls' := [(2, _), (0, _), (1, _)]) t19_92 rfl rfl)
      replace hr := hr.go (s_goto t19_95)
      exact ih _ _ (fun a a1 => by rw [xu_row a1]; exact hm a a1) hr
theorem ct_pcopy {nf : Bool} {xs : List Int32} {d : Nat} {m : xM} {g : xL} {G : xG} {p q L : Nat} (hp : G.1 p 9 = some (p + 1)) (hq : G.1 q 9 = some (q + 1)) (hl : G.2 (q + 1) = (0, 1, L)) (hn : ¬ q = p) : CT nf xs d 19 [.ref p, .ref q] m g G (PF none g (fun m' => (∀ a : Nat, ¬ a = p → ¬ a = p + 1 → m' a = m a) ∧ ∀ j : Nat, j < 9 → m' p j = m q j)) := by
  refine CT.of (c := 2) (ini := false) (nL := 3) (rt := none) (tab := zt19) rfl (fun d' r h' N hd' hr => ?_)
  replace hr : RR nf xs d' 2 false 3 none zt19 G r h' N (0, [(0, .ref p), (1, .ref q)], [], m, g) := hr
  replace hr := hr.go (s_aload_n t19_0 rfl)
  replace hr := hr.go (s_aload_n t19_1 rfl)
  replace hr := hr.go (s_getf t19_2)
  replace hr := hr.go (s_putf t19_5)
  replace hr := hr.go (s_aload_n t19_8 rfl)
  replace hr := hr.go (s_aload_n t19_9 rfl)
  replace hr := hr.go (s_getf t19_10)
  replace hr := hr.go (s_putf t19_13)
  replace hr := hr.go (s_aload_n t19_16 rfl)
  replace hr := hr.go (s_aload_n t19_17 rfl)
  replace hr := hr.go (s_getf t19_18)
  replace hr := hr.go (s_putf t19_21)
  replace hr := hr.go (s_aload_n t19_24 rfl)
  replace hr := hr.go (s_aload_n t19_25 rfl)
  replace hr := hr.go (s_getf t19_26)
  replace hr := hr.go (s_putf t19_29)
  replace hr := hr.go (s_aload_n t19_32 rfl)
  replace hr := hr.go (s_aload_n t19_33 rfl)
  replace hr := hr.go (s_getf t19_34)
  replace hr := hr.go (s_putf t19_37)
  replace hr := hr.go (s_aload_n t19_40 rfl)
  replace hr := hr.go (s_aload_n t19_41 rfl)
  replace hr := hr.go (s_getf t19_42)
  replace hr := hr.go (s_putf t19_45)
  replace hr := hr.go (s_aload_n t19_48 rfl)
  replace hr := hr.go (s_aload_n t19_49 rfl)
  replace hr := hr.go (s_getf t19_50)
  replace hr := hr.go (s_putf t19_53)
  replace hr := hr.go (s_aload_n t19_56 rfl)
  replace hr := hr.go (s_aload_n t19_57 rfl)
  replace hr := hr.go (s_getf t19_58)
  replace hr := hr.go (s_putf t19_61)
  replace hr := hr.go (s_aload_n t19_64 rfl)
  replace hr := hr.go (s_aload_n t19_65 rfl)
  replace hr := hr.go (s_getf t19_66)
  replace hr := hr.go (s_putf t19_69)
  replace hr := hr.go (s_k t19_72)
  replace hr := hr.go (s_istore_n (ls' := [(2, _), (0, _), (1, _)]) t19_73 rfl)
  obtain ⟨m', g', hs, h1, h2, h3⟩ := lp19 hp hq hl _ _ _ (fun a _ => rfl) hr
  refine ⟨m', g', hs, h1, h2, fun a a1 a2 => ?_, fun j hj => ?_⟩
  · rw [h3 a a2]
    repeat rw [xu_row a1]
  · rw [h3 p (by omega)]
    rcases (show j = 0 ∨ j = 1 ∨ j = 2 ∨ j = 3 ∨ j = 4 ∨ j = 5 ∨ j = 6 ∨ j = 7 ∨ j = 8 by omega) with rfl | rfl | rfl | rfl | rfl | rfl | rfl | rfl | rfl
    all_goals simp [xu, hn]
/-- the cells of a ride at a -/
def GQ (G : xG) (a : Nat) : Prop := G.1 a 0 = some (a + 1) ∧ G.1 a 1 = some (a + 2) ∧ ∀ k : Nat, k < 6 → G.1 (a + 1) k = some (a + 3 + 2 * k) ∧ G.1 (a + 3 + 2 * k) 9 = some (a + 3 + 2 * k + 1) ∧ ∃ L : Nat, G.2 (a + 3 + 2 * k + 1) = (0, 1, L)
theorem GQ_xgu {G : xG} {a b x : Nat} (h : GQ G a) (hb : b = a ∨ b + 15 ≤ a ∨ a + 15 ≤ b) : GQ (xgu G b 2 x) a :=
  ⟨(xgu_oth (by omega)).trans h.1, (xgu_oth (by omega)).trans h.2.1, fun k hk => ⟨(xgu_oth (by omega)).trans (h.2.2 k hk).1, (xgu_oth (by omega)).trans (h.2.2 k hk).2.1, (h.2.2 k hk).2.2⟩⟩
/-- a ride at b is copied to a: what the memory is then -/
def RCP (a b n : Nat) (m : xM) (g : xL) (m' : xM) (g' : xL) : Prop := (∀ c : Nat, c < a ∨ a + 15 ≤ c → m' c = m c) ∧ (∀ j : Nat, 3 ≤ j → j < 12 → m' a j = m b j) ∧ (∀ i : Nat, i < n → ∀ j : Nat, j < 9 → m' (a + 3 + 2 * i) j = m (b + 3 + 2 * i) j) ∧ (∀ c : Nat, ¬ c = a + 2 → g' c = g c) ∧ ∀ j : Nat, j < 6 → g' (a + 2) j = g (b + 2) j
theorem lp48b {nf : Bool} {xs : List Int32} {d : Nat} {m : xM} {G : xG} {r : Option Value} {h' : zH} {a b : Nat} {g0 : xL} (hA : GQ G a) (hB : GQ G b) (hab : a + 15 ≤ b ∨ b + 15 ≤ a) : ∀ (N k : Nat) (g : xL), (∀ c : Nat, ¬ c = a + 2 → g c = g0 c) → (∀ j : Nat, j < k → g (a + 2) j = g0 (b + 2) j) → k ≤ 6 → RR nf xs d 5 false 3 none zt48 G r h' N (119, [(2, .int (Int32.ofNat k)), (0, .ref a), (1, .ref b)], [], m, g) → ∃ (m' : xM) (g' : xL), HS h' m' g' G ∧ r = none ∧ m' = m ∧ (∀ c : Nat, ¬ c = a + 2 → g' c = g0 c) ∧ ∀ j : Nat, j < 6 → g' (a + 2) j = g0 (b + 2) j := by
  intro N
  induction N with
  | zero => intro k g _ _ _ hr; exact hr.no.elim
  | succ N ih =>
    intro k g h1 h2 hk hr
    have qk : (Int32.ofNat k).toInt = (k : Int) := xn_int (by omega)
    have k6 : (6 : Int32).toInt = 6 := rfl
    replace hr := hr.go1 (s_iload_n t48_119 rfl)
    replace hr := hr.go (s_k t48_120)
    rcases hr.bGe t48_122 with ⟨b122, hr⟩ | ⟨b122, hr⟩
    · obtain ⟨rfl, hs⟩ := hr.ret t48_143
      exact ⟨_, _, hs, rfl, rfl, h1, fun j hj => h2 j (by omega)⟩
    · replace hr := hr.go (s_aload_n t48_125 rfl)
      replace hr := hr.go (s_getr t48_126 (hA.2.1))
      replace hr := hr.go (s_iload_n t48_129 rfl)
      replace hr := hr.go (s_aload_n t48_130 rfl)
      replace hr := hr.go (s_getr t48_131 (hB.2.1))
      replace hr := hr.go (s_iload_n t48_134 rfl)
      replace hr := hr.go (s_laload t48_135)
      replace hr := hr.go (s_lastore t48_136)
      rw [xn_nat (show k < 2147483648 by omega)] at hr
      replace hr := hr.go (s_iinc (ls' := [(2, _), (0, _), (1, _)]) t48_137 rfl rfl)
      rw [xn_1i] at hr
      replace hr := hr.go (s_goto t48_140)
      refine ih (k + 1) _ (fun c hc => (xu_row hc).trans (h1 c hc)) (fun j hj => ?_) (by omega) hr
      by_cases e : j = k
      · subst e
        rw [xu_same, h1 _ (by omega)]
      · rw [xu_oth (by omega)]
        exact h2 j (by omega)
theorem lp48a {nf : Bool} {xs : List Int32} {d : Nat} {g : xL} {G : xG} {r : Option Value} {h' : zH} {a b n : Nat} {m0 : xM} {ma : Nat → Int32} (hA : GQ G a) (hB : GQ G b) (hab : a + 15 ≤ b ∨ b + 15 ≤ a) (hn : n ≤ 6) (h3 : ma 3 = Int32.ofNat n) : ∀ (N k : Nat) (m : xM), (∀ c : Nat, c < a ∨ a + 15 ≤ c → m c = m0 c) → m a = ma → (∀ i : Nat, i < k → ∀ j : Nat, j < 9 → m (a + 3 + 2 * i) j = m0 (b + 3 + 2 * i) j) → k ≤ n → RR nf xs d 5 false 3 none zt48 G r h' N (82, [(2, .int (Int32.ofNat k)), (0, .ref a), (1, .ref b)], [], m, g) → ∃ (m' : xM) (g' : xL), HS h' m' g' G ∧ r = none ∧ (∀ c : Nat, c < a ∨ a + 15 ≤ c → m' c = m0 c) ∧ m' a = ma ∧ (∀ i : Nat, i < n → ∀ j : Nat, j < 9 → m' (a + 3 + 2 * i) j = m0 (b + 3 + 2 * i) j) ∧ (∀ c : Nat, ¬ c = a + 2 → g' c = g c) ∧ ∀ j : Nat, j < 6 → g' (a + 2) j = g (b + 2) j := by
  intro N
  induction N with
  | zero => intro k m _ _ _ _ hr; exact hr.no.elim
  | succ N ih =>
    intro k m h1 h2 h4 hk hr
    have qk : (Int32.ofNat k).toInt = (k : Int) := xn_int (by omega)
    have qn : (Int32.ofNat n).toInt = (n : Int) := xn_int (by omega)
    have k6 : (6 : Int32).toInt = 6 := rfl
    replace hr := hr.go1 (s_iload_n t48_82 rfl)
    replace hr := hr.go (s_aload_n t48_83 rfl)
    replace hr := hr.go (s_getf t48_84)
    rw [h2, h3] at hr
    rcases hr.bGe t48_87 with ⟨b87, hr⟩ | ⟨b87, hr⟩
    · replace hr := hr.go (s_k t48_117)
      replace hr := hr.go (s_istore_n (ls' := [(2, _), (0, _), (1, _)]) t48_118 rfl)
      obtain ⟨m', g', hs, e1, e2, e3, e4⟩ := lp48b hA hB hab N 0 g (fun c _ => rfl) (fun j hj => absurd hj (Nat.not_lt_zero j)) (by decide) hr
      subst e2
      exact ⟨_, g', hs, e1, h1, h2, fun i hi => h4 i (by omega), e3, e4⟩
    · replace hr := hr.go (s_iload_n t48_90 rfl)
      replace hr := hr.go (s_k t48_91)
      rcases hr.bGe t48_93 with ⟨b93, hr⟩ | ⟨b93, hr⟩
      · exact absurd b93 (by omega)
      · replace hr := hr.go (s_aload_n t48_96 rfl)
        replace hr := hr.go (s_getr t48_97 (hA.1))
        replace hr := hr.go (s_iload_n t48_100 rfl)
        replace hr := hr.go (s_aaload t48_101 (by rw [xn_nat (by omega)]; exact (hA.2.2 k (by omega)).1))
        replace hr := hr.go (s_aload_n t48_102 rfl)
        replace hr := hr.go (s_getr t48_103 (hB.1))
        replace hr := hr.go (s_iload_n t48_106 rfl)
        replace hr := hr.go (s_aaload t48_107 (by rw [xn_nat (by omega)]; exact (hB.2.2 k (by omega)).1))
        obtain ⟨lq, hlq⟩ := (hB.2.2 k (by omega)).2.2
        obtain ⟨m1, q1, hr⟩ := hr.fvN t48_108 rfl rfl (ct_pcopy (p := a + 3 + 2 * k) (q := b + 3 + 2 * k) (hA.2.2 k (by omega)).2.1 (hB.2.2 k (by omega)).2.1 hlq (by omega))
        skip
        replace hr := hr.go (s_iinc (ls' := [(2, _), (0, _), (1, _)]) t48_111 rfl rfl)
        rw [xn_1i] at hr
        replace hr := hr.go (s_goto t48_114)
        refine ih (k + 1) m1 (fun c hc => (q1.1 c (by omega) (by omega)).trans (h1 c hc)) ((q1.1 a (by omega) (by omega)).trans h2) (fun i hi j hj => ?_) (by omega) hr
        by_cases e : i = k
        · subst e
          rw [q1.2 j hj, h1 _ (by omega)]
        · rw [q1.1 _ (by omega) (by omega)]
          exact h4 i (by omega) j hj
theorem cg_rcopy {nf : Bool} {xs : List Int32} {d : Nat} {m : xM} {g : xL} {G : xG} {a b n x : Nat} (hA : GQ G a) (hB : GQ G b) (hab : a + 15 ≤ b ∨ b + 15 ≤ a) (hn : n ≤ 6) (h3 : m b 3 = Int32.ofNat n) (hx : G.1 b 2 = some x) : CG nf xs d 48 [.ref a, .ref b] m g G (fun r m' g' G' => r = none ∧ G' = xgu G a 2 x ∧ RCP a b n m g m' g') := by
  refine CG.of (c := 5) (ini := false) (nL := 3) (rt := none) (tab := zt48) rfl (fun d' r h' N hd' hr => ?_)
  replace hr : RR nf xs d' 5 false 3 none zt48 G r h' N (0, [(0, .ref a), (1, .ref b)], [], m, g) := hr
  have hba : ¬ b = a := by omega
  replace hr := hr.go (s_aload_n t48_0 rfl)
  replace hr := hr.go (s_aload_n t48_1 rfl)
  replace hr := hr.go (s_getr t48_2 (hx))
  replace hr := hr.putr t48_5
  replace hr := hr.go (s_aload_n t48_8 rfl)
  replace hr := hr.go (s_aload_n t48_9 rfl)
  replace hr := hr.go (s_getf t48_10)
  replace hr := hr.go (s_putf t48_13)
  replace hr := hr.go (s_aload_n t48_16 rfl)
  replace hr := hr.go (s_aload_n t48_17 rfl)
  replace hr := hr.go (s_getf t48_18)
  replace hr := hr.go (s_putf t48_21)
  replace hr := hr.go (s_aload_n t48_24 rfl)
  replace hr := hr.go (s_aload_n t48_25 rfl)
  replace hr := hr.go (s_getf t48_26)
  replace hr := hr.go (s_putf t48_29)
  replace hr := hr.go (s_aload_n t48_32 rfl)
  replace hr := hr.go (s_aload_n t48_33 rfl)
  replace hr := hr.go (s_getf t48_34)
  replace hr := hr.go (s_putf t48_37)
  replace hr := hr.go (s_aload_n t48_40 rfl)
  replace hr := hr.go (s_aload_n t48_41 rfl)
  replace hr := hr.go (s_getf t48_42)
  replace hr := hr.go (s_putf t48_45)
  replace hr := hr.go (s_aload_n t48_48 rfl)
  replace hr := hr.go (s_aload_n t48_49 rfl)
  replace hr := hr.go (s_getf t48_50)
  replace hr := hr.go (s_putf t48_53)
  replace hr := hr.go (s_aload_n t48_56 rfl)
  replace hr := hr.go (s_aload_n t48_57 rfl)
  replace hr := hr.go (s_getf t48_58)
  replace hr := hr.go (s_putf t48_61)
  replace hr := hr.go (s_aload_n t48_64 rfl)
  replace hr := hr.go (s_aload_n t48_65 rfl)
  replace hr := hr.go (s_getf t48_66)
  replace hr := hr.go (s_putf t48_69)
  replace hr := hr.go (s_aload_n t48_72 rfl)
  replace hr := hr.go (s_aload_n t48_73 rfl)
  replace hr := hr.go (s_getf t48_74)
  replace hr := hr.go (s_putf t48_77)
  replace hr := hr.go (s_k t48_80)
  replace hr := hr.go (s_istore_n (ls' := [(2, _), (0, _), (1, _)]) t48_81 rfl)
  obtain ⟨m', g', hs, e1, e2, e3, e4, e5, e6⟩ := lp48a (ma := _) (GQ_xgu hA (Or.inl rfl)) (GQ_xgu hB (by omega)) hab hn (by simp [xu, hba, h3]) _ 0 _ (fun c _ => rfl) rfl (fun i hi => absurd hi (Nat.not_lt_zero i)) (Nat.zero_le _) hr
  refine ⟨m', g', _, hs, e1, rfl, fun c hc => ?_, fun j j1 j2 => ?_, fun i hi j hj => ?_, e5, e6⟩
  · rw [e2 c hc]
    repeat rw [xu_row (by omega)]
  · rw [e3]
    rcases (show j = 3 ∨ j = 4 ∨ j = 5 ∨ j = 6 ∨ j = 7 ∨ j = 8 ∨ j = 9 ∨ j = 10 ∨ j = 11 by omega) with rfl | rfl | rfl | rfl | rfl | rfl | rfl | rfl | rfl
    all_goals simp [xu, hba]
  · rw [e4 i hi j hj]
    repeat rw [xu_row (by omega)]
theorem cg_keep {nf : Bool} {xs : List Int32} {d : Nat} {m : xM} {g : xL} {G : xG} {n x : Nat} (h7 : G.1 0 7 = some 55) (h8 : G.1 0 8 = some 70) (hA : GQ G 55) (hB : GQ G 70) (hn : n ≤ 6) (h3 : m 55 3 = Int32.ofNat n) (hx : G.1 55 2 = some x) : CG nf xs d 118 [.ref 0] m g G (fun r m' g' G' => r = some (.int (m 55 4)) ∧ G' = xgu G 70 2 x ∧ ∃ m1 : xM, RCP 70 55 n m g m1 g' ∧ m' = xu m1 0 11 1) := by
  refine CG.of (c := 10) (ini := false) (nL := 1) (rt := some .int) (tab := zt118) rfl (fun d' r h' N hd' hr => ?_)
  replace hr : RR nf xs d' 10 false 1 (some .int) zt118 G r h' N (0, [(0, .ref 0)], [], m, g) := hr
  have h7' : (xgu G 70 2 x).1 0 7 = some 55 := (xgu_oth (by decide)).trans h7
  replace hr := hr.go (s_aload_n t118_0 rfl)
  replace hr := hr.go (s_getr t118_1 (h8))
  replace hr := hr.go (s_aload_n t118_4 rfl)
  replace hr := hr.go (s_getr t118_5 (h7))
  obtain ⟨_, m1, g1, _, ⟨rfl, rfl, hq⟩, hr⟩ := hr.callvG t118_8 rfl rfl (cg_rcopy (a := 70) (b := 55) hB hA (by decide) hn h3 hx)
  replace hr : RR nf xs d' 10 false 1 (some .int) zt118 (xgu G 70 2 x) r h' N (11, [(0, .ref 0)], [], m1, g1) := hr
  skip
  replace hr := hr.go (s_aload_n t118_11 rfl)
  replace hr := hr.go (s_k t118_12)
  replace hr := hr.go (s_putf t118_13)
  replace hr := hr.go (s_aload_n t118_16 rfl)
  replace hr := hr.go (s_getr t118_17 (h7'))
  replace hr := hr.go (s_getf t118_20)
  obtain ⟨rfl, hs⟩ := hr.iret t118_23
  exact ⟨_, _, _, hs, by rw [xu_row (by decide), hq.1 55 (by decide)], rfl, m1, hq, rfl⟩
theorem cg_back {nf : Bool} {xs : List Int32} {d : Nat} {m : xM} {g : xL} {G : xG} {n x : Nat} (h7 : G.1 0 7 = some 55) (h8 : G.1 0 8 = some 70) (h13 : G.1 0 13 = some 116) (hA : GQ G 55) (hB : GQ G 70) (hn : n ≤ 6) (h3 : m 70 3 = Int32.ofNat n) (hx : G.1 70 2 = some x) : CG nf xs d 119 [.ref 0] m g G (fun r m' g' G' => (m 0 11 = 0 ∧ r = some (.int (-1)) ∧ m' = m ∧ g' = g ∧ G' = G) ∨ (¬ m 0 11 = 0 ∧ r = some (.int (m 70 4)) ∧ G' = xgu G 55 2 x ∧ ∃ m1 : xM, RCP 55 70 n m g m1 g' ∧ m' = xu m1 116 3 0)) := by
  refine CG.of (c := 10) (ini := false) (nL := 1) (rt := some .int) (tab := zt119) rfl (fun d' r h' N hd' hr => ?_)
  replace hr : RR nf xs d' 10 false 1 (some .int) zt119 G r h' N (0, [(0, .ref 0)], [], m, g) := hr
  have h7' : (xgu G 55 2 x).1 0 7 = some 55 := (xgu_oth (by decide)).trans h7
  have h13' : (xgu G 55 2 x).1 0 13 = some 116 := (xgu_oth (by decide)).trans h13
  replace hr := hr.go (s_aload_n t119_0 rfl)
  replace hr := hr.go (s_getf t119_1)
  rcases hr.zNe t119_4 with ⟨b1, hr⟩ | ⟨b1, hr⟩
  · replace hr := hr.go (s_aload_n t119_9 rfl)
    replace hr := hr.go (s_getr t119_10 (h7))
    replace hr := hr.go (s_aload_n t119_13 rfl)
    replace hr := hr.go (s_getr t119_14 (h8))
    obtain ⟨_, m1, g1, _, ⟨rfl, rfl, hq⟩, hr⟩ := hr.callvG t119_17 rfl rfl (cg_rcopy (a := 55) (b := 70) hA hB (by decide) hn h3 hx)
    replace hr : RR nf xs d' 10 false 1 (some .int) zt119 (xgu G 55 2 x) r h' N (20, [(0, .ref 0)], [], m1, g1) := hr
    skip
    replace hr := hr.go (s_aload_n t119_20 rfl)
    replace hr := hr.go (s_getr t119_21 (h13'))
    replace hr := hr.cvN t119_24 rfl rfl (ct_uclear)
    replace hr := hr.go (s_aload_n t119_27 rfl)
    replace hr := hr.go (s_getr t119_28 (h7'))
    replace hr := hr.go (s_getf t119_31)
    obtain ⟨rfl, hs⟩ := hr.iret t119_34
    exact ⟨_, _, _, hs, Or.inr ⟨b1, by rw [xu_row (by decide), hq.2.1 4 (by decide) (by decide)], rfl, m1, hq, rfl⟩⟩
  · replace hr := hr.go (s_k t119_7)
    obtain ⟨rfl, hs⟩ := hr.iret t119_8
    exact ⟨_, _, _, hs, Or.inl ⟨b1, rfl, rfl, rfl, rfl⟩⟩
