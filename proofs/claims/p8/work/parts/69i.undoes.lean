/-! The class: tellings as bits, what can be undone, ears, seat, tell, undo (by program: wip/x/gV4.py). -/
theorem t104_0 : xt zt104 0 1 (.iload_n 1) := ⟨rfl, rfl⟩
theorem t104_1 : xtb zt104 1 4 22 (.ifCond .lt 21) (21) := ⟨rfl, rfl, rfl⟩
theorem t104_4 : xt zt104 4 5 (.iload_n 1) := ⟨rfl, rfl⟩
theorem t104_5 : xt zt104 5 6 (.aload_n 0) := ⟨rfl, rfl⟩
theorem t104_6 : xtf zt104 10 6 9 (.getfield 33) 33 10 5 3 := ⟨rfl, rfl, rfl, rfl⟩
theorem t104_9 : xtf zt104 10 9 12 (.getfield 123) 123 3 2 3 := ⟨rfl, rfl, rfl, rfl⟩
theorem t104_12 : xtf zt104 10 12 15 (.getfield 129) 129 7 3 1 := ⟨rfl, rfl, rfl, rfl⟩
theorem t104_15 : xtb zt104 15 18 22 (.if_icmp .ge 7) (7) := ⟨rfl, rfl, rfl⟩
theorem t104_18 : xtk zt104 18 19 (1) := Or.inl ⟨1, ⟨rfl, rfl⟩, by decide⟩
theorem t104_19 : xtb zt104 19 22 23 (.goto 4) (4) := ⟨rfl, rfl, rfl⟩
theorem t104_22 : xtk zt104 22 23 (0) := Or.inl ⟨0, ⟨rfl, rfl⟩, by decide⟩
theorem t104_23 : xt zt104 23 24 .ireturn := ⟨rfl, rfl⟩
theorem t49_0 : xt zt49 0 1 (.iload_n 1) := ⟨rfl, rfl⟩
theorem t49_1 : xtb zt49 1 4 29 (.ifCond .lt 28) (28) := ⟨rfl, rfl, rfl⟩
theorem t49_4 : xt zt49 4 5 (.iload_n 1) := ⟨rfl, rfl⟩
theorem t49_5 : xtk zt49 5 7 (6) := Or.inr (Or.inl ⟨6, ⟨rfl, rfl⟩, by decide⟩)
theorem t49_7 : xtb zt49 7 10 29 (.if_icmp .ge 22) (22) := ⟨rfl, rfl, rfl⟩
theorem t49_10 : xt zt49 10 11 (.aload_n 0) := ⟨rfl, rfl⟩
theorem t49_11 : xtf zt49 5 11 14 (.getfield 17) 17 5 1 3 := ⟨rfl, rfl, rfl, rfl⟩
theorem t49_14 : xt zt49 14 15 (.iload_n 1) := ⟨rfl, rfl⟩
theorem t49_15 : xt zt49 15 16 .laload := ⟨rfl, rfl⟩
theorem t49_16 : xt zt49 16 17 (.iload_n 2) := ⟨rfl, rfl⟩
theorem t49_17 : xt zt49 17 18 .lushr := ⟨rfl, rfl⟩
theorem t49_18 : xt zt49 18 19 (.lconst 1) := ⟨rfl, rfl⟩
theorem t49_19 : xt zt49 19 20 .land := ⟨rfl, rfl⟩
theorem t49_20 : xt zt49 20 21 (.lconst 1) := ⟨rfl, rfl⟩
theorem t49_21 : xt zt49 21 22 .lcmp := ⟨rfl, rfl⟩
theorem t49_22 : xtb zt49 22 25 29 (.ifCond .ne 7) (7) := ⟨rfl, rfl, rfl⟩
theorem t49_25 : xtk zt49 25 26 (1) := Or.inl ⟨1, ⟨rfl, rfl⟩, by decide⟩
theorem t49_26 : xtb zt49 26 29 30 (.goto 4) (4) := ⟨rfl, rfl, rfl⟩
theorem t49_29 : xtk zt49 29 30 (0) := Or.inl ⟨0, ⟨rfl, rfl⟩, by decide⟩
theorem t49_30 : xt zt49 30 31 .ireturn := ⟨rfl, rfl⟩
theorem t114_0 : xt zt114 0 1 (.aload_n 0) := ⟨rfl, rfl⟩
theorem t114_1 : xt zt114 1 2 (.iload_n 1) := ⟨rfl, rfl⟩
theorem t114_2 : xtc zt114 10 2 5 (.invokevirtual 132) 132 1 103 1 := ⟨rfl, rfl, rfl⟩
theorem t114_5 : xtb zt114 5 8 24 (.ifCond .eq 19) (19) := ⟨rfl, rfl, rfl⟩
theorem t114_8 : xt zt114 8 9 (.aload_n 0) := ⟨rfl, rfl⟩
theorem t114_9 : xtf zt114 10 9 12 (.getfield 45) 45 10 7 3 := ⟨rfl, rfl, rfl, rfl⟩
theorem t114_12 : xtf zt114 10 12 15 (.getfield 143) 143 5 0 3 := ⟨rfl, rfl, rfl, rfl⟩
theorem t114_15 : xt zt114 15 16 (.iload_n 1) := ⟨rfl, rfl⟩
theorem t114_16 : xt zt114 16 17 .aaload := ⟨rfl, rfl⟩
theorem t114_17 : xtf zt114 10 17 20 (.getfield 179) 179 2 4 1 := ⟨rfl, rfl, rfl, rfl⟩
theorem t114_20 : xt zt114 20 21 (.iload_n 2) := ⟨rfl, rfl⟩
theorem t114_21 : xtb zt114 21 24 26 (.if_icmp .ne 5) (5) := ⟨rfl, rfl, rfl⟩
theorem t114_24 : xtk zt114 24 25 (0) := Or.inl ⟨0, ⟨rfl, rfl⟩, by decide⟩
theorem t114_25 : xt zt114 25 26 .ireturn := ⟨rfl, rfl⟩
theorem t114_26 : xt zt114 26 27 (.aload_n 0) := ⟨rfl, rfl⟩
theorem t114_27 : xtf zt114 10 27 30 (.getfield 45) 45 10 7 3 := ⟨rfl, rfl, rfl, rfl⟩
theorem t114_30 : xtf zt114 10 30 33 (.getfield 143) 143 5 0 3 := ⟨rfl, rfl, rfl, rfl⟩
theorem t114_33 : xt zt114 33 34 (.iload_n 1) := ⟨rfl, rfl⟩
theorem t114_34 : xt zt114 34 35 .aaload := ⟨rfl, rfl⟩
theorem t114_35 : xt zt114 35 36 (.iload_n 2) := ⟨rfl, rfl⟩
theorem t114_36 : xtf zt114 10 36 39 (.putfield 179) 179 2 4 1 := ⟨rfl, rfl, rfl, rfl⟩
theorem t114_39 : xt zt114 39 40 (.aload_n 0) := ⟨rfl, rfl⟩
theorem t114_40 : xtf zt114 10 40 43 (.getfield 72) 72 10 13 3 := ⟨rfl, rfl, rfl, rfl⟩
theorem t114_43 : xtk zt114 43 44 (1) := Or.inl ⟨1, ⟨rfl, rfl⟩, by decide⟩
theorem t114_44 : xt zt114 44 45 (.iload_n 1) := ⟨rfl, rfl⟩
theorem t114_45 : xt zt114 45 46 (.iload_n 2) := ⟨rfl, rfl⟩
theorem t114_46 : xtb zt114 46 49 53 (.ifCond .eq 7) (7) := ⟨rfl, rfl, rfl⟩
theorem t114_49 : xtk zt114 49 50 (0) := Or.inl ⟨0, ⟨rfl, rfl⟩, by decide⟩
theorem t114_50 : xtb zt114 50 53 54 (.goto 4) (4) := ⟨rfl, rfl, rfl⟩
theorem t114_53 : xtk zt114 53 54 (1) := Or.inl ⟨1, ⟨rfl, rfl⟩, by decide⟩
theorem t114_54 : xtc zt114 10 54 57 (.invokevirtual 277) 277 1 94 3 := ⟨rfl, rfl, rfl⟩
theorem t114_57 : xtk zt114 57 58 (1) := Or.inl ⟨1, ⟨rfl, rfl⟩, by decide⟩
theorem t114_58 : xt zt114 58 59 .ireturn := ⟨rfl, rfl⟩
theorem t115_0 : xt zt115 0 1 (.aload_n 0) := ⟨rfl, rfl⟩
theorem t115_1 : xt zt115 1 2 (.iload_n 1) := ⟨rfl, rfl⟩
theorem t115_2 : xtc zt115 10 2 5 (.invokevirtual 132) 132 1 103 1 := ⟨rfl, rfl, rfl⟩
theorem t115_5 : xtb zt115 5 8 18 (.ifCond .eq 13) (13) := ⟨rfl, rfl, rfl⟩
theorem t115_8 : xt zt115 8 9 (.iload_n 2) := ⟨rfl, rfl⟩
theorem t115_9 : xtb zt115 9 12 18 (.ifCond .lt 9) (9) := ⟨rfl, rfl, rfl⟩
theorem t115_12 : xt zt115 12 13 (.iload_n 2) := ⟨rfl, rfl⟩
theorem t115_13 : xtk zt115 13 15 (9) := Or.inr (Or.inl ⟨9, ⟨rfl, rfl⟩, by decide⟩)
theorem t115_15 : xtb zt115 15 18 20 (.if_icmp .le 5) (5) := ⟨rfl, rfl, rfl⟩
theorem t115_18 : xtk zt115 18 19 (0) := Or.inl ⟨0, ⟨rfl, rfl⟩, by decide⟩
theorem t115_19 : xt zt115 19 20 .ireturn := ⟨rfl, rfl⟩
theorem t115_20 : xt zt115 20 21 (.aload_n 0) := ⟨rfl, rfl⟩
theorem t115_21 : xtf zt115 10 21 24 (.getfield 45) 45 10 7 3 := ⟨rfl, rfl, rfl, rfl⟩
theorem t115_24 : xtf zt115 10 24 27 (.getfield 143) 143 5 0 3 := ⟨rfl, rfl, rfl, rfl⟩
theorem t115_27 : xt zt115 27 28 (.iload_n 1) := ⟨rfl, rfl⟩
theorem t115_28 : xt zt115 28 29 .aaload := ⟨rfl, rfl⟩
theorem t115_29 : xt zt115 29 30 (.astore_n 3) := ⟨rfl, rfl⟩
theorem t115_30 : xt zt115 30 31 (.aload_n 3) := ⟨rfl, rfl⟩
theorem t115_31 : xtf zt115 10 31 34 (.getfield 156) 156 2 2 1 := ⟨rfl, rfl, rfl, rfl⟩
theorem t115_34 : xt zt115 34 35 (.iload_n 2) := ⟨rfl, rfl⟩
theorem t115_35 : xtb zt115 35 38 40 (.if_icmp .ne 5) (5) := ⟨rfl, rfl, rfl⟩
theorem t115_38 : xtk zt115 38 39 (0) := Or.inl ⟨0, ⟨rfl, rfl⟩, by decide⟩
theorem t115_39 : xt zt115 39 40 .ireturn := ⟨rfl, rfl⟩
theorem t115_40 : xt zt115 40 41 (.aload_n 0) := ⟨rfl, rfl⟩
theorem t115_41 : xtf zt115 10 41 44 (.getfield 72) 72 10 13 3 := ⟨rfl, rfl, rfl, rfl⟩
theorem t115_44 : xtk zt115 44 45 (2) := Or.inl ⟨2, ⟨rfl, rfl⟩, by decide⟩
theorem t115_45 : xt zt115 45 46 (.iload_n 1) := ⟨rfl, rfl⟩
theorem t115_46 : xt zt115 46 47 (.aload_n 3) := ⟨rfl, rfl⟩
theorem t115_47 : xtf zt115 10 47 50 (.getfield 156) 156 2 2 1 := ⟨rfl, rfl, rfl, rfl⟩
theorem t115_50 : xtc zt115 10 50 53 (.invokevirtual 277) 277 1 94 3 := ⟨rfl, rfl, rfl⟩
theorem t115_53 : xt zt115 53 54 (.aload_n 3) := ⟨rfl, rfl⟩
theorem t115_54 : xt zt115 54 55 (.iload_n 2) := ⟨rfl, rfl⟩
theorem t115_55 : xtf zt115 10 55 58 (.putfield 156) 156 2 2 1 := ⟨rfl, rfl, rfl, rfl⟩
theorem t115_58 : xtk zt115 58 59 (1) := Or.inl ⟨1, ⟨rfl, rfl⟩, by decide⟩
theorem t115_59 : xt zt115 59 60 .ireturn := ⟨rfl, rfl⟩
theorem t116_0 : xt zt116 0 1 (.aload_n 0) := ⟨rfl, rfl⟩
theorem t116_1 : xt zt116 1 2 (.iload_n 1) := ⟨rfl, rfl⟩
theorem t116_2 : xtc zt116 10 2 5 (.invokevirtual 185) 185 1 104 1 := ⟨rfl, rfl, rfl⟩
theorem t116_5 : xtb zt116 5 8 28 (.ifCond .eq 23) (23) := ⟨rfl, rfl, rfl⟩
theorem t116_8 : xt zt116 8 9 (.iload_n 2) := ⟨rfl, rfl⟩
theorem t116_9 : xtc zt116 10 9 12 (.invokestatic 201) 201 2 105 1 := ⟨rfl, rfl, rfl⟩
theorem t116_12 : xtb zt116 12 15 28 (.ifCond .eq 16) (16) := ⟨rfl, rfl, rfl⟩
theorem t116_15 : xt zt116 15 16 (.aload_n 0) := ⟨rfl, rfl⟩
theorem t116_16 : xtf zt116 10 16 19 (.getfield 45) 45 10 7 3 := ⟨rfl, rfl, rfl, rfl⟩
theorem t116_19 : xt zt116 19 20 (.iload_n 1) := ⟨rfl, rfl⟩
theorem t116_20 : xt zt116 20 21 (.iload_n 2) := ⟨rfl, rfl⟩
theorem t116_21 : xtc zt116 10 21 24 (.invokevirtual 204) 204 1 49 2 := ⟨rfl, rfl, rfl⟩
theorem t116_24 : xt zt116 24 25 (.iload_n 3) := ⟨rfl, rfl⟩
theorem t116_25 : xtb zt116 25 28 30 (.if_icmp .ne 5) (5) := ⟨rfl, rfl, rfl⟩
theorem t116_28 : xtk zt116 28 29 (0) := Or.inl ⟨0, ⟨rfl, rfl⟩, by decide⟩
theorem t116_29 : xt zt116 29 30 .ireturn := ⟨rfl, rfl⟩
theorem t116_30 : xt zt116 30 31 (.aload_n 0) := ⟨rfl, rfl⟩
theorem t116_31 : xtf zt116 10 31 34 (.getfield 45) 45 10 7 3 := ⟨rfl, rfl, rfl, rfl⟩
theorem t116_34 : xt zt116 34 35 (.iload_n 1) := ⟨rfl, rfl⟩
theorem t116_35 : xt zt116 35 36 (.iload_n 2) := ⟨rfl, rfl⟩
theorem t116_36 : xt zt116 36 37 (.iload_n 3) := ⟨rfl, rfl⟩
theorem t116_37 : xtc zt116 10 37 40 (.invokevirtual 281) 281 1 50 3 := ⟨rfl, rfl, rfl⟩
theorem t116_40 : xt zt116 40 41 (.aload_n 0) := ⟨rfl, rfl⟩
theorem t116_41 : xtf zt116 10 41 44 (.getfield 72) 72 10 13 3 := ⟨rfl, rfl, rfl, rfl⟩
theorem t116_44 : xtk zt116 44 45 (3) := Or.inl ⟨3, ⟨rfl, rfl⟩, by decide⟩
theorem t116_45 : xt zt116 45 46 (.iload_n 1) := ⟨rfl, rfl⟩
theorem t116_46 : xt zt116 46 47 (.iload_n 2) := ⟨rfl, rfl⟩
theorem t116_47 : xtc zt116 10 47 50 (.invokevirtual 277) 277 1 94 3 := ⟨rfl, rfl, rfl⟩
theorem t116_50 : xtk zt116 50 51 (1) := Or.inl ⟨1, ⟨rfl, rfl⟩, by decide⟩
theorem t116_51 : xt zt116 51 52 .ireturn := ⟨rfl, rfl⟩
theorem t117_0 : xt zt117 0 1 (.aload_n 0) := ⟨rfl, rfl⟩
theorem t117_1 : xtf zt117 10 1 4 (.getfield 72) 72 10 13 3 := ⟨rfl, rfl, rfl, rfl⟩
theorem t117_4 : xtc zt117 10 4 7 (.invokevirtual 285) 285 1 96 0 := ⟨rfl, rfl, rfl⟩
theorem t117_7 : xt zt117 7 8 (.istore_n 1) := ⟨rfl, rfl⟩
theorem t117_8 : xt zt117 8 9 (.aload_n 0) := ⟨rfl, rfl⟩
theorem t117_9 : xtf zt117 10 9 12 (.getfield 72) 72 10 13 3 := ⟨rfl, rfl, rfl, rfl⟩
theorem t117_12 : xtf zt117 10 12 15 (.getfield 288) 288 9 4 1 := ⟨rfl, rfl, rfl, rfl⟩
theorem t117_15 : xt zt117 15 16 (.istore_n 2) := ⟨rfl, rfl⟩
theorem t117_16 : xt zt117 16 17 (.aload_n 0) := ⟨rfl, rfl⟩
theorem t117_17 : xtf zt117 10 17 20 (.getfield 72) 72 10 13 3 := ⟨rfl, rfl, rfl, rfl⟩
theorem t117_20 : xtf zt117 10 20 23 (.getfield 291) 291 9 5 1 := ⟨rfl, rfl, rfl, rfl⟩
theorem t117_23 : xt zt117 23 24 (.istore_n 3) := ⟨rfl, rfl⟩
theorem t117_24 : xt zt117 24 25 (.iload_n 1) := ⟨rfl, rfl⟩
theorem t117_25 : xtb zt117 25 28 30 (.ifCond .ne 5) (5) := ⟨rfl, rfl, rfl⟩
theorem t117_28 : xtk zt117 28 29 (-1) := Or.inl ⟨-1, ⟨rfl, rfl⟩, by decide⟩
theorem t117_29 : xt zt117 29 30 .ireturn := ⟨rfl, rfl⟩
theorem t117_30 : xt zt117 30 31 (.iload_n 1) := ⟨rfl, rfl⟩
theorem t117_31 : xtk zt117 31 32 (3) := Or.inl ⟨3, ⟨rfl, rfl⟩, by decide⟩
theorem t117_32 : xtb zt117 32 35 72 (.if_icmp .ne 40) (40) := ⟨rfl, rfl, rfl⟩
theorem t117_35 : xt zt117 35 36 (.aload_n 0) := ⟨rfl, rfl⟩
theorem t117_36 : xt zt117 36 37 (.iload_n 2) := ⟨rfl, rfl⟩
theorem t117_37 : xtc zt117 10 37 40 (.invokevirtual 185) 185 1 104 1 := ⟨rfl, rfl, rfl⟩
theorem t117_40 : xtb zt117 40 43 72 (.ifCond .eq 32) (32) := ⟨rfl, rfl, rfl⟩
theorem t117_43 : xt zt117 43 44 (.aload_n 0) := ⟨rfl, rfl⟩
theorem t117_44 : xtf zt117 10 44 47 (.getfield 45) 45 10 7 3 := ⟨rfl, rfl, rfl, rfl⟩
theorem t117_47 : xt zt117 47 48 (.iload_n 2) := ⟨rfl, rfl⟩
theorem t117_48 : xt zt117 48 49 (.iload_n 3) := ⟨rfl, rfl⟩
theorem t117_49 : xt zt117 49 50 (.aload_n 0) := ⟨rfl, rfl⟩
theorem t117_50 : xtf zt117 10 50 53 (.getfield 45) 45 10 7 3 := ⟨rfl, rfl, rfl, rfl⟩
theorem t117_53 : xt zt117 53 54 (.iload_n 2) := ⟨rfl, rfl⟩
theorem t117_54 : xt zt117 54 55 (.iload_n 3) := ⟨rfl, rfl⟩
theorem t117_55 : xtc zt117 10 55 58 (.invokevirtual 204) 204 1 49 2 := ⟨rfl, rfl, rfl⟩
theorem t117_58 : xtb zt117 58 61 65 (.ifCond .ne 7) (7) := ⟨rfl, rfl, rfl⟩
theorem t117_61 : xtk zt117 61 62 (1) := Or.inl ⟨1, ⟨rfl, rfl⟩, by decide⟩
theorem t117_62 : xtb zt117 62 65 66 (.goto 4) (4) := ⟨rfl, rfl, rfl⟩
theorem t117_65 : xtk zt117 65 66 (0) := Or.inl ⟨0, ⟨rfl, rfl⟩, by decide⟩
theorem t117_66 : xtc zt117 10 66 69 (.invokevirtual 281) 281 1 50 3 := ⟨rfl, rfl, rfl⟩
theorem t117_69 : xtb zt117 69 72 136 (.goto 67) (67) := ⟨rfl, rfl, rfl⟩
theorem t117_72 : xt zt117 72 73 (.iload_n 1) := ⟨rfl, rfl⟩
theorem t117_73 : xtk zt117 73 74 (1) := Or.inl ⟨1, ⟨rfl, rfl⟩, by decide⟩
theorem t117_74 : xtb zt117 74 77 110 (.if_icmp .ne 36) (36) := ⟨rfl, rfl, rfl⟩
theorem t117_77 : xt zt117 77 78 (.aload_n 0) := ⟨rfl, rfl⟩
theorem t117_78 : xt zt117 78 79 (.iload_n 2) := ⟨rfl, rfl⟩
theorem t117_79 : xtc zt117 10 79 82 (.invokevirtual 132) 132 1 103 1 := ⟨rfl, rfl, rfl⟩
theorem t117_82 : xtb zt117 82 85 110 (.ifCond .eq 28) (28) := ⟨rfl, rfl, rfl⟩
theorem t117_85 : xt zt117 85 86 (.aload_n 0) := ⟨rfl, rfl⟩
theorem t117_86 : xtf zt117 10 86 89 (.getfield 45) 45 10 7 3 := ⟨rfl, rfl, rfl, rfl⟩
theorem t117_89 : xtf zt117 10 89 92 (.getfield 143) 143 5 0 3 := ⟨rfl, rfl, rfl, rfl⟩
theorem t117_92 : xt zt117 92 93 (.iload_n 2) := ⟨rfl, rfl⟩
theorem t117_93 : xt zt117 93 94 .aaload := ⟨rfl, rfl⟩
theorem t117_94 : xt zt117 94 95 (.iload_n 3) := ⟨rfl, rfl⟩
theorem t117_95 : xtk zt117 95 96 (1) := Or.inl ⟨1, ⟨rfl, rfl⟩, by decide⟩
theorem t117_96 : xtb zt117 96 99 103 (.if_icmp .ne 7) (7) := ⟨rfl, rfl, rfl⟩
theorem t117_99 : xtk zt117 99 100 (1) := Or.inl ⟨1, ⟨rfl, rfl⟩, by decide⟩
theorem t117_100 : xtb zt117 100 103 104 (.goto 4) (4) := ⟨rfl, rfl, rfl⟩
theorem t117_103 : xtk zt117 103 104 (0) := Or.inl ⟨0, ⟨rfl, rfl⟩, by decide⟩
theorem t117_104 : xtf zt117 10 104 107 (.putfield 179) 179 2 4 1 := ⟨rfl, rfl, rfl, rfl⟩
theorem t117_107 : xtb zt117 107 110 136 (.goto 29) (29) := ⟨rfl, rfl, rfl⟩
theorem t117_110 : xt zt117 110 111 (.iload_n 1) := ⟨rfl, rfl⟩
theorem t117_111 : xtk zt117 111 112 (2) := Or.inl ⟨2, ⟨rfl, rfl⟩, by decide⟩
theorem t117_112 : xtb zt117 112 115 136 (.if_icmp .ne 24) (24) := ⟨rfl, rfl, rfl⟩
theorem t117_115 : xt zt117 115 116 (.aload_n 0) := ⟨rfl, rfl⟩
theorem t117_116 : xt zt117 116 117 (.iload_n 2) := ⟨rfl, rfl⟩
theorem t117_117 : xtc zt117 10 117 120 (.invokevirtual 132) 132 1 103 1 := ⟨rfl, rfl, rfl⟩
theorem t117_120 : xtb zt117 120 123 136 (.ifCond .eq 16) (16) := ⟨rfl, rfl, rfl⟩
theorem t117_123 : xt zt117 123 124 (.aload_n 0) := ⟨rfl, rfl⟩
theorem t117_124 : xtf zt117 10 124 127 (.getfield 45) 45 10 7 3 := ⟨rfl, rfl, rfl, rfl⟩
theorem t117_127 : xtf zt117 10 127 130 (.getfield 143) 143 5 0 3 := ⟨rfl, rfl, rfl, rfl⟩
theorem t117_130 : xt zt117 130 131 (.iload_n 2) := ⟨rfl, rfl⟩
theorem t117_131 : xt zt117 131 132 .aaload := ⟨rfl, rfl⟩
theorem t117_132 : xt zt117 132 133 (.iload_n 3) := ⟨rfl, rfl⟩
theorem t117_133 : xtf zt117 10 133 136 (.putfield 156) 156 2 2 1 := ⟨rfl, rfl, rfl, rfl⟩
theorem t117_136 : xt zt117 136 137 (.aload_n 0) := ⟨rfl, rfl⟩
theorem t117_137 : xtf zt117 10 137 140 (.getfield 72) 72 10 13 3 := ⟨rfl, rfl, rfl, rfl⟩
theorem t117_140 : xtf zt117 10 140 143 (.getfield 276) 276 9 3 1 := ⟨rfl, rfl, rfl, rfl⟩
theorem t117_143 : xt zt117 143 144 .ireturn := ⟨rfl, rfl⟩
theorem t94_0 : xt zt94 0 1 (.aload_n 0) := ⟨rfl, rfl⟩
theorem t94_1 : xtf zt94 9 1 4 (.getfield 19) 19 9 3 1 := ⟨rfl, rfl, rfl, rfl⟩
theorem t94_4 : xtk zt94 4 6 (20) := Or.inr (Or.inl ⟨20, ⟨rfl, rfl⟩, by decide⟩)
theorem t94_6 : xtb zt94 6 9 13 (.if_icmp .lt 7) (7) := ⟨rfl, rfl, rfl⟩
theorem t94_9 : xt zt94 9 10 (.aload_n 0) := ⟨rfl, rfl⟩
theorem t94_10 : xtc zt94 9 10 13 (.invokevirtual 29) 29 1 95 0 := ⟨rfl, rfl, rfl⟩
theorem t94_13 : xt zt94 13 14 (.aload_n 0) := ⟨rfl, rfl⟩
theorem t94_14 : xtf zt94 9 14 17 (.getfield 19) 19 9 3 1 := ⟨rfl, rfl, rfl, rfl⟩
theorem t94_17 : xtk zt94 17 19 (20) := Or.inr (Or.inl ⟨20, ⟨rfl, rfl⟩, by decide⟩)
theorem t94_19 : xtb zt94 19 22 62 (.if_icmp .ge 43) (43) := ⟨rfl, rfl, rfl⟩
theorem t94_22 : xt zt94 22 23 (.aload_n 0) := ⟨rfl, rfl⟩
theorem t94_23 : xtf zt94 9 23 26 (.getfield 9) 9 9 0 3 := ⟨rfl, rfl, rfl, rfl⟩
theorem t94_26 : xt zt94 26 27 (.aload_n 0) := ⟨rfl, rfl⟩
theorem t94_27 : xtf zt94 9 27 30 (.getfield 19) 19 9 3 1 := ⟨rfl, rfl, rfl, rfl⟩
theorem t94_30 : xt zt94 30 31 (.iload_n 1) := ⟨rfl, rfl⟩
theorem t94_31 : xt zt94 31 32 .iastore := ⟨rfl, rfl⟩
theorem t94_32 : xt zt94 32 33 (.aload_n 0) := ⟨rfl, rfl⟩
theorem t94_33 : xtf zt94 9 33 36 (.getfield 13) 13 9 1 3 := ⟨rfl, rfl, rfl, rfl⟩
theorem t94_36 : xt zt94 36 37 (.aload_n 0) := ⟨rfl, rfl⟩
theorem t94_37 : xtf zt94 9 37 40 (.getfield 19) 19 9 3 1 := ⟨rfl, rfl, rfl, rfl⟩
theorem t94_40 : xt zt94 40 41 (.iload_n 2) := ⟨rfl, rfl⟩
theorem t94_41 : xt zt94 41 42 .iastore := ⟨rfl, rfl⟩
theorem t94_42 : xt zt94 42 43 (.aload_n 0) := ⟨rfl, rfl⟩
theorem t94_43 : xtf zt94 9 43 46 (.getfield 16) 16 9 2 3 := ⟨rfl, rfl, rfl, rfl⟩
theorem t94_46 : xt zt94 46 47 (.aload_n 0) := ⟨rfl, rfl⟩
theorem t94_47 : xtf zt94 9 47 50 (.getfield 19) 19 9 3 1 := ⟨rfl, rfl, rfl, rfl⟩
theorem t94_50 : xt zt94 50 51 (.iload_n 3) := ⟨rfl, rfl⟩
theorem t94_51 : xt zt94 51 52 .iastore := ⟨rfl, rfl⟩
theorem t94_52 : xt zt94 52 53 (.aload_n 0) := ⟨rfl, rfl⟩
theorem t94_53 : xt zt94 53 54 .dup := ⟨rfl, rfl⟩
theorem t94_54 : xtf zt94 9 54 57 (.getfield 19) 19 9 3 1 := ⟨rfl, rfl, rfl, rfl⟩
theorem t94_57 : xtk zt94 57 58 (1) := Or.inl ⟨1, ⟨rfl, rfl⟩, by decide⟩
theorem t94_58 : xt zt94 58 59 .iadd := ⟨rfl, rfl⟩
theorem t94_59 : xtf zt94 9 59 62 (.putfield 19) 19 9 3 1 := ⟨rfl, rfl, rfl, rfl⟩
theorem t94_62 : xt zt94 62 63 .return_ := ⟨rfl, rfl⟩
theorem t95_0 : xtk zt95 0 1 (1) := Or.inl ⟨1, ⟨rfl, rfl⟩, by decide⟩
theorem t95_1 : xt zt95 1 2 (.istore_n 1) := ⟨rfl, rfl⟩
theorem t95_2 : xt zt95 2 3 (.iload_n 1) := ⟨rfl, rfl⟩
theorem t95_3 : xtk zt95 3 5 (20) := Or.inr (Or.inl ⟨20, ⟨rfl, rfl⟩, by decide⟩)
theorem t95_5 : xtb zt95 5 8 56 (.if_icmp .ge 51) (51) := ⟨rfl, rfl, rfl⟩
theorem t95_8 : xt zt95 8 9 (.aload_n 0) := ⟨rfl, rfl⟩
theorem t95_9 : xtf zt95 9 9 12 (.getfield 9) 9 9 0 3 := ⟨rfl, rfl, rfl, rfl⟩
theorem t95_12 : xt zt95 12 13 (.iload_n 1) := ⟨rfl, rfl⟩
theorem t95_13 : xtk zt95 13 14 (1) := Or.inl ⟨1, ⟨rfl, rfl⟩, by decide⟩
theorem t95_14 : xt zt95 14 15 .isub := ⟨rfl, rfl⟩
theorem t95_15 : xt zt95 15 16 (.aload_n 0) := ⟨rfl, rfl⟩
theorem t95_16 : xtf zt95 9 16 19 (.getfield 9) 9 9 0 3 := ⟨rfl, rfl, rfl, rfl⟩
theorem t95_19 : xt zt95 19 20 (.iload_n 1) := ⟨rfl, rfl⟩
theorem t95_20 : xt zt95 20 21 .iaload := ⟨rfl, rfl⟩
theorem t95_21 : xt zt95 21 22 .iastore := ⟨rfl, rfl⟩
theorem t95_22 : xt zt95 22 23 (.aload_n 0) := ⟨rfl, rfl⟩
theorem t95_23 : xtf zt95 9 23 26 (.getfield 13) 13 9 1 3 := ⟨rfl, rfl, rfl, rfl⟩
theorem t95_26 : xt zt95 26 27 (.iload_n 1) := ⟨rfl, rfl⟩
theorem t95_27 : xtk zt95 27 28 (1) := Or.inl ⟨1, ⟨rfl, rfl⟩, by decide⟩
theorem t95_28 : xt zt95 28 29 .isub := ⟨rfl, rfl⟩
theorem t95_29 : xt zt95 29 30 (.aload_n 0) := ⟨rfl, rfl⟩
theorem t95_30 : xtf zt95 9 30 33 (.getfield 13) 13 9 1 3 := ⟨rfl, rfl, rfl, rfl⟩
theorem t95_33 : xt zt95 33 34 (.iload_n 1) := ⟨rfl, rfl⟩
theorem t95_34 : xt zt95 34 35 .iaload := ⟨rfl, rfl⟩
theorem t95_35 : xt zt95 35 36 .iastore := ⟨rfl, rfl⟩
theorem t95_36 : xt zt95 36 37 (.aload_n 0) := ⟨rfl, rfl⟩
theorem t95_37 : xtf zt95 9 37 40 (.getfield 16) 16 9 2 3 := ⟨rfl, rfl, rfl, rfl⟩
theorem t95_40 : xt zt95 40 41 (.iload_n 1) := ⟨rfl, rfl⟩
theorem t95_41 : xtk zt95 41 42 (1) := Or.inl ⟨1, ⟨rfl, rfl⟩, by decide⟩
theorem t95_42 : xt zt95 42 43 .isub := ⟨rfl, rfl⟩
theorem t95_43 : xt zt95 43 44 (.aload_n 0) := ⟨rfl, rfl⟩
theorem t95_44 : xtf zt95 9 44 47 (.getfield 16) 16 9 2 3 := ⟨rfl, rfl, rfl, rfl⟩
theorem t95_47 : xt zt95 47 48 (.iload_n 1) := ⟨rfl, rfl⟩
theorem t95_48 : xt zt95 48 49 .iaload := ⟨rfl, rfl⟩
theorem t95_49 : xt zt95 49 50 .iastore := ⟨rfl, rfl⟩
theorem t95_50 : xt zt95 50 53 (.iinc 1 1) := ⟨rfl, rfl⟩
theorem t95_53 : xtb zt95 53 56 2 (.goto (-51)) (-51) := ⟨rfl, rfl, rfl⟩
theorem t95_56 : xt zt95 56 57 (.aload_n 0) := ⟨rfl, rfl⟩
theorem t95_57 : xtk zt95 57 59 (19) := Or.inr (Or.inl ⟨19, ⟨rfl, rfl⟩, by decide⟩)
theorem t95_59 : xtf zt95 9 59 62 (.putfield 19) 19 9 3 1 := ⟨rfl, rfl, rfl, rfl⟩
theorem t95_62 : xt zt95 62 63 .return_ := ⟨rfl, rfl⟩
theorem t96_0 : xt zt96 0 1 (.aload_n 0) := ⟨rfl, rfl⟩
theorem t96_1 : xtf zt96 9 1 4 (.getfield 19) 19 9 3 1 := ⟨rfl, rfl, rfl, rfl⟩
theorem t96_4 : xtb zt96 4 7 16 (.ifCond .le 12) (12) := ⟨rfl, rfl, rfl⟩
theorem t96_7 : xt zt96 7 8 (.aload_n 0) := ⟨rfl, rfl⟩
theorem t96_8 : xtf zt96 9 8 11 (.getfield 19) 19 9 3 1 := ⟨rfl, rfl, rfl, rfl⟩
theorem t96_11 : xtk zt96 11 13 (20) := Or.inr (Or.inl ⟨20, ⟨rfl, rfl⟩, by decide⟩)
theorem t96_13 : xtb zt96 13 16 18 (.if_icmp .le 5) (5) := ⟨rfl, rfl, rfl⟩
theorem t96_16 : xtk zt96 16 17 (0) := Or.inl ⟨0, ⟨rfl, rfl⟩, by decide⟩
theorem t96_17 : xt zt96 17 18 .ireturn := ⟨rfl, rfl⟩
theorem t96_18 : xt zt96 18 19 (.aload_n 0) := ⟨rfl, rfl⟩
theorem t96_19 : xt zt96 19 20 .dup := ⟨rfl, rfl⟩
theorem t96_20 : xtf zt96 9 20 23 (.getfield 19) 19 9 3 1 := ⟨rfl, rfl, rfl, rfl⟩
theorem t96_23 : xtk zt96 23 24 (1) := Or.inl ⟨1, ⟨rfl, rfl⟩, by decide⟩
theorem t96_24 : xt zt96 24 25 .isub := ⟨rfl, rfl⟩
theorem t96_25 : xtf zt96 9 25 28 (.putfield 19) 19 9 3 1 := ⟨rfl, rfl, rfl, rfl⟩
theorem t96_28 : xt zt96 28 29 (.aload_n 0) := ⟨rfl, rfl⟩
theorem t96_29 : xt zt96 29 30 (.aload_n 0) := ⟨rfl, rfl⟩
theorem t96_30 : xtf zt96 9 30 33 (.getfield 13) 13 9 1 3 := ⟨rfl, rfl, rfl, rfl⟩
theorem t96_33 : xt zt96 33 34 (.aload_n 0) := ⟨rfl, rfl⟩
theorem t96_34 : xtf zt96 9 34 37 (.getfield 19) 19 9 3 1 := ⟨rfl, rfl, rfl, rfl⟩
theorem t96_37 : xt zt96 37 38 .iaload := ⟨rfl, rfl⟩
theorem t96_38 : xtf zt96 9 38 41 (.putfield 23) 23 9 4 1 := ⟨rfl, rfl, rfl, rfl⟩
theorem t96_41 : xt zt96 41 42 (.aload_n 0) := ⟨rfl, rfl⟩
theorem t96_42 : xt zt96 42 43 (.aload_n 0) := ⟨rfl, rfl⟩
theorem t96_43 : xtf zt96 9 43 46 (.getfield 16) 16 9 2 3 := ⟨rfl, rfl, rfl, rfl⟩
theorem t96_46 : xt zt96 46 47 (.aload_n 0) := ⟨rfl, rfl⟩
theorem t96_47 : xtf zt96 9 47 50 (.getfield 19) 19 9 3 1 := ⟨rfl, rfl, rfl, rfl⟩
theorem t96_50 : xt zt96 50 51 .iaload := ⟨rfl, rfl⟩
theorem t96_51 : xtf zt96 9 51 54 (.putfield 26) 26 9 5 1 := ⟨rfl, rfl, rfl, rfl⟩
theorem t96_54 : xt zt96 54 55 (.aload_n 0) := ⟨rfl, rfl⟩
theorem t96_55 : xtf zt96 9 55 58 (.getfield 9) 9 9 0 3 := ⟨rfl, rfl, rfl, rfl⟩
theorem t96_58 : xt zt96 58 59 (.aload_n 0) := ⟨rfl, rfl⟩
theorem t96_59 : xtf zt96 9 59 62 (.getfield 19) 19 9 3 1 := ⟨rfl, rfl, rfl, rfl⟩
theorem t96_62 : xt zt96 62 63 .iaload := ⟨rfl, rfl⟩
theorem t96_63 : xt zt96 63 64 .ireturn := ⟨rfl, rfl⟩
theorem ct_isJokeC {nf : Bool} {xs : List Int32} {d : Nat} {m : xM} {g : xL} {G : xG} {P : Nat} {x : Int32} (h5 : G.1 0 5 = some P) (h2 : G.1 P 2 = some (P + 5)) : CT nf xs d 104 [.ref 0, .int x] m g G (PE (some (.int (rdV x (m (P + 5) 3)))) m g) := by
  refine CT.of (c := 10) (ini := false) (nL := 2) (rt := some .boolean) (tab := zt104) rfl (fun d' r h' N hd hr => ?_)
  replace hr : RR nf xs d' 10 false 2 (some .boolean) zt104 G r h' N (0, [(0, .ref 0), (1, .int x)], [], m, g) := hr
  have k1 : (1 : Int32).toInt = 1 := rfl
  replace hr := hr.go (s_iload_n t104_0 rfl)
  rcases hr.zLt t104_1 with ⟨b1, hr⟩ | ⟨b1, hr⟩
  · replace hr := hr.go (s_k t104_22)
    obtain ⟨rfl, hs⟩ := hr.iret t104_23
    exact ⟨_, _, hs, by unfold rdV; repeat (first | rw [if_pos (by omega)] | rw [if_neg (by omega)]), rfl, rfl⟩
  · replace hr := hr.go (s_iload_n t104_4 rfl)
    replace hr := hr.go (s_aload_n t104_5 rfl)
    replace hr := hr.go (s_getr t104_6 (h5))
    replace hr := hr.go (s_getr t104_9 (h2))
    replace hr := hr.go (s_getf t104_12)
    rcases hr.bGe t104_15 with ⟨b15, hr⟩ | ⟨b15, hr⟩
    · replace hr := hr.go (s_k t104_22)
      obtain ⟨rfl, hs⟩ := hr.iret t104_23
      exact ⟨_, _, hs, by unfold rdV; repeat (first | rw [if_pos (by omega)] | rw [if_neg (by omega)]), rfl, rfl⟩
    · replace hr := hr.go (s_k t104_18)
      replace hr := hr.go (s_goto t104_19)
      obtain ⟨rfl, hs⟩ := hr.iret t104_23
      exact ⟨_, _, hs, by unfold rdV; repeat (first | rw [if_pos (by omega)] | rw [if_neg (by omega)]), rfl, rfl⟩
theorem ct_isToldR {nf : Bool} {xs : List Int32} {d : Nat} {m : xM} {g : xL} {G : xG} {a j v : Nat} (h1 : G.1 a 1 = some (a + 2)) (hj : j < 6) (hv : v < 64) : CT nf xs d 49 [.ref a, .int (Int32.ofNat j), .int (Int32.ofNat v)] m g G (PE (some (.int (bI (bl (g (a + 2) j) v)))) m g) := by
  refine CT.of (c := 5) (ini := false) (nL := 3) (rt := some .boolean) (tab := zt49) rfl (fun d' r h' N hd hr => ?_)
  replace hr : RR nf xs d' 5 false 3 (some .boolean) zt49 G r h' N (0, [(0, .ref a), (1, .int (Int32.ofNat j)), (2, .int (Int32.ofNat v))], [], m, g) := hr
  have k1 : (1 : Int32).toInt = 1 := rfl
  have k6 : (6 : Int32).toInt = 6 := rfl
  have qj : (Int32.ofNat j).toInt = (j : Int) := xn_int (by omega)
  replace hr := hr.go (s_iload_n t49_0 rfl)
  rcases hr.zLt t49_1 with ⟨b1, hr⟩ | ⟨b1, hr⟩
  · exact absurd b1 (by omega)
  · replace hr := hr.go (s_iload_n t49_4 rfl)
    replace hr := hr.go (s_k t49_5)
    rcases hr.bGe t49_7 with ⟨b7, hr⟩ | ⟨b7, hr⟩
    · exact absurd b7 (by omega)
    · replace hr := hr.go (s_aload_n t49_10 rfl)
      replace hr := hr.go (s_getr t49_11 (h1))
      replace hr := hr.go (s_iload_n t49_14 rfl)
      skip
      replace hr := hr.go (s_laload t49_15)
      rw [xn_nat (show j < 2147483648 by omega)] at hr
      replace hr := hr.go (s_iload_n t49_16 rfl)
      replace hr := hr.go (s_lushr t49_17)
      replace hr := hr.go (s_lconst t49_18)
      replace hr := hr.go (s_land t49_19)
      replace hr := hr.go (s_lconst t49_20)
      replace hr := hr.go (s_lcmp t49_21)
      rcases hr.zNe t49_22 with ⟨b22, hr⟩ | ⟨b22, hr⟩
      · replace hr := hr.go (s_k t49_29)
        obtain ⟨rfl, hs⟩ := hr.iret t49_30
        exact ⟨_, _, hs, by cases e : bl (g (a + 2) j) v with | false => rfl | true => exact absurd (cmp_1.mpr ((bl_tsu hv).mpr e)) b22, rfl, rfl⟩
      · replace hr := hr.go (s_k t49_25)
        replace hr := hr.go (s_goto t49_26)
        obtain ⟨rfl, hs⟩ := hr.iret t49_30
        exact ⟨_, _, hs, by rw [(bl_tsu hv).mp (cmp_1.mp b22)]; rfl, rfl, rfl⟩
theorem ct_setToldR {nf : Bool} {xs : List Int32} {d : Nat} {m : xM} {g : xL} {G : xG} {a j : Nat} {y z : Int32} (h1 : G.1 a 1 = some (a + 2)) (hj : j < 6) : CT nf xs d 50 [.ref a, .int (Int32.ofNat j), .int y, .int z] m g G (PE none m (xu g (a + 2) j (stB z y (g (a + 2) j)))) := by
  refine CT.of (c := 5) (ini := false) (nL := 4) (rt := none) (tab := zt50) rfl (fun d' r h' N hd' hr => ?_)
  replace hr : RR nf xs d' 5 false 4 none zt50 G r h' N (0, [(0, .ref a), (1, .int (Int32.ofNat j)), (2, .int y), (3, .int z)], [], m, g) := hr
  have qj : (Int32.ofNat j).toInt = (j : Int) := xn_int (by omega)
  have k6 : (6 : Int32).toInt = 6 := rfl
  replace hr := hr.go (s_iload_n t50_0 rfl)
  rcases hr.zLt t50_1 with ⟨b1, hr⟩ | ⟨b1, hr⟩
  · exact absurd b1 (by omega)
  · replace hr := hr.go (s_iload_n t50_4 rfl)
    replace hr := hr.go (s_k t50_5)
    rcases hr.bLt t50_7 with ⟨b7, hr⟩ | ⟨b7, hr⟩
    · replace hr := hr.go (s_iload_n t50_11 rfl)
      rcases hr.zEq t50_12 with ⟨b12, hr⟩ | ⟨b12, hr⟩
      · replace hr := hr.go (s_aload_n t50_30 rfl)
        replace hr := hr.go (s_getr t50_31 (h1))
        replace hr := hr.go (s_iload_n t50_34 rfl)
        replace hr := hr.go (s_dup2 t50_35)
        replace hr := hr.go (s_laload t50_36)
        replace hr := hr.go (s_lconst t50_37)
        replace hr := hr.go (s_iload_n t50_38 rfl)
        replace hr := hr.go (s_lshl t50_39)
        replace hr := hr.go (s_ldc2 t50_40 rfl)
        replace hr := hr.go (s_lxor t50_43)
        replace hr := hr.go (s_land t50_44)
        replace hr := hr.go (s_lastore t50_45)
        rw [xn_nat (show j < 2147483648 by omega)] at hr
        obtain ⟨rfl, hs⟩ := hr.ret t50_46
        exact ⟨_, _, hs, rfl, rfl, by unfold stB; rw [if_pos b12]; rfl⟩
      · replace hr := hr.go (s_aload_n t50_15 rfl)
        replace hr := hr.go (s_getr t50_16 (h1))
        replace hr := hr.go (s_iload_n t50_19 rfl)
        replace hr := hr.go (s_dup2 t50_20)
        replace hr := hr.go (s_laload t50_21)
        replace hr := hr.go (s_lconst t50_22)
        replace hr := hr.go (s_iload_n t50_23 rfl)
        replace hr := hr.go (s_lshl t50_24)
        replace hr := hr.go (s_lor t50_25)
        replace hr := hr.go (s_lastore t50_26)
        rw [xn_nat (show j < 2147483648 by omega)] at hr
        replace hr := hr.go (s_goto t50_27)
        obtain ⟨rfl, hs⟩ := hr.ret t50_46
        exact ⟨_, _, hs, rfl, rfl, by unfold stB; rw [if_neg b12]; rfl⟩
    · exact absurd b7 (by omega)
/-- one more can be undone -/
def PSH (n : Nat) (kd w v : Int32) (m m' : xM) : Prop := (∀ c : Nat, c < 116 ∨ 119 < c → m' c = m c) ∧ m' 116 3 = Int32.ofNat (kN n) ∧ (∀ c : Nat, 117 ≤ c → c ≤ 119 → ∀ k : Nat, k + 1 < kN n → m' c k = m c (k + kS n)) ∧ m' 117 (kN n - 1) = kd ∧ m' 118 (kN n - 1) = w ∧ m' 119 (kN n - 1) = v
def GU (G : xG) : Prop := G.1 116 0 = some 117 ∧ G.1 116 1 = some 118 ∧ G.1 116 2 = some 119 ∧ ∀ c : Nat, 117 ≤ c → c ≤ 119 → ∃ L : Nat, G.2 c = (0, 1, L)
theorem sh95 {f f2 f0 : Nat → Int32} {k : Nat} (h : ∀ i : Nat, f i = if i < k then f0 (i + 1) else f0 i) (h2 : ∀ i : Nat, f2 i = if i = k then f (k + 1) else f i) : ∀ i : Nat, f2 i = if i < k + 1 then f0 (i + 1) else f0 i := by
  intro i
  rw [h2 i, h (k + 1), h i, if_neg (show ¬ k + 1 < k by omega)]
  by_cases e : i = k
  · rw [if_pos e, if_pos (by omega), e]
  · rw [if_neg e]
    by_cases f : i < k
    · rw [if_pos f, if_pos (by omega)]
    · rw [if_neg f, if_neg (by omega)]
theorem lp95 {nf : Bool} {xs : List Int32} {d : Nat} {g : xL} {G : xG} {r : Option Value} {h' : zH} {m0 : xM} (hG : GU G) : ∀ (N k : Nat) (m : xM), (∀ c : Nat, c < 117 ∨ 119 < c → m c = m0 c) → (∀ c : Nat, 117 ≤ c → c ≤ 119 → ∀ i : Nat, m c i = if i < k then m0 c (i + 1) else m0 c i) → k ≤ 19 → RR nf xs d 9 false 2 none zt95 G r h' N (2, [(1, .int (Int32.ofNat (k + 1))), (0, .ref 116)], [], m, g) → ∃ (m' : xM) (g' : xL), HS h' m' g' G ∧ PF none g (fun m' => (∀ c : Nat, c < 116 ∨ 119 < c → m' c = m0 c) ∧ m' 116 3 = 19 ∧ ∀ c : Nat, 117 ≤ c → c ≤ 119 → ∀ i : Nat, i < 19 → m' c i = m0 c (i + 1)) r m' g' := by
  intro N
  obtain ⟨L117, h117⟩ := hG.2.2.2 117 (by decide) (by decide)
  obtain ⟨L118, h118⟩ := hG.2.2.2 118 (by decide) (by decide)
  obtain ⟨L119, h119⟩ := hG.2.2.2 119 (by decide) (by decide)
  induction N with
  | zero => intro k m _ _ _ hr; exact hr.no.elim
  | succ N ih =>
    intro k m h1 h2 hk hr
    have qk : (Int32.ofNat (k + 1)).toInt = ((k + 1 : Nat) : Int) := xn_int (by omega)
    have k20 : (20 : Int32).toInt = 20 := rfl
    replace hr := hr.go1 (s_iload_n t95_2 rfl)
    replace hr := hr.go (s_k t95_3)
    rcases hr.bGe t95_5 with ⟨b5, hr⟩ | ⟨b5, hr⟩
    · replace hr := hr.go (s_aload_n t95_56 rfl)
      replace hr := hr.go (s_k t95_57)
      replace hr := hr.go (s_putf t95_59)
      obtain ⟨rfl, hs⟩ := hr.ret t95_62
      have k19 : k = 19 := by omega
      subst k19
      refine ⟨_, _, hs, rfl, rfl, fun c hc => ?_, xu_same, fun c c1 c2 i hi => ?_⟩
      · rw [xu_row (by omega)]; exact h1 c (by omega)
      · rw [xu_row (by omega), h2 c c1 c2 i, if_pos hi]
    · replace hr := hr.go (s_aload_n t95_8 rfl)
      replace hr := hr.go (s_getr t95_9 (hG.1))
      replace hr := hr.go (s_iload_n t95_12 rfl)
      replace hr := hr.go (s_k t95_13)
      replace hr := hr.go (s_isub t95_14)
      rw [xn_pred] at hr
      replace hr := hr.go (s_aload_n t95_15 rfl)
      replace hr := hr.go (s_getr t95_16 (hG.1))
      replace hr := hr.go (s_iload_n t95_19 rfl)
      replace hr := hr.go (s_iaload t95_20 (h117))
      replace hr := hr.go (s_iastore t95_21)
      replace hr := hr.go (s_aload_n t95_22 rfl)
      replace hr := hr.go (s_getr t95_23 (hG.2.1))
      replace hr := hr.go (s_iload_n t95_26 rfl)
      replace hr := hr.go (s_k t95_27)
      replace hr := hr.go (s_isub t95_28)
      rw [xn_pred] at hr
      replace hr := hr.go (s_aload_n t95_29 rfl)
      replace hr := hr.go (s_getr t95_30 (hG.2.1))
      replace hr := hr.go (s_iload_n t95_33 rfl)
      replace hr := hr.go (s_iaload t95_34 (h118))
      replace hr := hr.go (s_iastore t95_35)
      replace hr := hr.go (s_aload_n t95_36 rfl)
      replace hr := hr.go (s_getr t95_37 (hG.2.2.1))
      replace hr := hr.go (s_iload_n t95_40 rfl)
      replace hr := hr.go (s_k t95_41)
      replace hr := hr.go (s_isub t95_42)
      rw [xn_pred] at hr
      replace hr := hr.go (s_aload_n t95_43 rfl)
      replace hr := hr.go (s_getr t95_44 (hG.2.2.1))
      replace hr := hr.go (s_iload_n t95_47 rfl)
      replace hr := hr.go (s_iaload t95_48 (h119))
      replace hr := hr.go (s_iastore t95_49)
      rw [xn_nat (show k < 2147483648 by omega), xn_nat (show k + 1 < 2147483648 by omega)] at hr
      replace hr := hr.go (s_iinc (ls' := [(1, _), (0, _)]) t95_50 rfl rfl)
      rw [xn_1i] at hr
      replace hr := hr.go (s_goto t95_53)
      refine ih (k + 1) _ (fun c hc => ?_) (fun c c1 c2 => sh95 (h2 c c1 c2) (fun i => ?_)) (by omega) hr
      · repeat rw [xu_row (by omega)]
        exact h1 c hc
      · rcases (show c = 117 ∨ c = 118 ∨ c = 119 by omega) with rfl | rfl | rfl
        · rw [xu_row (a := 119) (by decide), xu_row (a := 118) (by decide)]; exact xu_at
        · rw [xu_row (a := 119) (by decide), xu_at, xu_row (a := 117) (by decide)]
        · rw [xu_at, xu_row (a := 118) (by decide), xu_row (a := 117) (by decide)]
theorem ct_drop {nf : Bool} {xs : List Int32} {d : Nat} {m : xM} {g : xL} {G : xG} (hG : GU G) : CT nf xs d 95 [.ref 116] m g G (PF none g (fun m' => (∀ c : Nat, c < 116 ∨ 119 < c → m' c = m c) ∧ m' 116 3 = 19 ∧ ∀ c : Nat, 117 ≤ c → c ≤ 119 → ∀ i : Nat, i < 19 → m' c i = m c (i + 1))) := by
  refine CT.of (c := 9) (ini := false) (nL := 2) (rt := none) (tab := zt95) rfl (fun d' r h' N hd hr => ?_)
  replace hr : RR nf xs d' 9 false 2 (none) zt95 G r h' N (0, [(0, .ref 116)], [], m, g) := hr
  have k1 : (1 : Int32).toInt = 1 := rfl
  have k19 : (19 : Int32).toInt = 19 := rfl
  have k20 : (20 : Int32).toInt = 20 := rfl
  replace hr := hr.go (s_k t95_0)
  replace hr := hr.go (s_istore_n (ls' := [(1, _), (0, _)]) t95_1 rfl)
  exact lp95 hG _ 0 m (fun c _ => rfl) (fun c _ _ i => by rw [if_neg (Nat.not_lt_zero i)]) (by decide) hr
theorem en94 {nf : Bool} {xs : List Int32} {d : Nat} {g : xL} {G : xG} {r : Option Value} {h' : zH} {N n : Nat} {m : xM} {kd w v : Int32} (hG : GU G) (hn : n < 20) (h3 : m 116 3 = Int32.ofNat n) (hr : RR nf xs d 9 false 4 none zt94 G r h' N (13, [(0, .ref 116), (1, .int kd), (2, .int w), (3, .int v)], [], m, g)) : ∃ (m' : xM) (g' : xL), HS h' m' g' G ∧ PF none g (fun m' => (∀ c : Nat, c < 116 ∨ 119 < c → m' c = m c) ∧ m' 116 3 = Int32.ofNat (n + 1) ∧ (∀ c : Nat, 117 ≤ c → c ≤ 119 → ∀ i : Nat, ¬ i = n → m' c i = m c i) ∧ m' 117 n = kd ∧ m' 118 n = w ∧ m' 119 n = v) r m' g' := by
  obtain ⟨L117, h117⟩ := hG.2.2.2 117 (by decide) (by decide)
  obtain ⟨L118, h118⟩ := hG.2.2.2 118 (by decide) (by decide)
  obtain ⟨L119, h119⟩ := hG.2.2.2 119 (by decide) (by decide)
  have qn : (Int32.ofNat n).toInt = (n : Int) := xn_int (by omega)
  have k20 : (20 : Int32).toInt = 20 := rfl
  replace hr := hr.go (s_aload_n t94_13 rfl)
  replace hr := hr.go (s_getf t94_14)
  rw [h3] at hr
  replace hr := hr.go (s_k t94_17)
  rcases hr.bGe t94_19 with ⟨b19, hr⟩ | ⟨b19, hr⟩
  · exact absurd b19 (by omega)
  · replace hr := hr.go (s_aload_n t94_22 rfl)
    replace hr := hr.go (s_getr t94_23 (hG.1))
    replace hr := hr.go (s_aload_n t94_26 rfl)
    replace hr := hr.go (s_getf t94_27)
    rw [h3] at hr
    replace hr := hr.go (s_iload_n t94_30 rfl)
    replace hr := hr.go (s_iastore t94_31)
    rw [xn_nat (show n < 2147483648 by omega)] at hr
    replace hr := hr.go (s_aload_n t94_32 rfl)
    replace hr := hr.go (s_getr t94_33 (hG.2.1))
    replace hr := hr.go (s_aload_n t94_36 rfl)
    replace hr := hr.go (s_getf t94_37)
    rw [xu_row (m := m) (a := 117) (b := 116) (by decide), h3] at hr
    replace hr := hr.go (s_iload_n t94_40 rfl)
    replace hr := hr.go (s_iastore t94_41)
    rw [xn_nat (show n < 2147483648 by omega)] at hr
    replace hr := hr.go (s_aload_n t94_42 rfl)
    replace hr := hr.go (s_getr t94_43 (hG.2.2.1))
    replace hr := hr.go (s_aload_n t94_46 rfl)
    replace hr := hr.go (s_getf t94_47)
    rw [xu_row (a := 118) (b := 116) (by decide), xu_row (m := m) (a := 117) (b := 116) (by decide), h3] at hr
    replace hr := hr.go (s_iload_n t94_50 rfl)
    replace hr := hr.go (s_iastore t94_51)
    rw [xn_nat (show n < 2147483648 by omega)] at hr
    replace hr := hr.go (s_aload_n t94_52 rfl)
    replace hr := hr.go (s_dup t94_53 rfl)
    replace hr := hr.go (s_getf t94_54)
    rw [xu_row (a := 119) (b := 116) (by decide), xu_row (a := 118) (b := 116) (by decide), xu_row (m := m) (a := 117) (b := 116) (by decide), h3] at hr
    replace hr := hr.go (s_k t94_57)
    replace hr := hr.go (s_iadd t94_58)
    replace hr := hr.go (s_putf t94_59)
    obtain ⟨rfl, hs⟩ := hr.ret t94_62
    refine ⟨_, _, hs, rfl, rfl, fun c hc => ?_, ?_, fun c c1 c2 i hi => ?_, ?_, ?_, ?_⟩
    · repeat rw [xu_row (by omega)]
    · rw [xu_same, xn_1]
    · rw [xu_row (show ¬ c = 116 by omega)]
      repeat rw [xu_oth (fun z => hi z.2)]
    · rw [xu_row (by decide), xu_row (by decide), xu_row (by decide)]; exact xu_same
    · rw [xu_row (by decide), xu_row (by decide)]; exact xu_same
    · rw [xu_row (by decide)]; exact xu_same
theorem ct_push {nf : Bool} {xs : List Int32} {d : Nat} {m : xM} {g : xL} {G : xG} {n : Nat} {kd w v : Int32} (hG : GU G) (hn : n ≤ 20) (h3 : m 116 3 = Int32.ofNat n) : CT nf xs d 94 [.ref 116, .int kd, .int w, .int v] m g G (PF none g (fun m' => PSH n kd w v m m')) := by
  refine CT.of (c := 9) (ini := false) (nL := 4) (rt := none) (tab := zt94) rfl (fun d' r h' N hd hr => ?_)
  replace hr : RR nf xs d' 9 false 4 (none) zt94 G r h' N (0, [(0, .ref 116), (1, .int kd), (2, .int w), (3, .int v)], [], m, g) := hr
  have k1 : (1 : Int32).toInt = 1 := rfl
  have k20 : (20 : Int32).toInt = 20 := rfl
  have qn : (Int32.ofNat n).toInt = (n : Int) := xn_int (by omega)
  replace hr := hr.go (s_aload_n t94_0 rfl)
  replace hr := hr.go (s_getf t94_1)
  rw [h3] at hr
  replace hr := hr.go (s_k t94_4)
  rcases hr.bLt t94_6 with ⟨b6, hr⟩ | ⟨b6, hr⟩
  · have hn2 : ¬ n = 20 := by omega
    obtain ⟨m', g', hs, e1, e2, e3, e4, e5, e6, e7, e8⟩ := en94 hG (by omega) h3 hr
    have q0 : kS n = 0 := if_neg hn2
    have q1 : kN n = n + 1 := if_neg hn2
    refine ⟨m', g', hs, e1, e2, e3, by rw [q1]; exact e4, fun c a1 a2 k hk => ?_, ?_, ?_, ?_⟩
    · rw [q1] at hk
      rw [q0]
      exact e5 c a1 a2 k (by omega)
    · rw [q1]; exact e6
    · rw [q1]; exact e7
    · rw [q1]; exact e8
  · replace hr := hr.go (s_aload_n t94_9 rfl)
    obtain ⟨m1, ⟨c1, c2, c3⟩, hr2⟩ := hr.fvN t94_10 rfl rfl (ct_drop hG)
    have hn2 : n = 20 := by omega
    subst hn2
    obtain ⟨m', g', hs, e1, e2, e3, e4, e5, e6, e7, e8⟩ := en94 (n := 19) hG (by decide) c2 hr2
    refine ⟨m', g', hs, e1, e2, fun c hc => (e3 c hc).trans (c1 c hc), e4, fun c a1 a2 k hk => ?_, e6, e7, e8⟩
    have hk : k + 1 < 20 := hk
    exact (e5 c a1 a2 k (by omega)).trans (c3 c a1 a2 k (by omega))
theorem ct_pop0 {nf : Bool} {xs : List Int32} {d : Nat} {m : xM} {g : xL} {G : xG} (h3 : m 116 3 = 0) : CT nf xs d 96 [.ref 116] m g G (PE (some (.int 0)) m g) := by
  refine CT.of (c := 9) (ini := false) (nL := 1) (rt := some .int) (tab := zt96) rfl (fun d' r h' N hd hr => ?_)
  replace hr : RR nf xs d' 9 false 1 (some .int) zt96 G r h' N (0, [(0, .ref 116)], [], m, g) := hr
  have k1 : (1 : Int32).toInt = 1 := rfl
  have k20 : (20 : Int32).toInt = 20 := rfl
  replace hr := hr.go (s_aload_n t96_0 rfl)
  replace hr := hr.go (s_getf t96_1)
  rw [h3] at hr
  rcases hr.zLe t96_4 with ⟨b4, hr⟩ | ⟨b4, hr⟩
  · replace hr := hr.go (s_k t96_16)
    obtain ⟨rfl, hs⟩ := hr.iret t96_17
    exact ⟨_, _, hs, rfl, rfl, rfl⟩
  · exact absurd b4 (by decide)
theorem ct_pop {nf : Bool} {xs : List Int32} {d : Nat} {m : xM} {g : xL} {G : xG} {n : Nat} (hG : GU G) (hn : n < 20) (h3 : m 116 3 = Int32.ofNat (n + 1)) : CT nf xs d 96 [.ref 116] m g G (PF (some (.int (m 117 n))) g (fun m' => m' 116 3 = Int32.ofNat n ∧ m' 116 4 = m 118 n ∧ m' 116 5 = m 119 n ∧ ∀ c : Nat, ¬ c = 116 → m' c = m c)) := by
  refine CT.of (c := 9) (ini := false) (nL := 1) (rt := some .int) (tab := zt96) rfl (fun d' r h' N hd hr => ?_)
  replace hr : RR nf xs d' 9 false 1 (some .int) zt96 G r h' N (0, [(0, .ref 116)], [], m, g) := hr
  have k1 : (1 : Int32).toInt = 1 := rfl
  have k20 : (20 : Int32).toInt = 20 := rfl
  have qn : (Int32.ofNat (n + 1)).toInt = ((n + 1 : Nat) : Int) := xn_int (by omega)
  obtain ⟨L117, h117⟩ := hG.2.2.2 117 (by decide) (by decide)
  obtain ⟨L118, h118⟩ := hG.2.2.2 118 (by decide) (by decide)
  obtain ⟨L119, h119⟩ := hG.2.2.2 119 (by decide) (by decide)
  replace hr := hr.go (s_aload_n t96_0 rfl)
  replace hr := hr.go (s_getf t96_1)
  rw [h3] at hr
  rcases hr.zLe t96_4 with ⟨b4, hr⟩ | ⟨b4, hr⟩
  · exact absurd b4 (by omega)
  · replace hr := hr.go (s_aload_n t96_7 rfl)
    replace hr := hr.go (s_getf t96_8)
    rw [h3] at hr
    replace hr := hr.go (s_k t96_11)
    rcases hr.bLe t96_13 with ⟨b13, hr⟩ | ⟨b13, hr⟩
    · replace hr := hr.go (s_aload_n t96_18 rfl)
      replace hr := hr.go (s_dup t96_19 rfl)
      replace hr := hr.go (s_getf t96_20)
      rw [h3] at hr
      replace hr := hr.go (s_k t96_23)
      replace hr := hr.go (s_isub t96_24)
      rw [xn_pred] at hr
      replace hr := hr.go (s_putf t96_25)
      replace hr := hr.go (s_aload_n t96_28 rfl)
      replace hr := hr.go (s_aload_n t96_29 rfl)
      replace hr := hr.go (s_getr t96_30 (hG.2.1))
      replace hr := hr.go (s_aload_n t96_33 rfl)
      replace hr := hr.go (s_getf t96_34)
      rw [xu_same] at hr
      replace hr := hr.go (s_iaload t96_37 (h118))
      rw [xn_nat (show n < 2147483648 by omega)] at hr
      rw [xu_row (m := m) (a := 116) (b := 118) (by decide)] at hr
      replace hr := hr.go (s_putf t96_38)
      replace hr := hr.go (s_aload_n t96_41 rfl)
      replace hr := hr.go (s_aload_n t96_42 rfl)
      replace hr := hr.go (s_getr t96_43 (hG.2.2.1))
      replace hr := hr.go (s_aload_n t96_46 rfl)
      replace hr := hr.go (s_getf t96_47)
      rw [xu_oth (a := 116) (k := 4) (b := 116) (j := 3) (by decide), xu_same] at hr
      replace hr := hr.go (s_iaload t96_50 (h119))
      rw [xn_nat (show n < 2147483648 by omega)] at hr
      rw [xu_row (a := 116) (b := 119) (by decide), xu_row (m := m) (a := 116) (b := 119) (by decide)] at hr
      replace hr := hr.go (s_putf t96_51)
      replace hr := hr.go (s_aload_n t96_54 rfl)
      replace hr := hr.go (s_getr t96_55 (hG.1))
      replace hr := hr.go (s_aload_n t96_58 rfl)
      replace hr := hr.go (s_getf t96_59)
      rw [xu_oth (a := 116) (k := 5) (b := 116) (j := 3) (by decide), xu_oth (a := 116) (k := 4) (b := 116) (j := 3) (by decide), xu_same] at hr
      replace hr := hr.go (s_iaload t96_62 (h117))
      rw [xn_nat (show n < 2147483648 by omega)] at hr
      rw [xu_row (a := 116) (b := 117) (by decide), xu_row (a := 116) (b := 117) (by decide), xu_row (m := m) (a := 116) (b := 117) (by decide)] at hr
      obtain ⟨rfl, hs⟩ := hr.iret t96_63
      refine ⟨_, _, hs, rfl, rfl, ?_, ?_, xu_same, fun c hc => ?_⟩
      · rw [xu_oth (by decide), xu_oth (by decide)]; exact xu_same
      · rw [xu_oth (by decide)]; exact xu_same
      · repeat rw [xu_row hc]
    · exact absurd b13 (by omega)
