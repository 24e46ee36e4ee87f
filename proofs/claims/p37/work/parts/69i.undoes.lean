/-! Joined: 69i.undoes, 69j.clsdo, 69k.refdo, 69l.told, 69m.pop, 69n.joke. -/
section
/-! The class: tellings as bits, what can be undone, ears, seat, tell, undo (by program: wip/x/gV4.py). -/
theorem t104_0 : xt zt104 0 1 (.iload_n 1) := ⟨rfl, rfl⟩
theorem t104_1 : xtb zt104 1 4 22 (.ifCond .lt 21) (21) := ⟨rfl, rfl, rfl⟩
theorem t104_4 : xt zt104 4 5 (.iload_n 1) := ⟨rfl, rfl⟩
theorem t104_5 : xt zt104 5 6 (.aload_n 0) := ⟨rfl, rfl⟩
theorem t104_6 : xtf zt104 10 6 9 (.getfield 33) 33 10 5 3 := ⟨rfl, rfl, rfl, rfl⟩
theorem t104_9 : xtf zt104 10 9 12 (.getfield 123) 123 3 2 3 := ⟨rfl, rfl, rfl, rfl⟩
theorem t104_12 : xtf zt104 10 12 15 (.getfield 129) 129 7 3 1 := ⟨rfl, rfl, rfl, rfl⟩
theorem t104_15 : xtb zt104 15 18 22 (.if_icmp .ge 7) (7) := ⟨rfl, rfl, rfl⟩
theorem t104_18 : xtk zt104 18 19 (1) := Or.inl ⟨1, ⟨rfl, rfl⟩, by decide⟩
theorem t104_19 : xtb zt104 19 22 23 (.goto 4) (4) := ⟨rfl, rfl, rfl⟩
theorem t104_22 : xtk zt104 22 23 (0) := Or.inl ⟨0, ⟨rfl, rfl⟩, by decide⟩
theorem t104_23 : xt zt104 23 24 .ireturn := ⟨rfl, rfl⟩
theorem t49_0 : xt zt49 0 1 (.iload_n 1) := ⟨rfl, rfl⟩
theorem t49_1 : xtb zt49 1 4 29 (.ifCond .lt 28) (28) := ⟨rfl, rfl, rfl⟩
theorem t49_4 : xt zt49 4 5 (.iload_n 1) := ⟨rfl, rfl⟩
theorem t49_5 : xtk zt49 5 7 (6) := Or.inr (Or.inl ⟨6, ⟨rfl, rfl⟩, by decide⟩)
theorem t49_7 : xtb zt49 7 10 29 (.if_icmp .ge 22) (22) := ⟨rfl, rfl, rfl⟩
theorem t49_10 : xt zt49 10 11 (.aload_n 0) := ⟨rfl, rfl⟩
theorem t49_11 : xtf zt49 5 11 14 (.getfield 17) 17 5 1 3 := ⟨rfl, rfl, rfl, rfl⟩
theorem t49_14 : xt zt49 14 15 (.iload_n 1) := ⟨rfl, rfl⟩
theorem t49_15 : xt zt49 15 16 .laload := ⟨rfl, rfl⟩
theorem t49_16 : xt zt49 16 17 (.iload_n 2) := ⟨rfl, rfl⟩
theorem t49_17 : xt zt49 17 18 .lushr := ⟨rfl, rfl⟩
theorem t49_18 : xt zt49 18 19 (.lconst 1) := ⟨rfl, rfl⟩
theorem t49_19 : xt zt49 19 20 .land := ⟨rfl, rfl⟩
theorem t49_20 : xt zt49 20 21 (.lconst 1) := ⟨rfl, rfl⟩
theorem t49_21 : xt zt49 21 22 .lcmp := ⟨rfl, rfl⟩
theorem t49_22 : xtb zt49 22 25 29 (.ifCond .ne 7) (7) := ⟨rfl, rfl, rfl⟩
theorem t49_25 : xtk zt49 25 26 (1) := Or.inl ⟨1, ⟨rfl, rfl⟩, by decide⟩
theorem t49_26 : xtb zt49 26 29 30 (.goto 4) (4) := ⟨rfl, rfl, rfl⟩
theorem t49_29 : xtk zt49 29 30 (0) := Or.inl ⟨0, ⟨rfl, rfl⟩, by decide⟩
theorem t49_30 : xt zt49 30 31 .ireturn := ⟨rfl, rfl⟩
theorem t114_0 : xt zt114 0 1 (.aload_n 0) := ⟨rfl, rfl⟩
theorem t114_1 : xt zt114 1 2 (.iload_n 1) := ⟨rfl, rfl⟩
theorem t114_2 : xtc zt114 10 2 5 (.invokevirtual 132) 132 1 103 1 := ⟨rfl, rfl, rfl⟩
theorem t114_5 : xtb zt114 5 8 24 (.ifCond .eq 19) (19) := ⟨rfl, rfl, rfl⟩
theorem t114_8 : xt zt114 8 9 (.aload_n 0) := ⟨rfl, rfl⟩
theorem t114_9 : xtf zt114 10 9 12 (.getfield 45) 45 10 7 3 := ⟨rfl, rfl, rfl, rfl⟩
theorem t114_12 : xtf zt114 10 12 15 (.getfield 143) 143 5 0 3 := ⟨rfl, rfl, rfl, rfl⟩
theorem t114_15 : xt zt114 15 16 (.iload_n 1) := ⟨rfl, rfl⟩
theorem t114_16 : xt zt114 16 17 .aaload := ⟨rfl, rfl⟩
theorem t114_17 : xtf zt114 10 17 20 (.getfield 179) 179 2 4 1 := ⟨rfl, rfl, rfl, rfl⟩
theorem t114_20 : xt zt114 20 21 (.iload_n 2) := ⟨rfl, rfl⟩
theorem t114_21 : xtb zt114 21 24 26 (.if_icmp .ne 5) (5) := ⟨rfl, rfl, rfl⟩
theorem t114_24 : xtk zt114 24 25 (0) := Or.inl ⟨0, ⟨rfl, rfl⟩, by decide⟩
theorem t114_25 : xt zt114 25 26 .ireturn := ⟨rfl, rfl⟩
theorem t114_26 : xt zt114 26 27 (.aload_n 0) := ⟨rfl, rfl⟩
theorem t114_27 : xtf zt114 10 27 30 (.getfield 45) 45 10 7 3 := ⟨rfl, rfl, rfl, rfl⟩
theorem t114_30 : xtf zt114 10 30 33 (.getfield 143) 143 5 0 3 := ⟨rfl, rfl, rfl, rfl⟩
theorem t114_33 : xt zt114 33 34 (.iload_n 1) := ⟨rfl, rfl⟩
theorem t114_34 : xt zt114 34 35 .aaload := ⟨rfl, rfl⟩
theorem t114_35 : xt zt114 35 36 (.iload_n 2) := ⟨rfl, rfl⟩
theorem t114_36 : xtf zt114 10 36 39 (.putfield 179) 179 2 4 1 := ⟨rfl, rfl, rfl, rfl⟩
theorem t114_39 : xt zt114 39 40 (.aload_n 0) := ⟨rfl, rfl⟩
theorem t114_40 : xtf zt114 10 40 43 (.getfield 72) 72 10 13 3 := ⟨rfl, rfl, rfl, rfl⟩
theorem t114_43 : xtk zt114 43 44 (1) := Or.inl ⟨1, ⟨rfl, rfl⟩, by decide⟩
theorem t114_44 : xt zt114 44 45 (.iload_n 1) := ⟨rfl, rfl⟩
theorem t114_45 : xt zt114 45 46 (.iload_n 2) := ⟨rfl, rfl⟩
theorem t114_46 : xtb zt114 46 49 53 (.ifCond .eq 7) (7) := ⟨rfl, rfl, rfl⟩
theorem t114_49 : xtk zt114 49 50 (0) := Or.inl ⟨0, ⟨rfl, rfl⟩, by decide⟩
theorem t114_50 : xtb zt114 50 53 54 (.goto 4) (4) := ⟨rfl, rfl, rfl⟩
theorem t114_53 : xtk zt114 53 54 (1) := Or.inl ⟨1, ⟨rfl, rfl⟩, by decide⟩
theorem t114_54 : xtc zt114 10 54 57 (.invokevirtual 277) 277 1 94 3 := ⟨rfl, rfl, rfl⟩
theorem t114_57 : xtk zt114 57 58 (1) := Or.inl ⟨1, ⟨rfl, rfl⟩, by decide⟩
theorem t114_58 : xt zt114 58 59 .ireturn := ⟨rfl, rfl⟩
theorem t115_0 : xt zt115 0 1 (.aload_n 0) := ⟨rfl, rfl⟩
theorem t115_1 : xt zt115 1 2 (.iload_n 1) := ⟨rfl, rfl⟩
theorem t115_2 : xtc zt115 10 2 5 (.invokevirtual 132) 132 1 103 1 := ⟨rfl, rfl, rfl⟩
theorem t115_5 : xtb zt115 5 8 18 (.ifCond .eq 13) (13) := ⟨rfl, rfl, rfl⟩
theorem t115_8 : xt zt115 8 9 (.iload_n 2) := ⟨rfl, rfl⟩
theorem t115_9 : xtb zt115 9 12 18 (.ifCond .lt 9) (9) := ⟨rfl, rfl, rfl⟩
theorem t115_12 : xt zt115 12 13 (.iload_n 2) := ⟨rfl, rfl⟩
theorem t115_13 : xtk zt115 13 15 (9) := Or.inr (Or.inl ⟨9, ⟨rfl, rfl⟩, by decide⟩)
theorem t115_15 : xtb zt115 15 18 20 (.if_icmp .le 5) (5) := ⟨rfl, rfl, rfl⟩
theorem t115_18 : xtk zt115 18 19 (0) := Or.inl ⟨0, ⟨rfl, rfl⟩, by decide⟩
theorem t115_19 : xt zt115 19 20 .ireturn := ⟨rfl, rfl⟩
theorem t115_20 : xt zt115 20 21 (.aload_n 0) := ⟨rfl, rfl⟩
theorem t115_21 : xtf zt115 10 21 24 (.getfield 45) 45 10 7 3 := ⟨rfl, rfl, rfl, rfl⟩
theorem t115_24 : xtf zt115 10 24 27 (.getfield 143) 143 5 0 3 := ⟨rfl, rfl, rfl, rfl⟩
theorem t115_27 : xt zt115 27 28 (.iload_n 1) := ⟨rfl, rfl⟩
theorem t115_28 : xt zt115 28 29 .aaload := ⟨rfl, rfl⟩
theorem t115_29 : xt zt115 29 30 (.astore_n 3) := ⟨rfl, rfl⟩
theorem t115_30 : xt zt115 30 31 (.aload_n 3) := ⟨rfl, rfl⟩
theorem t115_31 : xtf zt115 10 31 34 (.getfield 156) 156 2 2 1 := ⟨rfl, rfl, rfl, rfl⟩
theorem t115_34 : xt zt115 34 35 (.iload_n 2) := ⟨rfl, rfl⟩
theorem t115_35 : xtb zt115 35 38 40 (.if_icmp .ne 5) (5) := ⟨rfl, rfl, rfl⟩
theorem t115_38 : xtk zt115 38 39 (0) := Or.inl ⟨0, ⟨rfl, rfl⟩, by decide⟩
theorem t115_39 : xt zt115 39 40 .ireturn := ⟨rfl, rfl⟩
theorem t115_40 : xt zt115 40 41 (.aload_n 0) := ⟨rfl, rfl⟩
theorem t115_41 : xtf zt115 10 41 44 (.getfield 72) 72 10 13 3 := ⟨rfl, rfl, rfl, rfl⟩
theorem t115_44 : xtk zt115 44 45 (2) := Or.inl ⟨2, ⟨rfl, rfl⟩, by decide⟩
theorem t115_45 : xt zt115 45 46 (.iload_n 1) := ⟨rfl, rfl⟩
theorem t115_46 : xt zt115 46 47 (.aload_n 3) := ⟨rfl, rfl⟩
theorem t115_47 : xtf zt115 10 47 50 (.getfield 156) 156 2 2 1 := ⟨rfl, rfl, rfl, rfl⟩
theorem t115_50 : xtc zt115 10 50 53 (.invokevirtual 277) 277 1 94 3 := ⟨rfl, rfl, rfl⟩
theorem t115_53 : xt zt115 53 54 (.aload_n 3) := ⟨rfl, rfl⟩
theorem t115_54 : xt zt115 54 55 (.iload_n 2) := ⟨rfl, rfl⟩
theorem t115_55 : xtf zt115 10 55 58 (.putfield 156) 156 2 2 1 := ⟨rfl, rfl, rfl, rfl⟩
theorem t115_58 : xtk zt115 58 59 (1) := Or.inl ⟨1, ⟨rfl, rfl⟩, by decide⟩
theorem t115_59 : xt zt115 59 60 .ireturn := ⟨rfl, rfl⟩
theorem t116_0 : xt zt116 0 1 (.aload_n 0) := ⟨rfl, rfl⟩
theorem t116_1 : xt zt116 1 2 (.iload_n 1) := ⟨rfl, rfl⟩
theorem t116_2 : xtc zt116 10 2 5 (.invokevirtual 185) 185 1 104 1 := ⟨rfl, rfl, rfl⟩
theorem t116_5 : xtb zt116 5 8 28 (.ifCond .eq 23) (23) := ⟨rfl, rfl, rfl⟩
theorem t116_8 : xt zt116 8 9 (.iload_n 2) := ⟨rfl, rfl⟩
theorem t116_9 : xtc zt116 10 9 12 (.invokestatic 201) 201 2 105 1 := ⟨rfl, rfl, rfl⟩
theorem t116_12 : xtb zt116 12 15 28 (.ifCond .eq 16) (16) := ⟨rfl, rfl, rfl⟩
theorem t116_15 : xt zt116 15 16 (.aload_n 0) := ⟨rfl, rfl⟩
theorem t116_16 : xtf zt116 10 16 19 (.getfield 45) 45 10 7 3 := ⟨rfl, rfl, rfl, rfl⟩
theorem t116_19 : xt zt116 19 20 (.iload_n 1) := ⟨rfl, rfl⟩
theorem t116_20 : xt zt116 20 21 (.iload_n 2) := ⟨rfl, rfl⟩
theorem t116_21 : xtc zt116 10 21 24 (.invokevirtual 204) 204 1 49 2 := ⟨rfl, rfl, rfl⟩
theorem t116_24 : xt zt116 24 25 (.iload_n 3) := ⟨rfl, rfl⟩
theorem t116_25 : xtb zt116 25 28 30 (.if_icmp .ne 5) (5) := ⟨rfl, rfl, rfl⟩
theorem t116_28 : xtk zt116 28 29 (0) := Or.inl ⟨0, ⟨rfl, rfl⟩, by decide⟩
theorem t116_29 : xt zt116 29 30 .ireturn := ⟨rfl, rfl⟩
theorem t116_30 : xt zt116 30 31 (.aload_n 0) := ⟨rfl, rfl⟩
theorem t116_31 : xtf zt116 10 31 34 (.getfield 45) 45 10 7 3 := ⟨rfl, rfl, rfl, rfl⟩
theorem t116_34 : xt zt116 34 35 (.iload_n 1) := ⟨rfl, rfl⟩
theorem t116_35 : xt zt116 35 36 (.iload_n 2) := ⟨rfl, rfl⟩
theorem t116_36 : xt zt116 36 37 (.iload_n 3) := ⟨rfl, rfl⟩
theorem t116_37 : xtc zt116 10 37 40 (.invokevirtual 281) 281 1 50 3 := ⟨rfl, rfl, rfl⟩
theorem t116_40 : xt zt116 40 41 (.aload_n 0) := ⟨rfl, rfl⟩
theorem t116_41 : xtf zt116 10 41 44 (.getfield 72) 72 10 13 3 := ⟨rfl, rfl, rfl, rfl⟩
theorem t116_44 : xtk zt116 44 45 (3) := Or.inl ⟨3, ⟨rfl, rfl⟩, by decide⟩
theorem t116_45 : xt zt116 45 46 (.iload_n 1) := ⟨rfl, rfl⟩
theorem t116_46 : xt zt116 46 47 (.iload_n 2) := ⟨rfl, rfl⟩
theorem t116_47 : xtc zt116 10 47 50 (.invokevirtual 277) 277 1 94 3 := ⟨rfl, rfl, rfl⟩
theorem t116_50 : xtk zt116 50 51 (1) := Or.inl ⟨1, ⟨rfl, rfl⟩, by decide⟩
theorem t116_51 : xt zt116 51 52 .ireturn := ⟨rfl, rfl⟩
theorem t117_0 : xt zt117 0 1 (.aload_n 0) := ⟨rfl, rfl⟩
theorem t117_1 : xtf zt117 10 1 4 (.getfield 72) 72 10 13 3 := ⟨rfl, rfl, rfl, rfl⟩
theorem t117_4 : xtc zt117 10 4 7 (.invokevirtual 285) 285 1 96 0 := ⟨rfl, rfl, rfl⟩
theorem t117_7 : xt zt117 7 8 (.istore_n 1) := ⟨rfl, rfl⟩
theorem t117_8 : xt zt117 8 9 (.aload_n 0) := ⟨rfl, rfl⟩
theorem t117_9 : xtf zt117 10 9 12 (.getfield 72) 72 10 13 3 := ⟨rfl, rfl, rfl, rfl⟩
theorem t117_12 : xtf zt117 10 12 15 (.getfield 288) 288 9 4 1 := ⟨rfl, rfl, rfl, rfl⟩
theorem t117_15 : xt zt117 15 16 (.istore_n 2) := ⟨rfl, rfl⟩
theorem t117_16 : xt zt117 16 17 (.aload_n 0) := ⟨rfl, rfl⟩
theorem t117_17 : xtf zt117 10 17 20 (.getfield 72) 72 10 13 3 := ⟨rfl, rfl, rfl, rfl⟩
theorem t117_20 : xtf zt117 10 20 23 (.getfield 291) 291 9 5 1 := ⟨rfl, rfl, rfl, rfl⟩
theorem t117_23 : xt zt117 23 24 (.istore_n 3) := ⟨rfl, rfl⟩
theorem t117_24 : xt zt117 24 25 (.iload_n 1) := ⟨rfl, rfl⟩
theorem t117_25 : xtb zt117 25 28 30 (.ifCond .ne 5) (5) := ⟨rfl, rfl, rfl⟩
theorem t117_28 : xtk zt117 28 29 (-1) := Or.inl ⟨-1, ⟨rfl, rfl⟩, by decide⟩
theorem t117_29 : xt zt117 29 30 .ireturn := ⟨rfl, rfl⟩
theorem t117_30 : xt zt117 30 31 (.iload_n 1) := ⟨rfl, rfl⟩
theorem t117_31 : xtk zt117 31 32 (3) := Or.inl ⟨3, ⟨rfl, rfl⟩, by decide⟩
theorem t117_32 : xtb zt117 32 35 72 (.if_icmp .ne 40) (40) := ⟨rfl, rfl, rfl⟩
theorem t117_35 : xt zt117 35 36 (.aload_n 0) := ⟨rfl, rfl⟩
theorem t117_36 : xt zt117 36 37 (.iload_n 2) := ⟨rfl, rfl⟩
theorem t117_37 : xtc zt117 10 37 40 (.invokevirtual 185) 185 1 104 1 := ⟨rfl, rfl, rfl⟩
theorem t117_40 : xtb zt117 40 43 72 (.ifCond .eq 32) (32) := ⟨rfl, rfl, rfl⟩
theorem t117_43 : xt zt117 43 44 (.aload_n 0) := ⟨rfl, rfl⟩
theorem t117_44 : xtf zt117 10 44 47 (.getfield 45) 45 10 7 3 := ⟨rfl, rfl, rfl, rfl⟩
theorem t117_47 : xt zt117 47 48 (.iload_n 2) := ⟨rfl, rfl⟩
theorem t117_48 : xt zt117 48 49 (.iload_n 3) := ⟨rfl, rfl⟩
theorem t117_49 : xt zt117 49 50 (.aload_n 0) := ⟨rfl, rfl⟩
theorem t117_50 : xtf zt117 10 50 53 (.getfield 45) 45 10 7 3 := ⟨rfl, rfl, rfl, rfl⟩
theorem t117_53 : xt zt117 53 54 (.iload_n 2) := ⟨rfl, rfl⟩
theorem t117_54 : xt zt117 54 55 (.iload_n 3) := ⟨rfl, rfl⟩
theorem t117_55 : xtc zt117 10 55 58 (.invokevirtual 204) 204 1 49 2 := ⟨rfl, rfl, rfl⟩
theorem t117_58 : xtb zt117 58 61 65 (.ifCond .ne 7) (7) := ⟨rfl, rfl, rfl⟩
theorem t117_61 : xtk zt117 61 62 (1) := Or.inl ⟨1, ⟨rfl, rfl⟩, by decide⟩
theorem t117_62 : xtb zt117 62 65 66 (.goto 4) (4) := ⟨rfl, rfl, rfl⟩
theorem t117_65 : xtk zt117 65 66 (0) := Or.inl ⟨0, ⟨rfl, rfl⟩, by decide⟩
theorem t117_66 : xtc zt117 10 66 69 (.invokevirtual 281) 281 1 50 3 := ⟨rfl, rfl, rfl⟩
theorem t117_69 : xtb zt117 69 72 136 (.goto 67) (67) := ⟨rfl, rfl, rfl⟩
theorem t117_72 : xt zt117 72 73 (.iload_n 1) := ⟨rfl, rfl⟩
theorem t117_73 : xtk zt117 73 74 (1) := Or.inl ⟨1, ⟨rfl, rfl⟩, by decide⟩
theorem t117_74 : xtb zt117 74 77 110 (.if_icmp .ne 36) (36) := ⟨rfl, rfl, rfl⟩
theorem t117_77 : xt zt117 77 78 (.aload_n 0) := ⟨rfl, rfl⟩
theorem t117_78 : xt zt117 78 79 (.iload_n 2) := ⟨rfl, rfl⟩
theorem t117_79 : xtc zt117 10 79 82 (.invokevirtual 132) 132 1 103 1 := ⟨rfl, rfl, rfl⟩
theorem t117_82 : xtb zt117 82 85 110 (.ifCond .eq 28) (28) := ⟨rfl, rfl, rfl⟩
theorem t117_85 : xt zt117 85 86 (.aload_n 0) := ⟨rfl, rfl⟩
theorem t117_86 : xtf zt117 10 86 89 (.getfield 45) 45 10 7 3 := ⟨rfl, rfl, rfl, rfl⟩
theorem t117_89 : xtf zt117 10 89 92 (.getfield 143) 143 5 0 3 := ⟨rfl, rfl, rfl, rfl⟩
theorem t117_92 : xt zt117 92 93 (.iload_n 2) := ⟨rfl, rfl⟩
theorem t117_93 : xt zt117 93 94 .aaload := ⟨rfl, rfl⟩
theorem t117_94 : xt zt117 94 95 (.iload_n 3) := ⟨rfl, rfl⟩
theorem t117_95 : xtk zt117 95 96 (1) := Or.inl ⟨1, ⟨rfl, rfl⟩, by decide⟩
theorem t117_96 : xtb zt117 96 99 103 (.if_icmp .ne 7) (7) := ⟨rfl, rfl, rfl⟩
theorem t117_99 : xtk zt117 99 100 (1) := Or.inl ⟨1, ⟨rfl, rfl⟩, by decide⟩
theorem t117_100 : xtb zt117 100 103 104 (.goto 4) (4) := ⟨rfl, rfl, rfl⟩
theorem t117_103 : xtk zt117 103 104 (0) := Or.inl ⟨0, ⟨rfl, rfl⟩, by decide⟩
theorem t117_104 : xtf zt117 10 104 107 (.putfield 179) 179 2 4 1 := ⟨rfl, rfl, rfl, rfl⟩
theorem t117_107 : xtb zt117 107 110 136 (.goto 29) (29) := ⟨rfl, rfl, rfl⟩
theorem t117_110 : xt zt117 110 111 (.iload_n 1) := ⟨rfl, rfl⟩
theorem t117_111 : xtk zt117 111 112 (2) := Or.inl ⟨2, ⟨rfl, rfl⟩, by decide⟩
theorem t117_112 : xtb zt117 112 115 136 (.if_icmp .ne 24) (24) := ⟨rfl, rfl, rfl⟩
theorem t117_115 : xt zt117 115 116 (.aload_n 0) := ⟨rfl, rfl⟩
theorem t117_116 : xt zt117 116 117 (.iload_n 2) := ⟨rfl, rfl⟩
theorem t117_117 : xtc zt117 10 117 120 (.invokevirtual 132) 132 1 103 1 := ⟨rfl, rfl, rfl⟩
theorem t117_120 : xtb zt117 120 123 136 (.ifCond .eq 16) (16) := ⟨rfl, rfl, rfl⟩
theorem t117_123 : xt zt117 123 124 (.aload_n 0) := ⟨rfl, rfl⟩
theorem t117_124 : xtf zt117 10 124 127 (.getfield 45) 45 10 7 3 := ⟨rfl, rfl, rfl, rfl⟩
theorem t117_127 : xtf zt117 10 127 130 (.getfield 143) 143 5 0 3 := ⟨rfl, rfl, rfl, rfl⟩
theorem t117_130 : xt zt117 130 131 (.iload_n 2) := ⟨rfl, rfl⟩
theorem t117_131 : xt zt117 131 132 .aaload := ⟨rfl, rfl⟩
theorem t117_132 : xt zt117 132 133 (.iload_n 3) := ⟨rfl, rfl⟩
theorem t117_133 : xtf zt117 10 133 136 (.putfield 156) 156 2 2 1 := ⟨rfl, rfl, rfl, rfl⟩
theorem t117_136 : xt zt117 136 137 (.aload_n 0) := ⟨rfl, rfl⟩
theorem t117_137 : xtf zt117 10 137 140 (.getfield 72) 72 10 13 3 := ⟨rfl, rfl, rfl, rfl⟩
theorem t117_140 : xtf zt117 10 140 143 (.getfield 276) 276 9 3 1 := ⟨rfl, rfl, rfl, rfl⟩
theorem t117_143 : xt zt117 143 144 .ireturn := ⟨rfl, rfl⟩
theorem t94_0 : xt zt94 0 1 (.aload_n 0) := ⟨rfl, rfl⟩
theorem t94_1 : xtf zt94 9 1 4 (.getfield 19) 19 9 3 1 := ⟨rfl, rfl, rfl, rfl⟩
theorem t94_4 : xtk zt94 4 6 (20) := Or.inr (Or.inl ⟨20, ⟨rfl, rfl⟩, by decide⟩)
theorem t94_6 : xtb zt94 6 9 13 (.if_icmp .lt 7) (7) := ⟨rfl, rfl, rfl⟩
theorem t94_9 : xt zt94 9 10 (.aload_n 0) := ⟨rfl, rfl⟩
theorem t94_10 : xtc zt94 9 10 13 (.invokevirtual 29) 29 1 95 0 := ⟨rfl, rfl, rfl⟩
theorem t94_13 : xt zt94 13 14 (.aload_n 0) := ⟨rfl, rfl⟩
theorem t94_14 : xtf zt94 9 14 17 (.getfield 19) 19 9 3 1 := ⟨rfl, rfl, rfl, rfl⟩
theorem t94_17 : xtk zt94 17 19 (20) := Or.inr (Or.inl ⟨20, ⟨rfl, rfl⟩, by decide⟩)
theorem t94_19 : xtb zt94 19 22 62 (.if_icmp .ge 43) (43) := ⟨rfl, rfl, rfl⟩
theorem t94_22 : xt zt94 22 23 (.aload_n 0) := ⟨rfl, rfl⟩
theorem t94_23 : xtf zt94 9 23 26 (.getfield 9) 9 9 0 3 := ⟨rfl, rfl, rfl, rfl⟩
theorem t94_26 : xt zt94 26 27 (.aload_n 0) := ⟨rfl, rfl⟩
theorem t94_27 : xtf zt94 9 27 30 (.getfield 19) 19 9 3 1 := ⟨rfl, rfl, rfl, rfl⟩
theorem t94_30 : xt zt94 30 31 (.iload_n 1) := ⟨rfl, rfl⟩
theorem t94_31 : xt zt94 31 32 .iastore := ⟨rfl, rfl⟩
theorem t94_32 : xt zt94 32 33 (.aload_n 0) := ⟨rfl, rfl⟩
theorem t94_33 : xtf zt94 9 33 36 (.getfield 13) 13 9 1 3 := ⟨rfl, rfl, rfl, rfl⟩
theorem t94_36 : xt zt94 36 37 (.aload_n 0) := ⟨rfl, rfl⟩
theorem t94_37 : xtf zt94 9 37 40 (.getfield 19) 19 9 3 1 := ⟨rfl, rfl, rfl, rfl⟩
theorem t94_40 : xt zt94 40 41 (.iload_n 2) := ⟨rfl, rfl⟩
theorem t94_41 : xt zt94 41 42 .iastore := ⟨rfl, rfl⟩
theorem t94_42 : xt zt94 42 43 (.aload_n 0) := ⟨rfl, rfl⟩
theorem t94_43 : xtf zt94 9 43 46 (.getfield 16) 16 9 2 3 := ⟨rfl, rfl, rfl, rfl⟩
theorem t94_46 : xt zt94 46 47 (.aload_n 0) := ⟨rfl, rfl⟩
theorem t94_47 : xtf zt94 9 47 50 (.getfield 19) 19 9 3 1 := ⟨rfl, rfl, rfl, rfl⟩
theorem t94_50 : xt zt94 50 51 (.iload_n 3) := ⟨rfl, rfl⟩
theorem t94_51 : xt zt94 51 52 .iastore := ⟨rfl, rfl⟩
theorem t94_52 : xt zt94 52 53 (.aload_n 0) := ⟨rfl, rfl⟩
theorem t94_53 : xt zt94 53 54 .dup := ⟨rfl, rfl⟩
theorem t94_54 : xtf zt94 9 54 57 (.getfield 19) 19 9 3 1 := ⟨rfl, rfl, rfl, rfl⟩
theorem t94_57 : xtk zt94 57 58 (1) := Or.inl ⟨1, ⟨rfl, rfl⟩, by decide⟩
theorem t94_58 : xt zt94 58 59 .iadd := ⟨rfl, rfl⟩
theorem t94_59 : xtf zt94 9 59 62 (.putfield 19) 19 9 3 1 := ⟨rfl, rfl, rfl, rfl⟩
theorem t94_62 : xt zt94 62 63 .return_ := ⟨rfl, rfl⟩
theorem t95_0 : xtk zt95 0 1 (1) := Or.inl ⟨1, ⟨rfl, rfl⟩, by decide⟩
theorem t95_1 : xt zt95 1 2 (.istore_n 1) := ⟨rfl, rfl⟩
theorem t95_2 : xt zt95 2 3 (.iload_n 1) := ⟨rfl, rfl⟩
theorem t95_3 : xtk zt95 3 5 (20) := Or.inr (Or.inl ⟨20, ⟨rfl, rfl⟩, by decide⟩)
theorem t95_5 : xtb zt95 5 8 56 (.if_icmp .ge 51) (51) := ⟨rfl, rfl, rfl⟩
theorem t95_8 : xt zt95 8 9 (.aload_n 0) := ⟨rfl, rfl⟩
theorem t95_9 : xtf zt95 9 9 12 (.getfield 9) 9 9 0 3 := ⟨rfl, rfl, rfl, rfl⟩
theorem t95_12 : xt zt95 12 13 (.iload_n 1) := ⟨rfl, rfl⟩
theorem t95_13 : xtk zt95 13 14 (1) := Or.inl ⟨1, ⟨rfl, rfl⟩, by decide⟩
theorem t95_14 : xt zt95 14 15 .isub := ⟨rfl, rfl⟩
theorem t95_15 : xt zt95 15 16 (.aload_n 0) := ⟨rfl, rfl⟩
theorem t95_16 : xtf zt95 9 16 19 (.getfield 9) 9 9 0 3 := ⟨rfl, rfl, rfl, rfl⟩
theorem t95_19 : xt zt95 19 20 (.iload_n 1) := ⟨rfl, rfl⟩
theorem t95_20 : xt zt95 20 21 .iaload := ⟨rfl, rfl⟩
theorem t95_21 : xt zt95 21 22 .iastore := ⟨rfl, rfl⟩
theorem t95_22 : xt zt95 22 23 (.aload_n 0) := ⟨rfl, rfl⟩
theorem t95_23 : xtf zt95 9 23 26 (.getfield 13) 13 9 1 3 := ⟨rfl, rfl, rfl, rfl⟩
theorem t95_26 : xt zt95 26 27 (.iload_n 1) := ⟨rfl, rfl⟩
theorem t95_27 : xtk zt95 27 28 (1) := Or.inl ⟨1, ⟨rfl, rfl⟩, by decide⟩
theorem t95_28 : xt zt95 28 29 .isub := ⟨rfl, rfl⟩
theorem t95_29 : xt zt95 29 30 (.aload_n 0) := ⟨rfl, rfl⟩
theorem t95_30 : xtf zt95 9 30 33 (.getfield 13) 13 9 1 3 := ⟨rfl, rfl, rfl, rfl⟩
theorem t95_33 : xt zt95 33 34 (.iload_n 1) := ⟨rfl, rfl⟩
theorem t95_34 : xt zt95 34 35 .iaload := ⟨rfl, rfl⟩
theorem t95_35 : xt zt95 35 36 .iastore := ⟨rfl, rfl⟩
theorem t95_36 : xt zt95 36 37 (.aload_n 0) := ⟨rfl, rfl⟩
theorem t95_37 : xtf zt95 9 37 40 (.getfield 16) 16 9 2 3 := ⟨rfl, rfl, rfl, rfl⟩
theorem t95_40 : xt zt95 40 41 (.iload_n 1) := ⟨rfl, rfl⟩
theorem t95_41 : xtk zt95 41 42 (1) := Or.inl ⟨1, ⟨rfl, rfl⟩, by decide⟩
theorem t95_42 : xt zt95 42 43 .isub := ⟨rfl, rfl⟩
theorem t95_43 : xt zt95 43 44 (.aload_n 0) := ⟨rfl, rfl⟩
theorem t95_44 : xtf zt95 9 44 47 (.getfield 16) 16 9 2 3 := ⟨rfl, rfl, rfl, rfl⟩
theorem t95_47 : xt zt95 47 48 (.iload_n 1) := ⟨rfl, rfl⟩
theorem t95_48 : xt zt95 48 49 .iaload := ⟨rfl, rfl⟩
theorem t95_49 : xt zt95 49 50 .iastore := ⟨rfl, rfl⟩
theorem t95_50 : xt zt95 50 53 (.iinc 1 1) := ⟨rfl, rfl⟩
theorem t95_53 : xtb zt95 53 56 2 (.goto (-51)) (-51) := ⟨rfl, rfl, rfl⟩
theorem t95_56 : xt zt95 56 57 (.aload_n 0) := ⟨rfl, rfl⟩
theorem t95_57 : xtk zt95 57 59 (19) := Or.inr (Or.inl ⟨19, ⟨rfl, rfl⟩, by decide⟩)
theorem t95_59 : xtf zt95 9 59 62 (.putfield 19) 19 9 3 1 := ⟨rfl, rfl, rfl, rfl⟩
theorem t95_62 : xt zt95 62 63 .return_ := ⟨rfl, rfl⟩
theorem t96_0 : xt zt96 0 1 (.aload_n 0) := ⟨rfl, rfl⟩
theorem t96_1 : xtf zt96 9 1 4 (.getfield 19) 19 9 3 1 := ⟨rfl, rfl, rfl, rfl⟩
theorem t96_4 : xtb zt96 4 7 16 (.ifCond .le 12) (12) := ⟨rfl, rfl, rfl⟩
theorem t96_7 : xt zt96 7 8 (.aload_n 0) := ⟨rfl, rfl⟩
theorem t96_8 : xtf zt96 9 8 11 (.getfield 19) 19 9 3 1 := ⟨rfl, rfl, rfl, rfl⟩
theorem t96_11 : xtk zt96 11 13 (20) := Or.inr (Or.inl ⟨20, ⟨rfl, rfl⟩, by decide⟩)
theorem t96_13 : xtb zt96 13 16 18 (.if_icmp .le 5) (5) := ⟨rfl, rfl, rfl⟩
theorem t96_16 : xtk zt96 16 17 (0) := Or.inl ⟨0, ⟨rfl, rfl⟩, by decide⟩
theorem t96_17 : xt zt96 17 18 .ireturn := ⟨rfl, rfl⟩
theorem t96_18 : xt zt96 18 19 (.aload_n 0) := ⟨rfl, rfl⟩
theorem t96_19 : xt zt96 19 20 .dup := ⟨rfl, rfl⟩
theorem t96_20 : xtf zt96 9 20 23 (.getfield 19) 19 9 3 1 := ⟨rfl, rfl, rfl, rfl⟩
theorem t96_23 : xtk zt96 23 24 (1) := Or.inl ⟨1, ⟨rfl, rfl⟩, by decide⟩
theorem t96_24 : xt zt96 24 25 .isub := ⟨rfl, rfl⟩
theorem t96_25 : xtf zt96 9 25 28 (.putfield 19) 19 9 3 1 := ⟨rfl, rfl, rfl, rfl⟩
theorem t96_28 : xt zt96 28 29 (.aload_n 0) := ⟨rfl, rfl⟩
theorem t96_29 : xt zt96 29 30 (.aload_n 0) := ⟨rfl, rfl⟩
theorem t96_30 : xtf zt96 9 30 33 (.getfield 13) 13 9 1 3 := ⟨rfl, rfl, rfl, rfl⟩
theorem t96_33 : xt zt96 33 34 (.aload_n 0) := ⟨rfl, rfl⟩
theorem t96_34 : xtf zt96 9 34 37 (.getfield 19) 19 9 3 1 := ⟨rfl, rfl, rfl, rfl⟩
theorem t96_37 : xt zt96 37 38 .iaload := ⟨rfl, rfl⟩
theorem t96_38 : xtf zt96 9 38 41 (.putfield 23) 23 9 4 1 := ⟨rfl, rfl, rfl, rfl⟩
theorem t96_41 : xt zt96 41 42 (.aload_n 0) := ⟨rfl, rfl⟩
theorem t96_42 : xt zt96 42 43 (.aload_n 0) := ⟨rfl, rfl⟩
theorem t96_43 : xtf zt96 9 43 46 (.getfield 16) 16 9 2 3 := ⟨rfl, rfl, rfl, rfl⟩
theorem t96_46 : xt zt96 46 47 (.aload_n 0) := ⟨rfl, rfl⟩
theorem t96_47 : xtf zt96 9 47 50 (.getfield 19) 19 9 3 1 := ⟨rfl, rfl, rfl, rfl⟩
theorem t96_50 : xt zt96 50 51 .iaload := ⟨rfl, rfl⟩
theorem t96_51 : xtf zt96 9 51 54 (.putfield 26) 26 9 5 1 := ⟨rfl, rfl, rfl, rfl⟩
theorem t96_54 : xt zt96 54 55 (.aload_n 0) := ⟨rfl, rfl⟩
theorem t96_55 : xtf zt96 9 55 58 (.getfield 9) 9 9 0 3 := ⟨rfl, rfl, rfl, rfl⟩
theorem t96_58 : xt zt96 58 59 (.aload_n 0) := ⟨rfl, rfl⟩
theorem t96_59 : xtf zt96 9 59 62 (.getfield 19) 19 9 3 1 := ⟨rfl, rfl, rfl, rfl⟩
theorem t96_62 : xt zt96 62 63 .iaload := ⟨rfl, rfl⟩
theorem t96_63 : xt zt96 63 64 .ireturn := ⟨rfl, rfl⟩
theorem ct_isJokeC {nf : Bool} {xs : List Int32} {d : Nat} {m : xM} {g : xL} {G : xG} {P : Nat} {x : Int32} (h5 : G.1 0 5 = some P) (h2 : G.1 P 2 = some (P + 5)) : CT nf xs d 104 [.ref 0, .int x] m g G (PE (some (.int (rdV x (m (P + 5) 3)))) m g) := by
  refine CT.of (c := 10) (ini := false) (nL := 2) (rt := some .boolean) (tab := zt104) rfl (fun d' r h' N hd hr => ?_)
  replace hr : RR nf xs d' 10 false 2 (some .boolean) zt104 G r h' N (0, [(0, .ref 0), (1, .int x)], [], m, g) := hr
  have k1 : (1 : Int32).toInt = 1 := rfl
  replace hr := hr.go (s_iload_n t104_0 rfl)
  rcases hr.zLt t104_1 with ⟨b1, hr⟩ | ⟨b1, hr⟩
  · replace hr := hr.go (s_k t104_22)
    obtain ⟨rfl, hs⟩ := hr.iret t104_23
    exact ⟨_, _, hs, by unfold rdV; repeat (first | rw [if_pos (by omega)] | rw [if_neg (by omega)]), rfl, rfl⟩
  · replace hr := hr.go (s_iload_n t104_4 rfl)
    replace hr := hr.go (s_aload_n t104_5 rfl)
    replace hr := hr.go (s_getr t104_6 (h5))
    replace hr := hr.go (s_getr t104_9 (h2))
    replace hr := hr.go (s_getf t104_12)
    rcases hr.bGe t104_15 with ⟨b15, hr⟩ | ⟨b15, hr⟩
    · replace hr := hr.go (s_k t104_22)
      obtain ⟨rfl, hs⟩ := hr.iret t104_23
      exact ⟨_, _, hs, by unfold rdV; repeat (first | rw [if_pos (by omega)] | rw [if_neg (by omega)]), rfl, rfl⟩
    · replace hr := hr.go (s_k t104_18)
      replace hr := hr.go (s_goto t104_19)
      obtain ⟨rfl, hs⟩ := hr.iret t104_23
      exact ⟨_, _, hs, by unfold rdV; repeat (first | rw [if_pos (by omega)] | rw [if_neg (by omega)]), rfl, rfl⟩
theorem ct_isToldR {nf : Bool} {xs : List Int32} {d : Nat} {m : xM} {g : xL} {G : xG} {a j v : Nat} (h1 : G.1 a 1 = some (a + 2)) (hj : j < 6) (hv : v < 64) : CT nf xs d 49 [.ref a, .int (Int32.ofNat j), .int (Int32.ofNat v)] m g G (PE (some (.int (bI (bl (g (a + 2) j) v)))) m g) := by
  refine CT.of (c := 5) (ini := false) (nL := 3) (rt := some .boolean) (tab := zt49) rfl (fun d' r h' N hd hr => ?_)
  replace hr : RR nf xs d' 5 false 3 (some .boolean) zt49 G r h' N (0, [(0, .ref a), (1, .int (Int32.ofNat j)), (2, .int (Int32.ofNat v))], [], m, g) := hr
  have k1 : (1 : Int32).toInt = 1 := rfl
  have k6 : (6 : Int32).toInt = 6 := rfl
  have qj : (Int32.ofNat j).toInt = (j : Int) := xn_int (by omega)
  replace hr := hr.go (s_iload_n t49_0 rfl)
  rcases hr.zLt t49_1 with ⟨b1, hr⟩ | ⟨b1, hr⟩
  · exact absurd b1 (by omega)
  · replace hr := hr.go (s_iload_n t49_4 rfl)
    replace hr := hr.go (s_k t49_5)
    rcases hr.bGe t49_7 with ⟨b7, hr⟩ | ⟨b7, hr⟩
    · exact absurd b7 (by omega)
    · replace hr := hr.go (s_aload_n t49_10 rfl)
      replace hr := hr.go (s_getr t49_11 (h1))
      replace hr := hr.go (s_iload_n t49_14 rfl)
      skip
      replace hr := hr.go (s_laload t49_15)
      rw [xn_nat (show j < 2147483648 by omega)] at hr
      replace hr := hr.go (s_iload_n t49_16 rfl)
      replace hr := hr.go (s_lushr t49_17)
      replace hr := hr.go (s_lconst t49_18)
      replace hr := hr.go (s_land t49_19)
      replace hr := hr.go (s_lconst t49_20)
      replace hr := hr.go (s_lcmp t49_21)
      rcases hr.zNe t49_22 with ⟨b22, hr⟩ | ⟨b22, hr⟩
      · replace hr := hr.go (s_k t49_29)
        obtain ⟨rfl, hs⟩ := hr.iret t49_30
        exact ⟨_, _, hs, by cases e : bl (g (a + 2) j) v with | false => rfl | true => exact absurd (cmp_1.mpr ((bl_tsu hv).mpr e)) b22, rfl, rfl⟩
      · replace hr := hr.go (s_k t49_25)
        replace hr := hr.go (s_goto t49_26)
        obtain ⟨rfl, hs⟩ := hr.iret t49_30
        exact ⟨_, _, hs, by rw [(bl_tsu hv).mp (cmp_1.mp b22)]; rfl, rfl, rfl⟩
theorem ct_setToldR {nf : Bool} {xs : List Int32} {d : Nat} {m : xM} {g : xL} {G : xG} {a j : Nat} {y z : Int32} (h1 : G.1 a 1 = some (a + 2)) (hj : j < 6) : CT nf xs d 50 [.ref a, .int (Int32.ofNat j), .int y, .int z] m g G (PE none m (xu g (a + 2) j (stB z y (g (a + 2) j)))) := by
  refine CT.of (c := 5) (ini := false) (nL := 4) (rt := none) (tab := zt50) rfl (fun d' r h' N hd' hr => ?_)
  replace hr : RR nf xs d' 5 false 4 none zt50 G r h' N (0, [(0, .ref a), (1, .int (Int32.ofNat j)), (2, .int y), (3, .int z)], [], m, g) := hr
  have qj : (Int32.ofNat j).toInt = (j : Int) := xn_int (by omega)
  have k6 : (6 : Int32).toInt = 6 := rfl
  replace hr := hr.go (s_iload_n t50_0 rfl)
  rcases hr.zLt t50_1 with ⟨b1, hr⟩ | ⟨b1, hr⟩
  · exact absurd b1 (by omega)
  · replace hr := hr.go (s_iload_n t50_4 rfl)
    replace hr := hr.go (s_k t50_5)
    rcases hr.bLt t50_7 with ⟨b7, hr⟩ | ⟨b7, hr⟩
    · replace hr := hr.go (s_iload_n t50_11 rfl)
      rcases hr.zEq t50_12 with ⟨b12, hr⟩ | ⟨b12, hr⟩
      · replace hr := hr.go (s_aload_n t50_30 rfl)
        replace hr := hr.go (s_getr t50_31 (h1))
        replace hr := hr.go (s_iload_n t50_34 rfl)
        replace hr := hr.go (s_dup2 t50_35)
        replace hr := hr.go (s_laload t50_36)
        replace hr := hr.go (s_lconst t50_37)
        replace hr := hr.go (s_iload_n t50_38 rfl)
        replace hr := hr.go (s_lshl t50_39)
        replace hr := hr.go (s_ldc2 t50_40 rfl)
        replace hr := hr.go (s_lxor t50_43)
        replace hr := hr.go (s_land t50_44)
        replace hr := hr.go (s_lastore t50_45)
        rw [xn_nat (show j < 2147483648 by omega)] at hr
        obtain ⟨rfl, hs⟩ := hr.ret t50_46
        exact ⟨_, _, hs, rfl, rfl, by unfold stB; rw [if_pos b12]; rfl⟩
      · replace hr := hr.go (s_aload_n t50_15 rfl)
        replace hr := hr.go (s_getr t50_16 (h1))
        replace hr := hr.go (s_iload_n t50_19 rfl)
        replace hr := hr.go (s_dup2 t50_20)
        replace hr := hr.go (s_laload t50_21)
        replace hr := hr.go (s_lconst t50_22)
        replace hr := hr.go (s_iload_n t50_23 rfl)
        replace hr := hr.go (s_lshl t50_24)
        replace hr := hr.go (s_lor t50_25)
        replace hr := hr.go (s_lastore t50_26)
        rw [xn_nat (show j < 2147483648 by omega)] at hr
        replace hr := hr.go (s_goto t50_27)
        obtain ⟨rfl, hs⟩ := hr.ret t50_46
        exact ⟨_, _, hs, rfl, rfl, by unfold stB; rw [if_neg b12]; rfl⟩
    · exact absurd b7 (by omega)
/-- one more can be undone -/
def PSH (n : Nat) (kd w v : Int32) (m m' : xM) : Prop := (∀ c : Nat, c < 116 ∨ 119 < c → m' c = m c) ∧ m' 116 3 = Int32.ofNat (kN n) ∧ (∀ c : Nat, 117 ≤ c → c ≤ 119 → ∀ k : Nat, k + 1 < kN n → m' c k = m c (k + kS n)) ∧ m' 117 (kN n - 1) = kd ∧ m' 118 (kN n - 1) = w ∧ m' 119 (kN n - 1) = v
def GU (G : xG) : Prop := G.1 116 0 = some 117 ∧ G.1 116 1 = some 118 ∧ G.1 116 2 = some 119 ∧ ∀ c : Nat, 117 ≤ c → c ≤ 119 → ∃ L : Nat, G.2 c = (0, 1, L)
theorem sh95 {f f2 f0 : Nat → Int32} {k : Nat} (h : ∀ i : Nat, f i = if i < k then f0 (i + 1) else f0 i) (h2 : ∀ i : Nat, f2 i = if i = k then f (k + 1) else f i) : ∀ i : Nat, f2 i = if i < k + 1 then f0 (i + 1) else f0 i := by
  intro i
  rw [h2 i, h (k + 1), h i, if_neg (show ¬ k + 1 < k by omega)]
  by_cases e : i = k
  · rw [if_pos e, if_pos (by omega), e]
  · rw [if_neg e]
    by_cases f : i < k
    · rw [if_pos f, if_pos (by omega)]
    · rw [if_neg f, if_neg (by omega)]
theorem lp95 {nf : Bool} {xs : List Int32} {d : Nat} {g : xL} {G : xG} {r : Option Value} {h' : zH} {m0 : xM} (hG : GU G) : ∀ (N k : Nat) (m : xM), (∀ c : Nat, c < 117 ∨ 119 < c → m c = m0 c) → (∀ c : Nat, 117 ≤ c → c ≤ 119 → ∀ i : Nat, m c i = if i < k then m0 c (i + 1) else m0 c i) → k ≤ 19 → RR nf xs d 9 false 2 none zt95 G r h' N (2, [(1, .int (Int32.ofNat (k + 1))), (0, .ref 116)], [], m, g) → ∃ (m' : xM) (g' : xL), HS h' m' g' G ∧ PF none g (fun m' => (∀ c : Nat, c < 116 ∨ 119 < c → m' c = m0 c) ∧ m' 116 3 = 19 ∧ ∀ c : Nat, 117 ≤ c → c ≤ 119 → ∀ i : Nat, i < 19 → m' c i = m0 c (i + 1)) r m' g' := by
  intro N
  obtain ⟨L117, h117⟩ := hG.2.2.2 117 (by decide) (by decide)
  obtain ⟨L118, h118⟩ := hG.2.2.2 118 (by decide) (by decide)
  obtain ⟨L119, h119⟩ := hG.2.2.2 119 (by decide) (by decide)
  induction N with
  | zero => intro k m _ _ _ hr; exact hr.no.elim
  | succ N ih =>
    intro k m h1 h2 hk hr
    have qk : (Int32.ofNat (k + 1)).toInt = ((k + 1 : Nat) : Int) := xn_int (by omega)
    have k20 : (20 : Int32).toInt = 20 := rfl
    replace hr := hr.go1 (s_iload_n t95_2 rfl)
    replace hr := hr.go (s_k t95_3)
    rcases hr.bGe t95_5 with ⟨b5, hr⟩ | ⟨b5, hr⟩
    · replace hr := hr.go (s_aload_n t95_56 rfl)
      replace hr := hr.go (s_k t95_57)
      replace hr := hr.go (s_putf t95_59)
      obtain ⟨rfl, hs⟩ := hr.ret t95_62
      have k19 : k = 19 := by omega
      subst k19
      refine ⟨_, _, hs, rfl, rfl, fun c hc => ?_, xu_same, fun c c1 c2 i hi => ?_⟩
      · rw [xu_row (by omega)]; exact h1 c (by omega)
      · rw [xu_row (by omega), h2 c c1 c2 i, if_pos hi]
    · replace hr := hr.go (s_aload_n t95_8 rfl)
      replace hr := hr.go (s_getr t95_9 (hG.1))
      replace hr := hr.go (s_iload_n t95_12 rfl)
      replace hr := hr.go (s_k t95_13)
      replace hr := hr.go (s_isub t95_14)
      rw [xn_pred] at hr
      replace hr := hr.go (s_aload_n t95_15 rfl)
      replace hr := hr.go (s_getr t95_16 (hG.1))
      replace hr := hr.go (s_iload_n t95_19 rfl)
      replace hr := hr.go (s_iaload t95_20 (h117))
      replace hr := hr.go (s_iastore t95_21)
      replace hr := hr.go (s_aload_n t95_22 rfl)
      replace hr := hr.go (s_getr t95_23 (hG.2.1))
      replace hr := hr.go (s_iload_n t95_26 rfl)
      replace hr := hr.go (s_k t95_27)
      replace hr := hr.go (s_isub t95_28)
      rw [xn_pred] at hr
      replace hr := hr.go (s_aload_n t95_29 rfl)
      replace hr := hr.go (s_getr t95_30 (hG.2.1))
      replace hr := hr.go (s_iload_n t95_33 rfl)
      replace hr := hr.go (s_iaload t95_34 (h118))
      replace hr := hr.go (s_iastore t95_35)
      replace hr := hr.go (s_aload_n t95_36 rfl)
      replace hr := hr.go (s_getr t95_37 (hG.2.2.1))
      replace hr := hr.go (s_iload_n t95_40 rfl)
      replace hr := hr.go (s_k t95_41)
      replace hr := hr.go (s_isub t95_42)
      rw [xn_pred] at hr
      replace hr := hr.go (s_aload_n t95_43 rfl)
      replace hr := hr.go (s_getr t95_44 (hG.2.2.1))
      replace hr := hr.go (s_iload_n t95_47 rfl)
      replace hr := hr.go (s_iaload t95_48 (h119))
      replace hr := hr.go (s_iastore t95_49)
      rw [xn_nat (show k < 2147483648 by omega), xn_nat (show k + 1 < 2147483648 by omega)] at hr
      replace hr := hr.go (s_iinc (ls' := [(1, _), (0, _)]) t95_50 rfl rfl)
      rw [xn_1i] at hr
      replace hr := hr.go (s_goto t95_53)
      refine ih (k + 1) _ (fun c hc => ?_) (fun c c1 c2 => sh95 (h2 c c1 c2) (fun i => ?_)) (by omega) hr
      · repeat rw [xu_row (by omega)]
        exact h1 c hc
      · rcases (show c = 117 ∨ c = 118 ∨ c = 119 by omega) with rfl | rfl | rfl
        · rw [xu_row (a := 119) (by decide), xu_row (a := 118) (by decide)]; exact xu_at
        · rw [xu_row (a := 119) (by decide), xu_at, xu_row (a := 117) (by decide)]
        · rw [xu_at, xu_row (a := 118) (by decide), xu_row (a := 117) (by decide)]
theorem ct_drop {nf : Bool} {xs : List Int32} {d : Nat} {m : xM} {g : xL} {G : xG} (hG : GU G) : CT nf xs d 95 [.ref 116] m g G (PF none g (fun m' => (∀ c : Nat, c < 116 ∨ 119 < c → m' c = m c) ∧ m' 116 3 = 19 ∧ ∀ c : Nat, 117 ≤ c → c ≤ 119 → ∀ i : Nat, i < 19 → m' c i = m c (i + 1))) := by
  refine CT.of (c := 9) (ini := false) (nL := 2) (rt := none) (tab := zt95) rfl (fun d' r h' N hd hr => ?_)
  replace hr : RR nf xs d' 9 false 2 (none) zt95 G r h' N (0, [(0, .ref 116)], [], m, g) := hr
  have k1 : (1 : Int32).toInt = 1 := rfl
  have k19 : (19 : Int32).toInt = 19 := rfl
  have k20 : (20 : Int32).toInt = 20 := rfl
  replace hr := hr.go (s_k t95_0)
  replace hr := hr.go (s_istore_n (ls' := [(1, _), (0, _)]) t95_1 rfl)
  exact lp95 hG _ 0 m (fun c _ => rfl) (fun c _ _ i => by rw [if_neg (Nat.not_lt_zero i)]) (by decide) hr
theorem en94 {nf : Bool} {xs : List Int32} {d : Nat} {g : xL} {G : xG} {r : Option Value} {h' : zH} {N n : Nat} {m : xM} {kd w v : Int32} (hG : GU G) (hn : n < 20) (h3 : m 116 3 = Int32.ofNat n) (hr : RR nf xs d 9 false 4 none zt94 G r h' N (13, [(0, .ref 116), (1, .int kd), (2, .int w), (3, .int v)], [], m, g)) : ∃ (m' : xM) (g' : xL), HS h' m' g' G ∧ PF none g (fun m' => (∀ c : Nat, c < 116 ∨ 119 < c → m' c = m c) ∧ m' 116 3 = Int32.ofNat (n + 1) ∧ (∀ c : Nat, 117 ≤ c → c ≤ 119 → ∀ i : Nat, ¬ i = n → m' c i = m c i) ∧ m' 117 n = kd ∧ m' 118 n = w ∧ m' 119 n = v) r m' g' := by
  obtain ⟨L117, h117⟩ := hG.2.2.2 117 (by decide) (by decide)
  obtain ⟨L118, h118⟩ := hG.2.2.2 118 (by decide) (by decide)
  obtain ⟨L119, h119⟩ := hG.2.2.2 119 (by decide) (by decide)
  have qn : (Int32.ofNat n).toInt = (n : Int) := xn_int (by omega)
  have k20 : (20 : Int32).toInt = 20 := rfl
  replace hr := hr.go (s_aload_n t94_13 rfl)
  replace hr := hr.go (s_getf t94_14)
  rw [h3] at hr
  replace hr := hr.go (s_k t94_17)
  rcases hr.bGe t94_19 with ⟨b19, hr⟩ | ⟨b19, hr⟩
  · exact absurd b19 (by omega)
  · replace hr := hr.go (s_aload_n t94_22 rfl)
    replace hr := hr.go (s_getr t94_23 (hG.1))
    replace hr := hr.go (s_aload_n t94_26 rfl)
    replace hr := hr.go (s_getf t94_27)
    rw [h3] at hr
    replace hr := hr.go (s_iload_n t94_30 rfl)
    replace hr := hr.go (s_iastore t94_31)
    rw [xn_nat (show n < 2147483648 by omega)] at hr
    replace hr := hr.go (s_aload_n t94_32 rfl)
    replace hr := hr.go (s_getr t94_33 (hG.2.1))
    replace hr := hr.go (s_aload_n t94_36 rfl)
    replace hr := hr.go (s_getf t94_37)
    rw [xu_row (m := m) (a := 117) (b := 116) (by decide), h3] at hr
    replace hr := hr.go (s_iload_n t94_40 rfl)
    replace hr := hr.go (s_iastore t94_41)
    rw [xn_nat (show n < 2147483648 by omega)] at hr
    replace hr := hr.go (s_aload_n t94_42 rfl)
    replace hr := hr.go (s_getr t94_43 (hG.2.2.1))
    replace hr := hr.go (s_aload_n t94_46 rfl)
    replace hr := hr.go (s_getf t94_47)
    rw [xu_row (a := 118) (b := 116) (by decide), xu_row (m := m) (a := 117) (b := 116) (by decide), h3] at hr
    replace hr := hr.go (s_iload_n t94_50 rfl)
    replace hr := hr.go (s_iastore t94_51)
    rw [xn_nat (show n < 2147483648 by omega)] at hr
    replace hr := hr.go (s_aload_n t94_52 rfl)
    replace hr := hr.go (s_dup t94_53 rfl)
    replace hr := hr.go (s_getf t94_54)
    rw [xu_row (a := 119) (b := 116) (by decide), xu_row (a := 118) (b := 116) (by decide), xu_row (m := m) (a := 117) (b := 116) (by decide), h3] at hr
    replace hr := hr.go (s_k t94_57)
    replace hr := hr.go (s_iadd t94_58)
    replace hr := hr.go (s_putf t94_59)
    obtain ⟨rfl, hs⟩ := hr.ret t94_62
    refine ⟨_, _, hs, rfl, rfl, fun c hc => ?_, ?_, fun c c1 c2 i hi => ?_, ?_, ?_, ?_⟩
    · repeat rw [xu_row (by omega)]
    · rw [xu_same, xn_1]
    · rw [xu_row (show ¬ c = 116 by omega)]
      repeat rw [xu_oth (fun z => hi z.2)]
    · rw [xu_row (by decide), xu_row (by decide), xu_row (by decide)]; exact xu_same
    · rw [xu_row (by decide), xu_row (by decide)]; exact xu_same
    · rw [xu_row (by decide)]; exact xu_same
theorem ct_push {nf : Bool} {xs : List Int32} {d : Nat} {m : xM} {g : xL} {G : xG} {n : Nat} {kd w v : Int32} (hG : GU G) (hn : n ≤ 20) (h3 : m 116 3 = Int32.ofNat n) : CT nf xs d 94 [.ref 116, .int kd, .int w, .int v] m g G (PF none g (fun m' => PSH n kd w v m m')) := by
  refine CT.of (c := 9) (ini := false) (nL := 4) (rt := none) (tab := zt94) rfl (fun d' r h' N hd hr => ?_)
  replace hr : RR nf xs d' 9 false 4 (none) zt94 G r h' N (0, [(0, .ref 116), (1, .int kd), (2, .int w), (3, .int v)], [], m, g) := hr
  have k1 : (1 : Int32).toInt = 1 := rfl
  have k20 : (20 : Int32).toInt = 20 := rfl
  have qn : (Int32.ofNat n).toInt = (n : Int) := xn_int (by omega)
  replace hr := hr.go (s_aload_n t94_0 rfl)
  replace hr := hr.go (s_getf t94_1)
  rw [h3] at hr
  replace hr := hr.go (s_k t94_4)
  rcases hr.bLt t94_6 with ⟨b6, hr⟩ | ⟨b6, hr⟩
  · have hn2 : ¬ n = 20 := by omega
    obtain ⟨m', g', hs, e1, e2, e3, e4, e5, e6, e7, e8⟩ := en94 hG (by omega) h3 hr
    have q0 : kS n = 0 := if_neg hn2
    have q1 : kN n = n + 1 := if_neg hn2
    refine ⟨m', g', hs, e1, e2, e3, by rw [q1]; exact e4, fun c a1 a2 k hk => ?_, ?_, ?_, ?_⟩
    · rw [q1] at hk
      rw [q0]
      exact e5 c a1 a2 k (by omega)
    · rw [q1]; exact e6
    · rw [q1]; exact e7
    · rw [q1]; exact e8
  · replace hr := hr.go (s_aload_n t94_9 rfl)
    obtain ⟨m1, ⟨c1, c2, c3⟩, hr2⟩ := hr.fvN t94_10 rfl rfl (ct_drop hG)
    have hn2 : n = 20 := by omega
    subst hn2
    obtain ⟨m', g', hs, e1, e2, e3, e4, e5, e6, e7, e8⟩ := en94 (n := 19) hG (by decide) c2 hr2
    refine ⟨m', g', hs, e1, e2, fun c hc => (e3 c hc).trans (c1 c hc), e4, fun c a1 a2 k hk => ?_, e6, e7, e8⟩
    have hk : k + 1 < 20 := hk
    exact (e5 c a1 a2 k (by omega)).trans (c3 c a1 a2 k (by omega))
theorem ct_pop0 {nf : Bool} {xs : List Int32} {d : Nat} {m : xM} {g : xL} {G : xG} (h3 : m 116 3 = 0) : CT nf xs d 96 [.ref 116] m g G (PE (some (.int 0)) m g) := by
  refine CT.of (c := 9) (ini := false) (nL := 1) (rt := some .int) (tab := zt96) rfl (fun d' r h' N hd hr => ?_)
  replace hr : RR nf xs d' 9 false 1 (some .int) zt96 G r h' N (0, [(0, .ref 116)], [], m, g) := hr
  have k1 : (1 : Int32).toInt = 1 := rfl
  have k20 : (20 : Int32).toInt = 20 := rfl
  replace hr := hr.go (s_aload_n t96_0 rfl)
  replace hr := hr.go (s_getf t96_1)
  rw [h3] at hr
  rcases hr.zLe t96_4 with ⟨b4, hr⟩ | ⟨b4, hr⟩
  · replace hr := hr.go (s_k t96_16)
    obtain ⟨rfl, hs⟩ := hr.iret t96_17
    exact ⟨_, _, hs, rfl, rfl, rfl⟩
  · exact absurd b4 (by decide)
theorem ct_pop {nf : Bool} {xs : List Int32} {d : Nat} {m : xM} {g : xL} {G : xG} {n : Nat} (hG : GU G) (hn : n < 20) (h3 : m 116 3 = Int32.ofNat (n + 1)) : CT nf xs d 96 [.ref 116] m g G (PF (some (.int (m 117 n))) g (fun m' => m' 116 3 = Int32.ofNat n ∧ m' 116 4 = m 118 n ∧ m' 116 5 = m 119 n ∧ ∀ c : Nat, ¬ c = 116 → m' c = m c)) := by
  refine CT.of (c := 9) (ini := false) (nL := 1) (rt := some .int) (tab := zt96) rfl (fun d' r h' N hd hr => ?_)
  replace hr : RR nf xs d' 9 false 1 (some .int) zt96 G r h' N (0, [(0, .ref 116)], [], m, g) := hr
  have k1 : (1 : Int32).toInt = 1 := rfl
  have k20 : (20 : Int32).toInt = 20 := rfl
  have qn : (Int32.ofNat (n + 1)).toInt = ((n + 1 : Nat) : Int) := xn_int (by omega)
  obtain ⟨L117, h117⟩ := hG.2.2.2 117 (by decide) (by decide)
  obtain ⟨L118, h118⟩ := hG.2.2.2 118 (by decide) (by decide)
  obtain ⟨L119, h119⟩ := hG.2.2.2 119 (by decide) (by decide)
  replace hr := hr.go (s_aload_n t96_0 rfl)
  replace hr := hr.go (s_getf t96_1)
  rw [h3] at hr
  rcases hr.zLe t96_4 with ⟨b4, hr⟩ | ⟨b4, hr⟩
  · exact absurd b4 (by omega)
  · replace hr := hr.go (s_aload_n t96_7 rfl)
    replace hr := hr.go (s_getf t96_8)
    rw [h3] at hr
    replace hr := hr.go (s_k t96_11)
    rcases hr.bLe t96_13 with ⟨b13, hr⟩ | ⟨b13, hr⟩
    · replace hr := hr.go (s_aload_n t96_18 rfl)
      replace hr := hr.go (s_dup t96_19 rfl)
      replace hr := hr.go (s_getf t96_20)
      rw [h3] at hr
      replace hr := hr.go (s_k t96_23)
      replace hr := hr.go (s_isub t96_24)
      rw [xn_pred] at hr
      replace hr := hr.go (s_putf t96_25)
      replace hr := hr.go (s_aload_n t96_28 rfl)
      replace hr := hr.go (s_aload_n t96_29 rfl)
      replace hr := hr.go (s_getr t96_30 (hG.2.1))
      replace hr := hr.go (s_aload_n t96_33 rfl)
      replace hr := hr.go (s_getf t96_34)
      rw [xu_same] at hr
      replace hr := hr.go (s_iaload t96_37 (h118))
      rw [xn_nat (show n < 2147483648 by omega)] at hr
      rw [xu_row (m := m) (a := 116) (b := 118) (by decide)] at hr
      replace hr := hr.go (s_putf t96_38)
      replace hr := hr.go (s_aload_n t96_41 rfl)
      replace hr := hr.go (s_aload_n t96_42 rfl)
      replace hr := hr.go (s_getr t96_43 (hG.2.2.1))
      replace hr := hr.go (s_aload_n t96_46 rfl)
      replace hr := hr.go (s_getf t96_47)
      rw [xu_oth (a := 116) (k := 4) (b := 116) (j := 3) (by decide), xu_same] at hr
      replace hr := hr.go (s_iaload t96_50 (h119))
      rw [xn_nat (show n < 2147483648 by omega)] at hr
      rw [xu_row (a := 116) (b := 119) (by decide), xu_row (m := m) (a := 116) (b := 119) (by decide)] at hr
      replace hr := hr.go (s_putf t96_51)
      replace hr := hr.go (s_aload_n t96_54 rfl)
      replace hr := hr.go (s_getr t96_55 (hG.1))
      replace hr := hr.go (s_aload_n t96_58 rfl)
      replace hr := hr.go (s_getf t96_59)
      rw [xu_oth (a := 116) (k := 5) (b := 116) (j := 3) (by decide), xu_oth (a := 116) (k := 4) (b := 116) (j := 3) (by decide), xu_same] at hr
      replace hr := hr.go (s_iaload t96_62 (h117))
      rw [xn_nat (show n < 2147483648 by omega)] at hr
      rw [xu_row (a := 116) (b := 117) (by decide), xu_row (a := 116) (b := 117) (by decide), xu_row (m := m) (a := 116) (b := 117) (by decide)] at hr
      obtain ⟨rfl, hs⟩ := hr.iret t96_63
      refine ⟨_, _, hs, rfl, rfl, ?_, ?_, xu_same, fun c hc => ?_⟩
      · rw [xu_oth (by decide), xu_oth (by decide)]; exact xu_same
      · rw [xu_oth (by decide)]; exact xu_same
      · repeat rw [xu_row hc]
    · exact absurd b13 (by omega)
end
section
/-! The class: ears, seat, tell, undo (by program: wip/x/gV6.py). -/
theorem rdV_ok {x : Int32} {R : Nat} (hR : R ≤ 6) (h : ¬ rdV x (Int32.ofNat R) = 0) : ∃ p : Nat, p < R ∧ x = Int32.ofNat p := by
  have qR : (Int32.ofNat R).toInt = (R : Int) := xn_int (by omega)
  unfold rdV at h
  by_cases h1 : x.toInt < 0
  · rw [if_pos h1] at h; exact absurd rfl h
  · rw [if_neg h1] at h
    by_cases h2 : (Int32.ofNat R).toInt ≤ x.toInt
    · rw [if_pos h2] at h; exact absurd rfl h
    · exact ⟨x.toNatClampNeg, by rw [Int32.toNatClampNeg]; omega, xn_of (by omega)⟩
theorem rdV_1 {p R : Nat} (hp : p < R) (hR : R ≤ 6) : rdV (Int32.ofNat p) (Int32.ofNat R) = 1 := by
  have qR : (Int32.ofNat R).toInt = (R : Int) := xn_int (by omega)
  have qp : (Int32.ofNat p).toInt = (p : Int) := xn_int (by omega)
  unfold rdV
  rw [if_neg (by omega), if_neg (by omega)]
theorem mlV_ok {y : Int32} (h : ¬ mlV y = 0) : ∃ v : Nat, v ≤ 60 ∧ y = Int32.ofNat v := by
  unfold mlV at h
  by_cases h1 : y.toInt < 0
  · rw [if_pos h1] at h; exact absurd rfl h
  · rw [if_neg h1] at h
    by_cases h2 : 60 < y.toInt
    · rw [if_pos h2] at h; exact absurd rfl h
    · exact ⟨y.toNatClampNeg, by rw [Int32.toNatClampNeg]; omega, xn_of (by omega)⟩
def EAC (x y : Int32) (R n : Nat) (m : xM) (r : Option Value) (m' : xM) : Prop := (rdV x (Int32.ofNat R) = 0 ∧ r = some (.int 0) ∧ m' = m) ∨ ∃ p : Nat, p < R ∧ x = Int32.ofNat p ∧ ((m (55 + 3 + 2 * p) 4 = y ∧ r = some (.int 0) ∧ m' = m) ∨ (¬ m (55 + 3 + 2 * p) 4 = y ∧ r = some (.int 1) ∧ PSH n 1 (Int32.ofNat p) (if y = 0 then 1 else 0) (xu m (55 + 3 + 2 * p) 4 y) m'))
def SEC (x y : Int32) (R n : Nat) (m : xM) (r : Option Value) (m' : xM) : Prop := ((rdV x (Int32.ofNat R) = 0 ∨ y.toInt < 0 ∨ 9 < y.toInt) ∧ r = some (.int 0) ∧ m' = m) ∨ ∃ p : Nat, p < R ∧ x = Int32.ofNat p ∧ 0 ≤ y.toInt ∧ y.toInt ≤ 9 ∧ ((m (55 + 3 + 2 * p) 2 = y ∧ r = some (.int 0) ∧ m' = m) ∨ (¬ m (55 + 3 + 2 * p) 2 = y ∧ r = some (.int 1) ∧ ∃ m1 : xM, PSH n 2 (Int32.ofNat p) (m (55 + 3 + 2 * p) 2) m m1 ∧ m' = xu m1 (55 + 3 + 2 * p) 2 y))
def TEC (x y z : Int32) (J n : Nat) (m : xM) (g : xL) (r : Option Value) (m' : xM) (g' : xL) : Prop := ((rdV x (Int32.ofNat J) = 0 ∨ mlV y = 0) ∧ r = some (.int 0) ∧ m' = m ∧ g' = g) ∨ ∃ j : Nat, j < J ∧ x = Int32.ofNat j ∧ ∃ v : Nat, v ≤ 60 ∧ y = Int32.ofNat v ∧ ((bI (bl (g 57 j) v) = z ∧ r = some (.int 0) ∧ m' = m ∧ g' = g) ∨ (¬ bI (bl (g 57 j) v) = z ∧ r = some (.int 1) ∧ PSH n 3 (Int32.ofNat j) (Int32.ofNat v) m m' ∧ g' = xu g 57 j (stB z (Int32.ofNat v) (g 57 j))))
theorem ct_earsC {nf : Bool} {xs : List Int32} {d : Nat} {m : xM} {g : xL} {G : xG} {x y : Int32} {R n : Nat} (h7 : G.1 0 7 = some 55) (h13 : G.1 0 13 = some 116) (hA : GQ G 55) (hU : GU G) (h3 : m 55 3 = Int32.ofNat R) (hR : R ≤ 6) (hn : n ≤ 20) (hu : m 116 3 = Int32.ofNat n) : CT nf xs d 114 [.ref 0, .int x, .int y] m g G (fun r m' g' => g' = g ∧ EAC x y R n m r m') := by
  refine CT.of (c := 10) (ini := false) (nL := 3) (rt := some .boolean) (tab := zt114) rfl (fun d' r h' N hd hr => ?_)
  replace hr : RR nf xs d' 10 false 3 (some .boolean) zt114 G r h' N (0, [(0, .ref 0), (1, .int x), (2, .int y)], [], m, g) := hr
  have k1 : (1 : Int32).toInt = 1 := rfl
  replace hr := hr.go (s_aload_n t114_0 rfl)
  replace hr := hr.go (s_iload_n t114_1 rfl)
  replace hr := hr.cvI t114_2 rfl rfl (ct_isRiderC h7)
  rw [h3] at hr
  rcases hr.zEq t114_5 with ⟨b5, hr⟩ | ⟨b5, hr⟩
  · replace hr := hr.go (s_k t114_24)
    obtain ⟨rfl, hs⟩ := hr.iret t114_25
    exact ⟨_, _, hs, rfl, Or.inl ⟨b5, rfl, rfl⟩⟩
  · obtain ⟨p, hp, rfl⟩ := rdV_ok hR b5
    replace hr := hr.go (s_aload_n t114_8 rfl)
    replace hr := hr.go (s_getr t114_9 (h7))
    replace hr := hr.go (s_getr t114_12 (hA.1))
    replace hr := hr.go (s_iload_n t114_15 rfl)
    replace hr := hr.go (s_aaload t114_16 (by rw [xn_nat (show p < 2147483648 by omega)]; exact (hA.2.2 p (by omega)).1))
    replace hr := hr.go (s_getf t114_17)
    replace hr := hr.go (s_iload_n t114_20 rfl)
    rcases hr.bNe t114_21 with ⟨b21, hr⟩ | ⟨b21, hr⟩
    · replace hr := hr.go (s_aload_n t114_26 rfl)
      replace hr := hr.go (s_getr t114_27 (h7))
      replace hr := hr.go (s_getr t114_30 (hA.1))
      replace hr := hr.go (s_iload_n t114_33 rfl)
      replace hr := hr.go (s_aaload t114_34 (by rw [xn_nat (show p < 2147483648 by omega)]; exact (hA.2.2 p (by omega)).1))
      replace hr := hr.go (s_iload_n t114_35 rfl)
      replace hr := hr.go (s_putf t114_36)
      replace hr := hr.go (s_aload_n t114_39 rfl)
      replace hr := hr.go (s_getr t114_40 (h13))
      replace hr := hr.go (s_k t114_43)
      replace hr := hr.go (s_iload_n t114_44 rfl)
      replace hr := hr.go (s_iload_n t114_45 rfl)
      rcases hr.zEq t114_46 with ⟨b46, hr⟩ | ⟨b46, hr⟩
      · replace hr := hr.go (s_k t114_53)
        obtain ⟨m1, hq, hr⟩ := hr.fvN t114_54 rfl rfl (ct_push (n := n) (kd := 1) (w := Int32.ofNat p) (v := 1) hU hn (by rw [xu_row (by omega)]; exact hu))
        skip
        replace hr := hr.go (s_k t114_57)
        obtain ⟨rfl, hs⟩ := hr.iret t114_58
        exact ⟨_, _, hs, rfl, Or.inr ⟨p, hp, rfl, Or.inr ⟨b21, rfl, by rw [if_pos b46]; exact hq⟩⟩⟩
      · replace hr := hr.go (s_k t114_49)
        replace hr := hr.go (s_goto t114_50)
        obtain ⟨m1, hq, hr⟩ := hr.fvN t114_54 rfl rfl (ct_push (n := n) (kd := 1) (w := Int32.ofNat p) (v := 0) hU hn (by rw [xu_row (by omega)]; exact hu))
        skip
        replace hr := hr.go (s_k t114_57)
        obtain ⟨rfl, hs⟩ := hr.iret t114_58
        exact ⟨_, _, hs, rfl, Or.inr ⟨p, hp, rfl, Or.inr ⟨b21, rfl, by rw [if_neg b46]; exact hq⟩⟩⟩
    · replace hr := hr.go (s_k t114_24)
      obtain ⟨rfl, hs⟩ := hr.iret t114_25
      exact ⟨_, _, hs, rfl, Or.inr ⟨p, hp, rfl, Or.inl ⟨b21, rfl, rfl⟩⟩⟩
theorem ct_seatC {nf : Bool} {xs : List Int32} {d : Nat} {m : xM} {g : xL} {G : xG} {x y : Int32} {R n : Nat} (h7 : G.1 0 7 = some 55) (h13 : G.1 0 13 = some 116) (hA : GQ G 55) (hU : GU G) (h3 : m 55 3 = Int32.ofNat R) (hR : R ≤ 6) (hn : n ≤ 20) (hu : m 116 3 = Int32.ofNat n) : CT nf xs d 115 [.ref 0, .int x, .int y] m g G (fun r m' g' => g' = g ∧ SEC x y R n m r m') := by
  refine CT.of (c := 10) (ini := false) (nL := 4) (rt := some .boolean) (tab := zt115) rfl (fun d' r h' N hd hr => ?_)
  replace hr : RR nf xs d' 10 false 4 (some .boolean) zt115 G r h' N (0, [(0, .ref 0), (1, .int x), (2, .int y)], [], m, g) := hr
  have k1 : (1 : Int32).toInt = 1 := rfl
  have k2 : (2 : Int32).toInt = 2 := rfl
  have k9 : (9 : Int32).toInt = 9 := rfl
  replace hr := hr.go (s_aload_n t115_0 rfl)
  replace hr := hr.go (s_iload_n t115_1 rfl)
  replace hr := hr.cvI t115_2 rfl rfl (ct_isRiderC h7)
  rw [h3] at hr
  rcases hr.zEq t115_5 with ⟨b5, hr⟩ | ⟨b5, hr⟩
  · replace hr := hr.go (s_k t115_18)
    obtain ⟨rfl, hs⟩ := hr.iret t115_19
    exact ⟨_, _, hs, rfl, Or.inl ⟨Or.inl b5, rfl, rfl⟩⟩
  · replace hr := hr.go (s_iload_n t115_8 rfl)
    rcases hr.zLt t115_9 with ⟨b9, hr⟩ | ⟨b9, hr⟩
    · replace hr := hr.go (s_k t115_18)
      obtain ⟨rfl, hs⟩ := hr.iret t115_19
      exact ⟨_, _, hs, rfl, Or.inl ⟨Or.inr (Or.inl b9), rfl, rfl⟩⟩
    · replace hr := hr.go (s_iload_n t115_12 rfl)
      replace hr := hr.go (s_k t115_13)
      rcases hr.bLe t115_15 with ⟨b15, hr⟩ | ⟨b15, hr⟩
      · obtain ⟨p, hp, rfl⟩ := rdV_ok hR b5
        replace hr := hr.go (s_aload_n t115_20 rfl)
        replace hr := hr.go (s_getr t115_21 (h7))
        replace hr := hr.go (s_getr t115_24 (hA.1))
        replace hr := hr.go (s_iload_n t115_27 rfl)
        replace hr := hr.go (s_aaload t115_28 (by rw [xn_nat (show p < 2147483648 by omega)]; exact (hA.2.2 p (by omega)).1))
        replace hr := hr.go (s_astore_n (ls' := [(3, _), (0, _), (1, _), (2, _)]) t115_29 rfl)
        replace hr := hr.go (s_aload_n t115_30 rfl)
        replace hr := hr.go (s_getf t115_31)
        replace hr := hr.go (s_iload_n t115_34 rfl)
        rcases hr.bNe t115_35 with ⟨b35, hr⟩ | ⟨b35, hr⟩
        · replace hr := hr.go (s_aload_n t115_40 rfl)
          replace hr := hr.go (s_getr t115_41 (h13))
          replace hr := hr.go (s_k t115_44)
          replace hr := hr.go (s_iload_n t115_45 rfl)
          replace hr := hr.go (s_aload_n t115_46 rfl)
          replace hr := hr.go (s_getf t115_47)
          obtain ⟨m1, hq, hr⟩ := hr.fvN t115_50 rfl rfl (ct_push (n := n) (kd := 2) (w := Int32.ofNat p) (v := m (55 + 3 + 2 * p) 2) hU hn (hu))
          skip
          replace hr := hr.go (s_aload_n t115_53 rfl)
          replace hr := hr.go (s_iload_n t115_54 rfl)
          replace hr := hr.go (s_putf t115_55)
          replace hr := hr.go (s_k t115_58)
          obtain ⟨rfl, hs⟩ := hr.iret t115_59
          exact ⟨_, _, hs, rfl, Or.inr ⟨p, hp, rfl, b9, by omega, Or.inr ⟨b35, rfl, m1, hq, rfl⟩⟩⟩
        · replace hr := hr.go (s_k t115_38)
          obtain ⟨rfl, hs⟩ := hr.iret t115_39
          exact ⟨_, _, hs, rfl, Or.inr ⟨p, hp, rfl, b9, by omega, Or.inl ⟨b35, rfl, rfl⟩⟩⟩
      · replace hr := hr.go (s_k t115_18)
        obtain ⟨rfl, hs⟩ := hr.iret t115_19
        exact ⟨_, _, hs, rfl, Or.inl ⟨Or.inr (Or.inr (by omega)), rfl, rfl⟩⟩
theorem ct_tellC {nf : Bool} {xs : List Int32} {d : Nat} {m : xM} {g : xL} {G : xG} {P : Nat} {x y z : Int32} {J n : Nat} (h7 : G.1 0 7 = some 55) (h13 : G.1 0 13 = some 116) (h5 : G.1 0 5 = some P) (h2 : G.1 P 2 = some (P + 5)) (hA : GQ G 55) (hU : GU G) (h3 : m (P + 5) 3 = Int32.ofNat J) (hJ : J ≤ 6) (hn : n ≤ 20) (hu : m 116 3 = Int32.ofNat n) : CT nf xs d 116 [.ref 0, .int x, .int y, .int z] m g G (fun r m' g' => TEC x y z J n m g r m' g') := by
  refine CT.of (c := 10) (ini := false) (nL := 4) (rt := some .boolean) (tab := zt116) rfl (fun d' r h' N hd hr => ?_)
  replace hr : RR nf xs d' 10 false 4 (some .boolean) zt116 G r h' N (0, [(0, .ref 0), (1, .int x), (2, .int y), (3, .int z)], [], m, g) := hr
  have k1 : (1 : Int32).toInt = 1 := rfl
  have k3 : (3 : Int32).toInt = 3 := rfl
  replace hr := hr.go (s_aload_n t116_0 rfl)
  replace hr := hr.go (s_iload_n t116_1 rfl)
  replace hr := hr.cvI t116_2 rfl rfl (ct_isJokeC h5 h2)
  rw [h3] at hr
  rcases hr.zEq t116_5 with ⟨b5, hr⟩ | ⟨b5, hr⟩
  · replace hr := hr.go (s_k t116_28)
    obtain ⟨rfl, hs⟩ := hr.iret t116_29
    exact ⟨_, _, hs, Or.inl ⟨Or.inl b5, rfl, rfl, rfl⟩⟩
  · replace hr := hr.go (s_iload_n t116_8 rfl)
    replace hr := hr.csI t116_9 rfl rfl (ct_isMileC)
    rcases hr.zEq t116_12 with ⟨b12, hr⟩ | ⟨b12, hr⟩
    · replace hr := hr.go (s_k t116_28)
      obtain ⟨rfl, hs⟩ := hr.iret t116_29
      exact ⟨_, _, hs, Or.inl ⟨Or.inr b12, rfl, rfl, rfl⟩⟩
    · obtain ⟨j, hj, rfl⟩ := rdV_ok hJ b5
      obtain ⟨v, hv, rfl⟩ := mlV_ok b12
      replace hr := hr.go (s_aload_n t116_15 rfl)
      replace hr := hr.go (s_getr t116_16 (h7))
      replace hr := hr.go (s_iload_n t116_19 rfl)
      replace hr := hr.go (s_iload_n t116_20 rfl)
      replace hr := hr.cvI t116_21 rfl rfl (ct_isToldR (a := 55) (j := j) (v := v) hA.2.1 (by omega) (by omega))
      replace hr := hr.go (s_iload_n t116_24 rfl)
      rcases hr.bNe t116_25 with ⟨b25, hr⟩ | ⟨b25, hr⟩
      · replace hr := hr.go (s_aload_n t116_30 rfl)
        replace hr := hr.go (s_getr t116_31 (h7))
        replace hr := hr.go (s_iload_n t116_34 rfl)
        replace hr := hr.go (s_iload_n t116_35 rfl)
        replace hr := hr.go (s_iload_n t116_36 rfl)
        replace hr := hr.cvN t116_37 rfl rfl (ct_setToldR (a := 55) (j := j) (y := Int32.ofNat v) (z := z) hA.2.1 (by omega))
        replace hr := hr.go (s_aload_n t116_40 rfl)
        replace hr := hr.go (s_getr t116_41 (h13))
        replace hr := hr.go (s_k t116_44)
        replace hr := hr.go (s_iload_n t116_45 rfl)
        replace hr := hr.go (s_iload_n t116_46 rfl)
        obtain ⟨m1, hq, hr⟩ := hr.fvN t116_47 rfl rfl (ct_push (n := n) (kd := 3) (w := Int32.ofNat j) (v := Int32.ofNat v) hU hn (hu))
        skip
        replace hr := hr.go (s_k t116_50)
        obtain ⟨rfl, hs⟩ := hr.iret t116_51
        exact ⟨_, _, hs, Or.inr ⟨j, hj, rfl, v, hv, rfl, Or.inr ⟨b25, rfl, hq, rfl⟩⟩⟩
      · replace hr := hr.go (s_k t116_28)
        obtain ⟨rfl, hs⟩ := hr.iret t116_29
        exact ⟨_, _, hs, Or.inr ⟨j, hj, rfl, v, hv, rfl, Or.inl ⟨b25, rfl, rfl, rfl⟩⟩⟩
theorem ct_undoC0 {nf : Bool} {xs : List Int32} {d : Nat} {m : xM} {g : xL} {G : xG} (h13 : G.1 0 13 = some 116) (hu : m 116 3 = 0) : CT nf xs d 117 [.ref 0] m g G (PE (some (.int (-1))) m g) := by
  refine CT.of (c := 10) (ini := false) (nL := 4) (rt := some .int) (tab := zt117) rfl (fun d' r h' N hd hr => ?_)
  replace hr : RR nf xs d' 10 false 4 (some .int) zt117 G r h' N (0, [(0, .ref 0)], [], m, g) := hr
  have km1 : (-1 : Int32).toInt = -1 := rfl
  have k1 : (1 : Int32).toInt = 1 := rfl
  have k2 : (2 : Int32).toInt = 2 := rfl
  have k3 : (3 : Int32).toInt = 3 := rfl
  replace hr := hr.go (s_aload_n t117_0 rfl)
  replace hr := hr.go (s_getr t117_1 (h13))
  replace hr := hr.cvI t117_4 rfl rfl (ct_pop0 hu)
  replace hr := hr.go (s_istore_n (ls' := [(1, _), (0, _)]) t117_7 rfl)
  replace hr := hr.go (s_aload_n t117_8 rfl)
  replace hr := hr.go (s_getr t117_9 (h13))
  replace hr := hr.go (s_getf t117_12)
  replace hr := hr.go (s_istore_n (ls' := [(2, _), (1, _), (0, _)]) t117_15 rfl)
  replace hr := hr.go (s_aload_n t117_16 rfl)
  replace hr := hr.go (s_getr t117_17 (h13))
  replace hr := hr.go (s_getf t117_20)
  replace hr := hr.go (s_istore_n (ls' := [(3, _), (2, _), (1, _), (0, _)]) t117_23 rfl)
  replace hr := hr.go (s_iload_n t117_24 rfl)
  replace hr := hr.bzF t117_25 (by decide)
  replace hr := hr.go (s_k t117_28)
  obtain ⟨rfl, hs⟩ := hr.iret t117_29
  exact ⟨_, _, hs, rfl, rfl, rfl⟩
theorem ct_undoC1 {nf : Bool} {xs : List Int32} {d : Nat} {m : xM} {g : xL} {G : xG} {p R : Nat} {n : Nat} (h7 : G.1 0 7 = some 55) (h13 : G.1 0 13 = some 116) (hA : GQ G 55) (hU : GU G) (hn : n < 20) (hu : m 116 3 = Int32.ofNat (n + 1)) (hk : m 117 n = 1) (hw : m 118 n = Int32.ofNat p) (h3 : m 55 3 = Int32.ofNat R) (hp : p < R) (hR : R ≤ 6) : CT nf xs d 117 [.ref 0] m g G (fun r m' g' => r = some (.int (Int32.ofNat n)) ∧ g' = g ∧ ∃ mp : xM, mp 116 3 = Int32.ofNat n ∧ (∀ c : Nat, ¬ c = 116 → mp c = m c) ∧ m' = xu mp (55 + 3 + 2 * p) 4 (if m 119 n = 1 then 1 else 0)) := by
  refine CT.of (c := 10) (ini := false) (nL := 4) (rt := some .int) (tab := zt117) rfl (fun d' r h' N hd hr => ?_)
  replace hr : RR nf xs d' 10 false 4 (some .int) zt117 G r h' N (0, [(0, .ref 0)], [], m, g) := hr
  have km1 : (-1 : Int32).toInt = -1 := rfl
  have k1 : (1 : Int32).toInt = 1 := rfl
  have k2 : (2 : Int32).toInt = 2 := rfl
  have k3 : (3 : Int32).toInt = 3 := rfl
  replace hr := hr.go (s_aload_n t117_0 rfl)
  replace hr := hr.go (s_getr t117_1 (h13))
  obtain ⟨mp, ⟨e3, e4, e5, eo⟩, hr⟩ := hr.fvI t117_4 rfl rfl (ct_pop (n := n) hU hn hu)
  rw [hk] at hr
  skip
  replace hr := hr.go (s_istore_n (ls' := [(1, _), (0, _)]) t117_7 rfl)
  replace hr := hr.go (s_aload_n t117_8 rfl)
  replace hr := hr.go (s_getr t117_9 (h13))
  replace hr := hr.go (s_getf t117_12)
  rw [e4, hw] at hr
  replace hr := hr.go (s_istore_n (ls' := [(2, _), (1, _), (0, _)]) t117_15 rfl)
  replace hr := hr.go (s_aload_n t117_16 rfl)
  replace hr := hr.go (s_getr t117_17 (h13))
  replace hr := hr.go (s_getf t117_20)
  rw [e5] at hr
  replace hr := hr.go (s_istore_n (ls' := [(3, _), (2, _), (1, _), (0, _)]) t117_23 rfl)
  replace hr := hr.go (s_iload_n t117_24 rfl)
  replace hr := hr.bzT t117_25 (by decide)
  have er : rdV (Int32.ofNat p) (mp 55 3) = 1 := by rw [eo 55 (by decide), h3]; exact rdV_1 hp hR
  replace hr := hr.go (s_iload_n t117_30 rfl)
  replace hr := hr.go (s_k t117_31)
  replace hr := hr.brT t117_32 (by decide)
  replace hr := hr.go (s_iload_n t117_72 rfl)
  replace hr := hr.go (s_k t117_73)
  replace hr := hr.brF t117_74 (by decide)
  replace hr := hr.go (s_aload_n t117_77 rfl)
  replace hr := hr.go (s_iload_n t117_78 rfl)
  replace hr := hr.cvI t117_79 rfl rfl (ct_isRiderC h7)
  rw [er] at hr
  rcases hr.zEq t117_82 with ⟨b82, hr⟩ | ⟨b82, hr⟩
  · exact absurd b82 (by decide)
  · replace hr := hr.go (s_aload_n t117_85 rfl)
    replace hr := hr.go (s_getr t117_86 (h7))
    replace hr := hr.go (s_getr t117_89 (hA.1))
    replace hr := hr.go (s_iload_n t117_92 rfl)
    replace hr := hr.go (s_aaload t117_93 (by rw [xn_nat (show p < 2147483648 by omega)]; exact (hA.2.2 p (by omega)).1))
    replace hr := hr.go (s_iload_n t117_94 rfl)
    replace hr := hr.go (s_k t117_95)
    rcases hr.bNe t117_96 with ⟨b96, hr⟩ | ⟨b96, hr⟩
    · replace hr := hr.go (s_k t117_103)
      replace hr := hr.go (s_putf t117_104)
      replace hr := hr.go (s_goto t117_107)
      replace hr := hr.go (s_aload_n t117_136 rfl)
      replace hr := hr.go (s_getr t117_137 (h13))
      replace hr := hr.go (s_getf t117_140)
      obtain ⟨rfl, hs⟩ := hr.iret t117_143
      exact ⟨_, _, hs, by rw [xu_row (by omega), e3], rfl, mp, e3, eo, by rw [if_neg b96]⟩
    · replace hr := hr.go (s_k t117_99)
      replace hr := hr.go (s_goto t117_100)
      replace hr := hr.go (s_putf t117_104)
      replace hr := hr.go (s_goto t117_107)
      replace hr := hr.go (s_aload_n t117_136 rfl)
      replace hr := hr.go (s_getr t117_137 (h13))
      replace hr := hr.go (s_getf t117_140)
      obtain ⟨rfl, hs⟩ := hr.iret t117_143
      exact ⟨_, _, hs, by rw [xu_row (by omega), e3], rfl, mp, e3, eo, by rw [if_pos b96]⟩
theorem ct_undoC2 {nf : Bool} {xs : List Int32} {d : Nat} {m : xM} {g : xL} {G : xG} {p R : Nat} {n : Nat} (h7 : G.1 0 7 = some 55) (h13 : G.1 0 13 = some 116) (hA : GQ G 55) (hU : GU G) (hn : n < 20) (hu : m 116 3 = Int32.ofNat (n + 1)) (hk : m 117 n = 2) (hw : m 118 n = Int32.ofNat p) (h3 : m 55 3 = Int32.ofNat R) (hp : p < R) (hR : R ≤ 6) : CT nf xs d 117 [.ref 0] m g G (fun r m' g' => r = some (.int (Int32.ofNat n)) ∧ g' = g ∧ ∃ mp : xM, mp 116 3 = Int32.ofNat n ∧ (∀ c : Nat, ¬ c = 116 → mp c = m c) ∧ m' = xu mp (55 + 3 + 2 * p) 2 (m 119 n)) := by
  refine CT.of (c := 10) (ini := false) (nL := 4) (rt := some .int) (tab := zt117) rfl (fun d' r h' N hd hr => ?_)
  replace hr : RR nf xs d' 10 false 4 (some .int) zt117 G r h' N (0, [(0, .ref 0)], [], m, g) := hr
  have km1 : (-1 : Int32).toInt = -1 := rfl
  have k1 : (1 : Int32).toInt = 1 := rfl
  have k2 : (2 : Int32).toInt = 2 := rfl
  have k3 : (3 : Int32).toInt = 3 := rfl
  replace hr := hr.go (s_aload_n t117_0 rfl)
  replace hr := hr.go (s_getr t117_1 (h13))
  obtain ⟨mp, ⟨e3, e4, e5, eo⟩, hr⟩ := hr.fvI t117_4 rfl rfl (ct_pop (n := n) hU hn hu)
  rw [hk] at hr
  skip
  replace hr := hr.go (s_istore_n (ls' := [(1, _), (0, _)]) t117_7 rfl)
  replace hr := hr.go (s_aload_n t117_8 rfl)
  replace hr := hr.go (s_getr t117_9 (h13))
  replace hr := hr.go (s_getf t117_12)
  rw [e4, hw] at hr
  replace hr := hr.go (s_istore_n (ls' := [(2, _), (1, _), (0, _)]) t117_15 rfl)
  replace hr := hr.go (s_aload_n t117_16 rfl)
  replace hr := hr.go (s_getr t117_17 (h13))
  replace hr := hr.go (s_getf t117_20)
  rw [e5] at hr
  replace hr := hr.go (s_istore_n (ls' := [(3, _), (2, _), (1, _), (0, _)]) t117_23 rfl)
  replace hr := hr.go (s_iload_n t117_24 rfl)
  replace hr := hr.bzT t117_25 (by decide)
  have er : rdV (Int32.ofNat p) (mp 55 3) = 1 := by rw [eo 55 (by decide), h3]; exact rdV_1 hp hR
  replace hr := hr.go (s_iload_n t117_30 rfl)
  replace hr := hr.go (s_k t117_31)
  replace hr := hr.brT t117_32 (by decide)
  replace hr := hr.go (s_iload_n t117_72 rfl)
  replace hr := hr.go (s_k t117_73)
  replace hr := hr.brT t117_74 (by decide)
  replace hr := hr.go (s_iload_n t117_110 rfl)
  replace hr := hr.go (s_k t117_111)
  replace hr := hr.brF t117_112 (by decide)
  replace hr := hr.go (s_aload_n t117_115 rfl)
  replace hr := hr.go (s_iload_n t117_116 rfl)
  replace hr := hr.cvI t117_117 rfl rfl (ct_isRiderC h7)
  rw [er] at hr
  rcases hr.zEq t117_120 with ⟨b120, hr⟩ | ⟨b120, hr⟩
  · exact absurd b120 (by decide)
  · replace hr := hr.go (s_aload_n t117_123 rfl)
    replace hr := hr.go (s_getr t117_124 (h7))
    replace hr := hr.go (s_getr t117_127 (hA.1))
    replace hr := hr.go (s_iload_n t117_130 rfl)
    replace hr := hr.go (s_aaload t117_131 (by rw [xn_nat (show p < 2147483648 by omega)]; exact (hA.2.2 p (by omega)).1))
    replace hr := hr.go (s_iload_n t117_132 rfl)
    replace hr := hr.go (s_putf t117_133)
    replace hr := hr.go (s_aload_n t117_136 rfl)
    replace hr := hr.go (s_getr t117_137 (h13))
    replace hr := hr.go (s_getf t117_140)
    obtain ⟨rfl, hs⟩ := hr.iret t117_143
    exact ⟨_, _, hs, by rw [xu_row (by omega), e3], rfl, mp, e3, eo, rfl⟩
theorem ct_undoC3 {nf : Bool} {xs : List Int32} {d : Nat} {m : xM} {g : xL} {G : xG} {P j v J : Nat} {n : Nat} (h7 : G.1 0 7 = some 55) (h13 : G.1 0 13 = some 116) (hA : GQ G 55) (hU : GU G) (hn : n < 20) (hu : m 116 3 = Int32.ofNat (n + 1)) (hk : m 117 n = 3) (h5 : G.1 0 5 = some P) (h2 : G.1 P 2 = some (P + 5)) (hP : P ≤ 31) (hw : m 118 n = Int32.ofNat j) (hv0 : m 119 n = Int32.ofNat v) (h3 : m (P + 5) 3 = Int32.ofNat J) (hj : j < J) (hJ : J ≤ 6) (hv : v ≤ 60) : CT nf xs d 117 [.ref 0] m g G (fun r m' g' => r = some (.int (Int32.ofNat n)) ∧ g' = xu g 57 j (flB (Int32.ofNat v) (g 57 j)) ∧ m' 116 3 = Int32.ofNat n ∧ ∀ c : Nat, ¬ c = 116 → m' c = m c) := by
  refine CT.of (c := 10) (ini := false) (nL := 4) (rt := some .int) (tab := zt117) rfl (fun d' r h' N hd hr => ?_)
  replace hr : RR nf xs d' 10 false 4 (some .int) zt117 G r h' N (0, [(0, .ref 0)], [], m, g) := hr
  have km1 : (-1 : Int32).toInt = -1 := rfl
  have k1 : (1 : Int32).toInt = 1 := rfl
  have k2 : (2 : Int32).toInt = 2 := rfl
  have k3 : (3 : Int32).toInt = 3 := rfl
  replace hr := hr.go (s_aload_n t117_0 rfl)
  replace hr := hr.go (s_getr t117_1 (h13))
  obtain ⟨mp, ⟨e3, e4, e5, eo⟩, hr⟩ := hr.fvI t117_4 rfl rfl (ct_pop (n := n) hU hn hu)
  rw [hk] at hr
  skip
  replace hr := hr.go (s_istore_n (ls' := [(1, _), (0, _)]) t117_7 rfl)
  replace hr := hr.go (s_aload_n t117_8 rfl)
  replace hr := hr.go (s_getr t117_9 (h13))
  replace hr := hr.go (s_getf t117_12)
  rw [e4, hw] at hr
  replace hr := hr.go (s_istore_n (ls' := [(2, _), (1, _), (0, _)]) t117_15 rfl)
  replace hr := hr.go (s_aload_n t117_16 rfl)
  replace hr := hr.go (s_getr t117_17 (h13))
  replace hr := hr.go (s_getf t117_20)
  rw [e5, hv0] at hr
  replace hr := hr.go (s_istore_n (ls' := [(3, _), (2, _), (1, _), (0, _)]) t117_23 rfl)
  replace hr := hr.go (s_iload_n t117_24 rfl)
  replace hr := hr.bzT t117_25 (by decide)
  have er : rdV (Int32.ofNat j) (mp (P + 5) 3) = 1 := by rw [eo (P + 5) (by omega), h3]; exact rdV_1 hj hJ
  replace hr := hr.go (s_iload_n t117_30 rfl)
  replace hr := hr.go (s_k t117_31)
  replace hr := hr.brF t117_32 (by decide)
  replace hr := hr.go (s_aload_n t117_35 rfl)
  replace hr := hr.go (s_iload_n t117_36 rfl)
  replace hr := hr.cvI t117_37 rfl rfl (ct_isJokeC h5 h2)
  rw [er] at hr
  rcases hr.zEq t117_40 with ⟨b40, hr⟩ | ⟨b40, hr⟩
  · exact absurd b40 (by decide)
  · replace hr := hr.go (s_aload_n t117_43 rfl)
    replace hr := hr.go (s_getr t117_44 (h7))
    replace hr := hr.go (s_iload_n t117_47 rfl)
    replace hr := hr.go (s_iload_n t117_48 rfl)
    replace hr := hr.go (s_aload_n t117_49 rfl)
    replace hr := hr.go (s_getr t117_50 (h7))
    replace hr := hr.go (s_iload_n t117_53 rfl)
    replace hr := hr.go (s_iload_n t117_54 rfl)
    replace hr := hr.cvI t117_55 rfl rfl (ct_isToldR (a := 55) (j := j) (v := v) hA.2.1 (by omega) (by omega))
    rcases hr.zNe t117_58 with ⟨b58, hr⟩ | ⟨b58, hr⟩
    · replace hr := hr.go (s_k t117_65)
      replace hr := hr.cvN t117_66 rfl rfl (ct_setToldR (a := 55) (j := j) (y := Int32.ofNat v) hA.2.1 (by omega))
      replace hr := hr.go (s_goto t117_69)
      replace hr := hr.go (s_aload_n t117_136 rfl)
      replace hr := hr.go (s_getr t117_137 (h13))
      replace hr := hr.go (s_getf t117_140)
      obtain ⟨rfl, hs⟩ := hr.iret t117_143
      refine ⟨_, _, hs, by rw [e3], ?_, e3, eo⟩
      rw [st_fl (by omega)]
      intro q
      have h1 := q.mp (bI_1 b58)
      exact h1 rfl
    · replace hr := hr.go (s_k t117_61)
      replace hr := hr.go (s_goto t117_62)
      replace hr := hr.cvN t117_66 rfl rfl (ct_setToldR (a := 55) (j := j) (y := Int32.ofNat v) hA.2.1 (by omega))
      replace hr := hr.go (s_goto t117_69)
      replace hr := hr.go (s_aload_n t117_136 rfl)
      replace hr := hr.go (s_getr t117_137 (h13))
      replace hr := hr.go (s_getf t117_140)
      obtain ⟨rfl, hs⟩ := hr.iret t117_143
      refine ⟨_, _, hs, by rw [e3], ?_, e3, eo⟩
      rw [st_fl (by omega)]
      intro q
      have h1 := q.mpr (by decide)
      rw [h1] at b58
      exact absurd b58 (by decide)
end
section
/-! The reference: ears, seat, tell, undo (by program: wip/x/gV7.py). -/
theorem t192_0 : xt zt192 0 1 (.iload_n 1) := ⟨rfl, rfl⟩
theorem t192_1 : xtb zt192 1 4 18 (.ifCond .lt 17) (17) := ⟨rfl, rfl, rfl⟩
theorem t192_4 : xt zt192 4 5 (.iload_n 1) := ⟨rfl, rfl⟩
theorem t192_5 : xt zt192 5 6 (.aload_n 0) := ⟨rfl, rfl⟩
theorem t192_6 : xtf zt192 11 6 9 (.getfield 13) 13 11 3 3 := ⟨rfl, rfl, rfl, rfl⟩
theorem t192_9 : xtk zt192 9 10 (2) := Or.inl ⟨2, ⟨rfl, rfl⟩, by decide⟩
theorem t192_10 : xt zt192 10 11 .iaload := ⟨rfl, rfl⟩
theorem t192_11 : xtb zt192 11 14 18 (.if_icmp .ge 7) (7) := ⟨rfl, rfl, rfl⟩
theorem t192_14 : xtk zt192 14 15 (1) := Or.inl ⟨1, ⟨rfl, rfl⟩, by decide⟩
theorem t192_15 : xtb zt192 15 18 19 (.goto 4) (4) := ⟨rfl, rfl, rfl⟩
theorem t192_18 : xtk zt192 18 19 (0) := Or.inl ⟨0, ⟨rfl, rfl⟩, by decide⟩
theorem t192_19 : xt zt192 19 20 .ireturn := ⟨rfl, rfl⟩
theorem t225_0 : xt zt225 0 1 (.aload_n 0) := ⟨rfl, rfl⟩
theorem t225_1 : xtk zt225 1 2 (0) := Or.inl ⟨0, ⟨rfl, rfl⟩, by decide⟩
theorem t225_2 : xtf zt225 11 2 5 (.putfield 166) 166 11 0 1 := ⟨rfl, rfl, rfl, rfl⟩
theorem t225_5 : xt zt225 5 6 (.aload_n 0) := ⟨rfl, rfl⟩
theorem t225_6 : xt zt225 6 7 (.iload_n 1) := ⟨rfl, rfl⟩
theorem t225_7 : xtc zt225 11 7 10 (.invokevirtual 455) 455 1 191 1 := ⟨rfl, rfl, rfl⟩
theorem t225_10 : xtb zt225 10 13 36 (.ifCond .eq 26) (26) := ⟨rfl, rfl, rfl⟩
theorem t225_13 : xt zt225 13 14 (.aload_n 0) := ⟨rfl, rfl⟩
theorem t225_14 : xtf zt225 11 14 17 (.getfield 93) 93 11 42 3 := ⟨rfl, rfl, rfl, rfl⟩
theorem t225_17 : xtk zt225 17 18 (0) := Or.inl ⟨0, ⟨rfl, rfl⟩, by decide⟩
theorem t225_18 : xt zt225 18 19 .iaload := ⟨rfl, rfl⟩
theorem t225_19 : xt zt225 19 20 (.iload_n 1) := ⟨rfl, rfl⟩
theorem t225_20 : xt zt225 20 21 .ishr := ⟨rfl, rfl⟩
theorem t225_21 : xtk zt225 21 22 (1) := Or.inl ⟨1, ⟨rfl, rfl⟩, by decide⟩
theorem t225_22 : xt zt225 22 23 .iand := ⟨rfl, rfl⟩
theorem t225_23 : xtk zt225 23 24 (1) := Or.inl ⟨1, ⟨rfl, rfl⟩, by decide⟩
theorem t225_24 : xtb zt225 24 27 31 (.if_icmp .ne 7) (7) := ⟨rfl, rfl, rfl⟩
theorem t225_27 : xtk zt225 27 28 (1) := Or.inl ⟨1, ⟨rfl, rfl⟩, by decide⟩
theorem t225_28 : xtb zt225 28 31 32 (.goto 4) (4) := ⟨rfl, rfl, rfl⟩
theorem t225_31 : xtk zt225 31 32 (0) := Or.inl ⟨0, ⟨rfl, rfl⟩, by decide⟩
theorem t225_32 : xt zt225 32 33 (.iload_n 2) := ⟨rfl, rfl⟩
theorem t225_33 : xtb zt225 33 36 38 (.if_icmp .ne 5) (5) := ⟨rfl, rfl, rfl⟩
theorem t225_36 : xtk zt225 36 37 (0) := Or.inl ⟨0, ⟨rfl, rfl⟩, by decide⟩
theorem t225_37 : xt zt225 37 38 .ireturn := ⟨rfl, rfl⟩
theorem t225_38 : xt zt225 38 39 (.aload_n 0) := ⟨rfl, rfl⟩
theorem t225_39 : xtc zt225 11 39 42 (.invokevirtual 472) 472 1 224 0 := ⟨rfl, rfl, rfl⟩
theorem t225_42 : xt zt225 42 43 (.aload_n 0) := ⟨rfl, rfl⟩
theorem t225_43 : xtf zt225 11 43 46 (.getfield 93) 93 11 42 3 := ⟨rfl, rfl, rfl, rfl⟩
theorem t225_46 : xtk zt225 46 47 (0) := Or.inl ⟨0, ⟨rfl, rfl⟩, by decide⟩
theorem t225_47 : xt zt225 47 48 .dup2 := ⟨rfl, rfl⟩
theorem t225_48 : xt zt225 48 49 .iaload := ⟨rfl, rfl⟩
theorem t225_49 : xtk zt225 49 50 (1) := Or.inl ⟨1, ⟨rfl, rfl⟩, by decide⟩
theorem t225_50 : xt zt225 50 51 (.iload_n 1) := ⟨rfl, rfl⟩
theorem t225_51 : xt zt225 51 52 .ishl := ⟨rfl, rfl⟩
theorem t225_52 : xt zt225 52 53 .ixor := ⟨rfl, rfl⟩
theorem t225_53 : xt zt225 53 54 .iastore := ⟨rfl, rfl⟩
theorem t225_54 : xtk zt225 54 55 (1) := Or.inl ⟨1, ⟨rfl, rfl⟩, by decide⟩
theorem t225_55 : xt zt225 55 56 .ireturn := ⟨rfl, rfl⟩
theorem t226_0 : xt zt226 0 1 (.aload_n 0) := ⟨rfl, rfl⟩
theorem t226_1 : xtk zt226 1 2 (0) := Or.inl ⟨0, ⟨rfl, rfl⟩, by decide⟩
theorem t226_2 : xtf zt226 11 2 5 (.putfield 166) 166 11 0 1 := ⟨rfl, rfl, rfl, rfl⟩
theorem t226_5 : xt zt226 5 6 (.aload_n 0) := ⟨rfl, rfl⟩
theorem t226_6 : xt zt226 6 7 (.iload_n 1) := ⟨rfl, rfl⟩
theorem t226_7 : xtc zt226 11 7 10 (.invokevirtual 455) 455 1 191 1 := ⟨rfl, rfl, rfl⟩
theorem t226_10 : xtb zt226 10 13 33 (.ifCond .eq 23) (23) := ⟨rfl, rfl, rfl⟩
theorem t226_13 : xt zt226 13 14 (.iload_n 2) := ⟨rfl, rfl⟩
theorem t226_14 : xtb zt226 14 17 33 (.ifCond .lt 19) (19) := ⟨rfl, rfl, rfl⟩
theorem t226_17 : xt zt226 17 18 (.iload_n 2) := ⟨rfl, rfl⟩
theorem t226_18 : xtk zt226 18 20 (9) := Or.inr (Or.inl ⟨9, ⟨rfl, rfl⟩, by decide⟩)
theorem t226_20 : xtb zt226 20 23 33 (.if_icmp .gt 13) (13) := ⟨rfl, rfl, rfl⟩
theorem t226_23 : xt zt226 23 24 (.aload_n 0) := ⟨rfl, rfl⟩
theorem t226_24 : xtf zt226 11 24 27 (.getfield 96) 96 11 43 3 := ⟨rfl, rfl, rfl, rfl⟩
theorem t226_27 : xt zt226 27 28 (.iload_n 1) := ⟨rfl, rfl⟩
theorem t226_28 : xt zt226 28 29 .iaload := ⟨rfl, rfl⟩
theorem t226_29 : xt zt226 29 30 (.iload_n 2) := ⟨rfl, rfl⟩
theorem t226_30 : xtb zt226 30 33 35 (.if_icmp .ne 5) (5) := ⟨rfl, rfl, rfl⟩
theorem t226_33 : xtk zt226 33 34 (0) := Or.inl ⟨0, ⟨rfl, rfl⟩, by decide⟩
theorem t226_34 : xt zt226 34 35 .ireturn := ⟨rfl, rfl⟩
theorem t226_35 : xt zt226 35 36 (.aload_n 0) := ⟨rfl, rfl⟩
theorem t226_36 : xtc zt226 11 36 39 (.invokevirtual 472) 472 1 224 0 := ⟨rfl, rfl, rfl⟩
theorem t226_39 : xt zt226 39 40 (.aload_n 0) := ⟨rfl, rfl⟩
theorem t226_40 : xtf zt226 11 40 43 (.getfield 96) 96 11 43 3 := ⟨rfl, rfl, rfl, rfl⟩
theorem t226_43 : xt zt226 43 44 (.iload_n 1) := ⟨rfl, rfl⟩
theorem t226_44 : xt zt226 44 45 (.iload_n 2) := ⟨rfl, rfl⟩
theorem t226_45 : xt zt226 45 46 .iastore := ⟨rfl, rfl⟩
theorem t226_46 : xtk zt226 46 47 (1) := Or.inl ⟨1, ⟨rfl, rfl⟩, by decide⟩
theorem t226_47 : xt zt226 47 48 .ireturn := ⟨rfl, rfl⟩
theorem t227_0 : xt zt227 0 1 (.aload_n 0) := ⟨rfl, rfl⟩
theorem t227_1 : xtk zt227 1 2 (0) := Or.inl ⟨0, ⟨rfl, rfl⟩, by decide⟩
theorem t227_2 : xtf zt227 11 2 5 (.putfield 166) 166 11 0 1 := ⟨rfl, rfl, rfl, rfl⟩
theorem t227_5 : xt zt227 5 6 (.aload_n 0) := ⟨rfl, rfl⟩
theorem t227_6 : xt zt227 6 7 (.iload_n 1) := ⟨rfl, rfl⟩
theorem t227_7 : xtc zt227 11 7 10 (.invokevirtual 458) 458 1 192 1 := ⟨rfl, rfl, rfl⟩
theorem t227_10 : xtb zt227 10 13 44 (.ifCond .eq 34) (34) := ⟨rfl, rfl, rfl⟩
theorem t227_13 : xt zt227 13 14 (.iload_n 2) := ⟨rfl, rfl⟩
theorem t227_14 : xtc zt227 11 14 17 (.invokestatic 465) 465 2 193 1 := ⟨rfl, rfl, rfl⟩
theorem t227_17 : xtb zt227 17 20 44 (.ifCond .eq 27) (27) := ⟨rfl, rfl, rfl⟩
theorem t227_20 : xt zt227 20 21 (.aload_n 0) := ⟨rfl, rfl⟩
theorem t227_21 : xtf zt227 11 21 24 (.getfield 120) 120 11 51 3 := ⟨rfl, rfl, rfl, rfl⟩
theorem t227_24 : xt zt227 24 25 (.iload_n 1) := ⟨rfl, rfl⟩
theorem t227_25 : xt zt227 25 26 .laload := ⟨rfl, rfl⟩
theorem t227_26 : xt zt227 26 27 (.iload_n 2) := ⟨rfl, rfl⟩
theorem t227_27 : xt zt227 27 28 .lshr := ⟨rfl, rfl⟩
theorem t227_28 : xt zt227 28 29 (.lconst 1) := ⟨rfl, rfl⟩
theorem t227_29 : xt zt227 29 30 .land := ⟨rfl, rfl⟩
theorem t227_30 : xt zt227 30 31 (.lconst 1) := ⟨rfl, rfl⟩
theorem t227_31 : xt zt227 31 32 .lcmp := ⟨rfl, rfl⟩
theorem t227_32 : xtb zt227 32 35 39 (.ifCond .ne 7) (7) := ⟨rfl, rfl, rfl⟩
theorem t227_35 : xtk zt227 35 36 (1) := Or.inl ⟨1, ⟨rfl, rfl⟩, by decide⟩
theorem t227_36 : xtb zt227 36 39 40 (.goto 4) (4) := ⟨rfl, rfl, rfl⟩
theorem t227_39 : xtk zt227 39 40 (0) := Or.inl ⟨0, ⟨rfl, rfl⟩, by decide⟩
theorem t227_40 : xt zt227 40 41 (.iload_n 3) := ⟨rfl, rfl⟩
theorem t227_41 : xtb zt227 41 44 46 (.if_icmp .ne 5) (5) := ⟨rfl, rfl, rfl⟩
theorem t227_44 : xtk zt227 44 45 (0) := Or.inl ⟨0, ⟨rfl, rfl⟩, by decide⟩
theorem t227_45 : xt zt227 45 46 .ireturn := ⟨rfl, rfl⟩
theorem t227_46 : xt zt227 46 47 (.aload_n 0) := ⟨rfl, rfl⟩
theorem t227_47 : xtc zt227 11 47 50 (.invokevirtual 472) 472 1 224 0 := ⟨rfl, rfl, rfl⟩
theorem t227_50 : xt zt227 50 51 (.aload_n 0) := ⟨rfl, rfl⟩
theorem t227_51 : xtf zt227 11 51 54 (.getfield 120) 120 11 51 3 := ⟨rfl, rfl, rfl, rfl⟩
theorem t227_54 : xt zt227 54 55 (.iload_n 1) := ⟨rfl, rfl⟩
theorem t227_55 : xt zt227 55 56 .dup2 := ⟨rfl, rfl⟩
theorem t227_56 : xt zt227 56 57 .laload := ⟨rfl, rfl⟩
theorem t227_57 : xt zt227 57 58 (.lconst 1) := ⟨rfl, rfl⟩
theorem t227_58 : xt zt227 58 59 (.iload_n 2) := ⟨rfl, rfl⟩
theorem t227_59 : xt zt227 59 60 .lshl := ⟨rfl, rfl⟩
theorem t227_60 : xt zt227 60 61 .lxor := ⟨rfl, rfl⟩
theorem t227_61 : xt zt227 61 62 .lastore := ⟨rfl, rfl⟩
theorem t227_62 : xtk zt227 62 63 (1) := Or.inl ⟨1, ⟨rfl, rfl⟩, by decide⟩
theorem t227_63 : xt zt227 63 64 .ireturn := ⟨rfl, rfl⟩
theorem t257_0 : xt zt257 0 1 (.aload_n 0) := ⟨rfl, rfl⟩
theorem t257_1 : xtk zt257 1 2 (0) := Or.inl ⟨0, ⟨rfl, rfl⟩, by decide⟩
theorem t257_2 : xtf zt257 11 2 5 (.putfield 166) 166 11 0 1 := ⟨rfl, rfl, rfl, rfl⟩
theorem t257_5 : xt zt257 5 6 (.aload_n 0) := ⟨rfl, rfl⟩
theorem t257_6 : xtf zt257 11 6 9 (.getfield 326) 326 11 54 1 := ⟨rfl, rfl, rfl, rfl⟩
theorem t257_9 : xtb zt257 9 12 14 (.ifCond .ne 5) (5) := ⟨rfl, rfl, rfl⟩
theorem t257_12 : xtk zt257 12 13 (-1) := Or.inl ⟨-1, ⟨rfl, rfl⟩, by decide⟩
theorem t257_13 : xt zt257 13 14 .ireturn := ⟨rfl, rfl⟩
theorem t257_14 : xt zt257 14 15 (.aload_n 0) := ⟨rfl, rfl⟩
theorem t257_15 : xt zt257 15 16 .dup := ⟨rfl, rfl⟩
theorem t257_16 : xtf zt257 11 16 19 (.getfield 326) 326 11 54 1 := ⟨rfl, rfl, rfl, rfl⟩
theorem t257_19 : xtk zt257 19 20 (1) := Or.inl ⟨1, ⟨rfl, rfl⟩, by decide⟩
theorem t257_20 : xt zt257 20 21 .isub := ⟨rfl, rfl⟩
theorem t257_21 : xtf zt257 11 21 24 (.putfield 326) 326 11 54 1 := ⟨rfl, rfl, rfl, rfl⟩
theorem t257_24 : xt zt257 24 25 (.aload_n 0) := ⟨rfl, rfl⟩
theorem t257_25 : xtk zt257 25 26 (0) := Or.inl ⟨0, ⟨rfl, rfl⟩, by decide⟩
theorem t257_26 : xtk zt257 26 27 (4) := Or.inl ⟨4, ⟨rfl, rfl⟩, by decide⟩
theorem t257_27 : xt zt257 27 28 (.aload_n 0) := ⟨rfl, rfl⟩
theorem t257_28 : xtf zt257 11 28 31 (.getfield 326) 326 11 54 1 := ⟨rfl, rfl, rfl, rfl⟩
theorem t257_31 : xt zt257 31 32 .iadd := ⟨rfl, rfl⟩
theorem t257_32 : xtc zt257 11 32 35 (.invokevirtual 449) 449 1 190 2 := ⟨rfl, rfl, rfl⟩
theorem t257_35 : xt zt257 35 36 (.aload_n 0) := ⟨rfl, rfl⟩
theorem t257_36 : xtf zt257 11 36 39 (.getfield 326) 326 11 54 1 := ⟨rfl, rfl, rfl, rfl⟩
theorem t257_39 : xt zt257 39 40 .ireturn := ⟨rfl, rfl⟩
section XI
variable {nf : Bool} {xs : List Int32} {d c : Nat} {ini : Bool} {nL : Nat} {rt : Option FieldType} {tab : Nat → Option (Instr × Nat)} {G : xG} {r : Option Value} {h' : zH} {pc pc' len : Nat} {ls ls' : zL} {st : List Value} {m : xM} {g : xL} {N : Nat}
theorem s_ixor {x y : Int32} (t : xt tab pc pc' .ixor) : XS nf xs d c ini nL rt tab G r h' (pc, ls, .int y :: .int x :: st, m, g) (pc', ls, .int (x ^^^ y) :: st, m, g) := by
  obtain ⟨t, rfl⟩ := t
  exact xpure t rfl rfl (fun _ => rfl) (fun h s q => by cases q; rfl)
end XI
/-- nothing is written but whether it threw -/
def NW (m : xM) (g : xL) (m' : xM) (g' : xL) : Prop := (∀ c : Nat, ¬ c = 128 → m' c = m c) ∧ (∀ k : Nat, ¬ k = 0 → m' 128 k = m 128 k) ∧ g' = g
theorem NW.x {m : xM} {g : xL} : NW m g (xu m 128 0 0) g := ⟨fun c hc => xu_row hc, fun k hk => xu_oth (by omega), rfl⟩
theorem row_er {m : xM} {g : xL} (q : Nat) : rowOf (xu m 128 0 0) g q = rowOf m g q := rowOf_st (fun c c0 _ => xu_row (by omega)) rfl
def EAR (x y : Int32) (R n : Nat) (m : xM) (g : xL) (r : Option Value) (m' : xM) (g' : xL) : Prop := (rdV x (Int32.ofNat R) = 0 ∧ r = some (.int 0) ∧ NW m g m' g') ∨ ∃ p : Nat, p < R ∧ x = Int32.ofNat p ∧ ((bI (bj (m 155 0) p) = y ∧ r = some (.int 0) ∧ NW m g m' g') ∨ (¬ bI (bj (m 155 0) p) = y ∧ r = some (.int 1) ∧ ∃ m1 : xM, KNP n (xu m 128 0 0) g m1 g' ∧ m' = xu m1 155 0 (m1 155 0 ^^^ ((1 : Int32) <<< (Int32.ofNat p &&& 31)))))
def SER (x y : Int32) (R n : Nat) (m : xM) (g : xL) (r : Option Value) (m' : xM) (g' : xL) : Prop := ((rdV x (Int32.ofNat R) = 0 ∨ y.toInt < 0 ∨ 9 < y.toInt) ∧ r = some (.int 0) ∧ NW m g m' g') ∨ ∃ p : Nat, p < R ∧ x = Int32.ofNat p ∧ 0 ≤ y.toInt ∧ y.toInt ≤ 9 ∧ ((m 156 p = y ∧ r = some (.int 0) ∧ NW m g m' g') ∨ (¬ m 156 p = y ∧ r = some (.int 1) ∧ ∃ m1 : xM, KNP n (xu m 128 0 0) g m1 g' ∧ m' = xu m1 156 p y))
def TER (x y z : Int32) (J n : Nat) (m : xM) (g : xL) (r : Option Value) (m' : xM) (g' : xL) : Prop := ((rdV x (Int32.ofNat J) = 0 ∨ mlV y = 0) ∧ r = some (.int 0) ∧ NW m g m' g') ∨ ∃ j : Nat, j < J ∧ x = Int32.ofNat j ∧ ∃ v : Nat, v ≤ 60 ∧ y = Int32.ofNat v ∧ ((bI (bl (g 164 j) v) = z ∧ r = some (.int 0) ∧ NW m g m' g') ∨ (¬ bI (bl (g 164 j) v) = z ∧ r = some (.int 1) ∧ ∃ g1 : xL, KNP n (xu m 128 0 0) g m' g1 ∧ g' = xu g1 164 j (flB (Int32.ofNat v) (g1 164 j))))
theorem ct_isJokeR {nf : Bool} {xs : List Int32} {d : Nat} {m : xM} {g : xL} {G : xG} {x : Int32} (h3 : G.1 128 3 = some 130) (hl : G.2 130 = (0, 1, 18)) : CT nf xs d 192 [.ref 128, .int x] m g G (PE (some (.int (rdV x (m 130 2)))) m g) := by
  refine CT.of (c := 11) (ini := false) (nL := 2) (rt := some .boolean) (tab := zt192) rfl (fun d' r h' N hd hr => ?_)
  replace hr : RR nf xs d' 11 false 2 (some .boolean) zt192 G r h' N (0, [(0, .ref 128), (1, .int x)], [], m, g) := hr
  have k1 : (1 : Int32).toInt = 1 := rfl
  have k2 : (2 : Int32).toInt = 2 := rfl
  replace hr := hr.go (s_iload_n t192_0 rfl)
  rcases hr.zLt t192_1 with ⟨b1, hr⟩ | ⟨b1, hr⟩
  · replace hr := hr.go (s_k t192_18)
    obtain ⟨rfl, hs⟩ := hr.iret t192_19
    exact ⟨_, _, hs, by unfold rdV; repeat (first | rw [if_pos (by omega)] | rw [if_neg (by omega)]), rfl, rfl⟩
  · replace hr := hr.go (s_iload_n t192_4 rfl)
    replace hr := hr.go (s_aload_n t192_5 rfl)
    replace hr := hr.go (s_getr t192_6 (h3))
    replace hr := hr.go (s_k t192_9)
    replace hr := hr.go (s_iaload t192_10 (hl))
    replace hr : RR nf xs d' 11 false 2 (some .boolean) zt192 G r h' N (11, [(0, .ref 128), (1, .int x)], [.int (m 130 2), .int x], m, g) := hr
    rcases hr.bGe t192_11 with ⟨b11, hr⟩ | ⟨b11, hr⟩
    · replace hr := hr.go (s_k t192_18)
      obtain ⟨rfl, hs⟩ := hr.iret t192_19
      exact ⟨_, _, hs, by unfold rdV; repeat (first | rw [if_pos (by omega)] | rw [if_neg (by omega)]), rfl, rfl⟩
    · replace hr := hr.go (s_k t192_14)
      replace hr := hr.go (s_goto t192_15)
      obtain ⟨rfl, hs⟩ := hr.iret t192_19
      exact ⟨_, _, hs, by unfold rdV; repeat (first | rw [if_pos (by omega)] | rw [if_neg (by omega)]), rfl, rfl⟩
theorem ct_earsR {nf : Bool} {xs : List Int32} {d : Nat} {m : xM} {g : xL} {G : xG} {x y : Int32} {R n : Nat} (hG : GW G) (g3 : G.1 128 3 = some 130) (hl : G.2 130 = (0, 1, 18)) (h3 : m 130 1 = Int32.ofNat R) (hR : R ≤ 6) (hn : n ≤ 20) (h54 : m 128 54 = Int32.ofNat n) : CT nf xs d 225 [.ref 128, .int x, .int y] m g G (fun r m' g' => EAR x y R n m g r m' g') := by
  refine CT.of (c := 11) (ini := false) (nL := 3) (rt := some .boolean) (tab := zt225) rfl (fun d' r h' N hd hr => ?_)
  replace hr : RR nf xs d' 11 false 3 (some .boolean) zt225 G r h' N (0, [(0, .ref 128), (1, .int x), (2, .int y)], [], m, g) := hr
  have k1 : (1 : Int32).toInt = 1 := rfl
  obtain ⟨L155, h155⟩ := hG.2 155 (by decide) (by decide)
  replace hr := hr.go (s_aload_n t225_0 rfl)
  replace hr := hr.go (s_k t225_1)
  replace hr := hr.go (s_putf t225_2)
  replace hr := hr.go (s_aload_n t225_5 rfl)
  replace hr := hr.go (s_iload_n t225_6 rfl)
  replace hr := hr.cvI t225_7 rfl rfl (ct_isRiderR g3 hl)
  rw [show xu m 128 0 0 130 1 = Int32.ofNat R from by rw [xu_row (by decide), h3]] at hr
  rcases hr.zEq t225_10 with ⟨b10, hr⟩ | ⟨b10, hr⟩
  · replace hr := hr.go (s_k t225_36)
    obtain ⟨rfl, hs⟩ := hr.iret t225_37
    exact ⟨_, _, hs, Or.inl ⟨b10, rfl, NW.x⟩⟩
  · obtain ⟨p, hp, rfl⟩ := rdV_ok hR b10
    replace hr := hr.go (s_aload_n t225_13 rfl)
    replace hr := hr.go (s_getr t225_14 (hG.1 42 (by decide) (by decide)))
    replace hr := hr.go (s_k t225_17)
    replace hr := hr.go (s_iaload t225_18 (h155))
    rw [show xu m 128 0 0 155 (Int32.toNatClampNeg 0) = m 155 0 from by rw [xu_row (by decide)]; rfl] at hr
    replace hr := hr.go (s_iload_n t225_19 rfl)
    replace hr := hr.go (s_ishr t225_20)
    replace hr := hr.go (s_k t225_21)
    replace hr := hr.go (s_iand t225_22)
    replace hr := hr.go (s_k t225_23)
    rcases hr.bNe t225_24 with ⟨b24, hr⟩ | ⟨b24, hr⟩
    · replace hr := hr.go (s_k t225_31)
      have hb : bI (bj (m 155 0) p) = 0 := by
        cases e : bj (m 155 0) p with
        | false => rfl
        | true => exact absurd ((bj_tst (by omega)).mpr e) b24
      replace hr := hr.go (s_iload_n t225_32 rfl)
      rcases hr.bNe t225_33 with ⟨b33, hr⟩ | ⟨b33, hr⟩
      · replace hr := hr.go (s_aload_n t225_38 rfl)
        obtain ⟨_, m1, g1, ⟨rfl, hq⟩, hr⟩ := hr.callv t225_39 rfl rfl (ct_keepNow (n := n) hG hn (by rw [xu_oth (by decide), h54]))
        replace hr : RR nf xs d' 11 false 3 (some .boolean) zt225 G r h' N (42, [(0, .ref 128), (1, .int (Int32.ofNat p)), (2, .int y)], [], m1, g1) := hr
        skip
        replace hr := hr.go (s_aload_n t225_42 rfl)
        replace hr := hr.go (s_getr t225_43 (hG.1 42 (by decide) (by decide)))
        replace hr := hr.go (s_k t225_46)
        replace hr := hr.go (s_dup2 t225_47)
        replace hr := hr.go (s_iaload t225_48 (h155))
        replace hr := hr.go (s_k t225_49)
        replace hr := hr.go (s_iload_n t225_50 rfl)
        replace hr := hr.go (s_ishl t225_51)
        replace hr := hr.go (s_ixor t225_52)
        replace hr := hr.go (s_iastore t225_53)
        replace hr := hr.go (s_k t225_54)
        obtain ⟨rfl, hs⟩ := hr.iret t225_55
        exact ⟨_, _, hs, Or.inr ⟨p, hp, rfl, Or.inr ⟨fun q => b33 (hb.symm.trans q), rfl, m1, hq, rfl⟩⟩⟩
      · replace hr := hr.go (s_k t225_36)
        obtain ⟨rfl, hs⟩ := hr.iret t225_37
        exact ⟨_, _, hs, Or.inr ⟨p, hp, rfl, Or.inl ⟨hb.trans b33, rfl, NW.x⟩⟩⟩
    · replace hr := hr.go (s_k t225_27)
      replace hr := hr.go (s_goto t225_28)
      have hb : bI (bj (m 155 0) p) = 1 := by rw [(bj_tst (by omega)).mp b24]; rfl
      replace hr := hr.go (s_iload_n t225_32 rfl)
      rcases hr.bNe t225_33 with ⟨b33, hr⟩ | ⟨b33, hr⟩
      · replace hr := hr.go (s_aload_n t225_38 rfl)
        obtain ⟨_, m1, g1, ⟨rfl, hq⟩, hr⟩ := hr.callv t225_39 rfl rfl (ct_keepNow (n := n) hG hn (by rw [xu_oth (by decide), h54]))
        replace hr : RR nf xs d' 11 false 3 (some .boolean) zt225 G r h' N (42, [(0, .ref 128), (1, .int (Int32.ofNat p)), (2, .int y)], [], m1, g1) := hr
        skip
        replace hr := hr.go (s_aload_n t225_42 rfl)
        replace hr := hr.go (s_getr t225_43 (hG.1 42 (by decide) (by decide)))
        replace hr := hr.go (s_k t225_46)
        replace hr := hr.go (s_dup2 t225_47)
        replace hr := hr.go (s_iaload t225_48 (h155))
        replace hr := hr.go (s_k t225_49)
        replace hr := hr.go (s_iload_n t225_50 rfl)
        replace hr := hr.go (s_ishl t225_51)
        replace hr := hr.go (s_ixor t225_52)
        replace hr := hr.go (s_iastore t225_53)
        replace hr := hr.go (s_k t225_54)
        obtain ⟨rfl, hs⟩ := hr.iret t225_55
        exact ⟨_, _, hs, Or.inr ⟨p, hp, rfl, Or.inr ⟨fun q => b33 (hb.symm.trans q), rfl, m1, hq, rfl⟩⟩⟩
      · replace hr := hr.go (s_k t225_36)
        obtain ⟨rfl, hs⟩ := hr.iret t225_37
        exact ⟨_, _, hs, Or.inr ⟨p, hp, rfl, Or.inl ⟨hb.trans b33, rfl, NW.x⟩⟩⟩
theorem ct_seatR {nf : Bool} {xs : List Int32} {d : Nat} {m : xM} {g : xL} {G : xG} {x y : Int32} {R n : Nat} (hG : GW G) (g3 : G.1 128 3 = some 130) (hl : G.2 130 = (0, 1, 18)) (h3 : m 130 1 = Int32.ofNat R) (hR : R ≤ 6) (hn : n ≤ 20) (h54 : m 128 54 = Int32.ofNat n) : CT nf xs d 226 [.ref 128, .int x, .int y] m g G (fun r m' g' => SER x y R n m g r m' g') := by
  refine CT.of (c := 11) (ini := false) (nL := 3) (rt := some .boolean) (tab := zt226) rfl (fun d' r h' N hd hr => ?_)
  replace hr : RR nf xs d' 11 false 3 (some .boolean) zt226 G r h' N (0, [(0, .ref 128), (1, .int x), (2, .int y)], [], m, g) := hr
  have k1 : (1 : Int32).toInt = 1 := rfl
  have k9 : (9 : Int32).toInt = 9 := rfl
  obtain ⟨L156, h156⟩ := hG.2 156 (by decide) (by decide)
  replace hr := hr.go (s_aload_n t226_0 rfl)
  replace hr := hr.go (s_k t226_1)
  replace hr := hr.go (s_putf t226_2)
  replace hr := hr.go (s_aload_n t226_5 rfl)
  replace hr := hr.go (s_iload_n t226_6 rfl)
  replace hr := hr.cvI t226_7 rfl rfl (ct_isRiderR g3 hl)
  rw [show xu m 128 0 0 130 1 = Int32.ofNat R from by rw [xu_row (by decide), h3]] at hr
  rcases hr.zEq t226_10 with ⟨b10, hr⟩ | ⟨b10, hr⟩
  · replace hr := hr.go (s_k t226_33)
    obtain ⟨rfl, hs⟩ := hr.iret t226_34
    exact ⟨_, _, hs, Or.inl ⟨Or.inl b10, rfl, NW.x⟩⟩
  · replace hr := hr.go (s_iload_n t226_13 rfl)
    rcases hr.zLt t226_14 with ⟨b14, hr⟩ | ⟨b14, hr⟩
    · replace hr := hr.go (s_k t226_33)
      obtain ⟨rfl, hs⟩ := hr.iret t226_34
      exact ⟨_, _, hs, Or.inl ⟨Or.inr (Or.inl b14), rfl, NW.x⟩⟩
    · replace hr := hr.go (s_iload_n t226_17 rfl)
      replace hr := hr.go (s_k t226_18)
      rcases hr.bGt t226_20 with ⟨b20, hr⟩ | ⟨b20, hr⟩
      · replace hr := hr.go (s_k t226_33)
        obtain ⟨rfl, hs⟩ := hr.iret t226_34
        exact ⟨_, _, hs, Or.inl ⟨Or.inr (Or.inr (by omega)), rfl, NW.x⟩⟩
      · obtain ⟨p, hp, rfl⟩ := rdV_ok hR b10
        replace hr := hr.go (s_aload_n t226_23 rfl)
        replace hr := hr.go (s_getr t226_24 (hG.1 43 (by decide) (by decide)))
        replace hr := hr.go (s_iload_n t226_27 rfl)
        replace hr := hr.go (s_iaload t226_28 (h156))
        rw [xn_nat (show p < 2147483648 by omega), show xu m 128 0 0 156 p = m 156 p from by rw [xu_row (by decide)]] at hr
        replace hr := hr.go (s_iload_n t226_29 rfl)
        rcases hr.bNe t226_30 with ⟨b30, hr⟩ | ⟨b30, hr⟩
        · replace hr := hr.go (s_aload_n t226_35 rfl)
          obtain ⟨_, m1, g1, ⟨rfl, hq⟩, hr⟩ := hr.callv t226_36 rfl rfl (ct_keepNow (n := n) hG hn (by rw [xu_oth (by decide), h54]))
          replace hr : RR nf xs d' 11 false 3 (some .boolean) zt226 G r h' N (39, [(0, .ref 128), (1, .int (Int32.ofNat p)), (2, .int y)], [], m1, g1) := hr
          skip
          replace hr := hr.go (s_aload_n t226_39 rfl)
          replace hr := hr.go (s_getr t226_40 (hG.1 43 (by decide) (by decide)))
          replace hr := hr.go (s_iload_n t226_43 rfl)
          replace hr := hr.go (s_iload_n t226_44 rfl)
          replace hr := hr.go (s_iastore t226_45)
          rw [xn_nat (show p < 2147483648 by omega)] at hr
          replace hr := hr.go (s_k t226_46)
          obtain ⟨rfl, hs⟩ := hr.iret t226_47
          exact ⟨_, _, hs, Or.inr ⟨p, hp, rfl, b14, by omega, Or.inr ⟨b30, rfl, m1, hq, rfl⟩⟩⟩
        · replace hr := hr.go (s_k t226_33)
          obtain ⟨rfl, hs⟩ := hr.iret t226_34
          exact ⟨_, _, hs, Or.inr ⟨p, hp, rfl, b14, by omega, Or.inl ⟨b30, rfl, NW.x⟩⟩⟩
theorem ct_tellR {nf : Bool} {xs : List Int32} {d : Nat} {m : xM} {g : xL} {G : xG} {x y z : Int32} {J n : Nat} (hG : GW G) (g3 : G.1 128 3 = some 130) (hl : G.2 130 = (0, 1, 18)) (h3 : m 130 2 = Int32.ofNat J) (hJ : J ≤ 6) (hn : n ≤ 20) (h54 : m 128 54 = Int32.ofNat n) : CT nf xs d 227 [.ref 128, .int x, .int y, .int z] m g G (fun r m' g' => TER x y z J n m g r m' g') := by
  refine CT.of (c := 11) (ini := false) (nL := 4) (rt := some .boolean) (tab := zt227) rfl (fun d' r h' N hd hr => ?_)
  replace hr : RR nf xs d' 11 false 4 (some .boolean) zt227 G r h' N (0, [(0, .ref 128), (1, .int x), (2, .int y), (3, .int z)], [], m, g) := hr
  have k1 : (1 : Int32).toInt = 1 := rfl
  replace hr := hr.go (s_aload_n t227_0 rfl)
  replace hr := hr.go (s_k t227_1)
  replace hr := hr.go (s_putf t227_2)
  replace hr := hr.go (s_aload_n t227_5 rfl)
  replace hr := hr.go (s_iload_n t227_6 rfl)
  replace hr := hr.cvI t227_7 rfl rfl (ct_isJokeR g3 hl)
  rw [show xu m 128 0 0 130 2 = Int32.ofNat J from by rw [xu_row (by decide), h3]] at hr
  rcases hr.zEq t227_10 with ⟨b10, hr⟩ | ⟨b10, hr⟩
  · replace hr := hr.go (s_k t227_44)
    obtain ⟨rfl, hs⟩ := hr.iret t227_45
    exact ⟨_, _, hs, Or.inl ⟨Or.inl b10, rfl, NW.x⟩⟩
  · replace hr := hr.go (s_iload_n t227_13 rfl)
    replace hr := hr.csI t227_14 rfl rfl (ct_isMileR)
    rcases hr.zEq t227_17 with ⟨b17, hr⟩ | ⟨b17, hr⟩
    · replace hr := hr.go (s_k t227_44)
      obtain ⟨rfl, hs⟩ := hr.iret t227_45
      exact ⟨_, _, hs, Or.inl ⟨Or.inr b17, rfl, NW.x⟩⟩
    · obtain ⟨j, hj, rfl⟩ := rdV_ok hJ b10
      obtain ⟨v, hv, rfl⟩ := mlV_ok b17
      replace hr := hr.go (s_aload_n t227_20 rfl)
      replace hr := hr.go (s_getr t227_21 (hG.1 51 (by decide) (by decide)))
      replace hr := hr.go (s_iload_n t227_24 rfl)
      replace hr := hr.go (s_laload t227_25)
      rw [xn_nat (show j < 2147483648 by omega)] at hr
      replace hr := hr.go (s_iload_n t227_26 rfl)
      replace hr := hr.go (s_lshr t227_27)
      replace hr := hr.go (s_lconst t227_28)
      replace hr := hr.go (s_land t227_29)
      replace hr := hr.go (s_lconst t227_30)
      replace hr := hr.go (s_lcmp t227_31)
      rcases hr.zNe t227_32 with ⟨b32, hr⟩ | ⟨b32, hr⟩
      · replace hr := hr.go (s_k t227_39)
        have hb : bI (bl (g 164 j) v) = 0 := by
          cases e : bl (g 164 j) v with
          | false => rfl
          | true => exact absurd (cmp_1.mpr ((bl_tst (by omega)).mpr e)) b32
        replace hr := hr.go (s_iload_n t227_40 rfl)
        rcases hr.bNe t227_41 with ⟨b41, hr⟩ | ⟨b41, hr⟩
        · replace hr := hr.go (s_aload_n t227_46 rfl)
          obtain ⟨_, m1, g1, ⟨rfl, hq⟩, hr⟩ := hr.callv t227_47 rfl rfl (ct_keepNow (n := n) hG hn (by rw [xu_oth (by decide), h54]))
          replace hr : RR nf xs d' 11 false 4 (some .boolean) zt227 G r h' N (50, [(0, .ref 128), (1, .int (Int32.ofNat j)), (2, .int (Int32.ofNat v)), (3, .int z)], [], m1, g1) := hr
          skip
          replace hr := hr.go (s_aload_n t227_50 rfl)
          replace hr := hr.go (s_getr t227_51 (hG.1 51 (by decide) (by decide)))
          replace hr := hr.go (s_iload_n t227_54 rfl)
          replace hr := hr.go (s_dup2 t227_55)
          replace hr := hr.go (s_laload t227_56)
          replace hr := hr.go (s_lconst t227_57)
          replace hr := hr.go (s_iload_n t227_58 rfl)
          replace hr := hr.go (s_lshl t227_59)
          replace hr := hr.go (s_lxor t227_60)
          replace hr := hr.go (s_lastore t227_61)
          rw [xn_nat (show j < 2147483648 by omega)] at hr
          replace hr := hr.go (s_k t227_62)
          obtain ⟨rfl, hs⟩ := hr.iret t227_63
          exact ⟨_, _, hs, Or.inr ⟨j, hj, rfl, v, hv, rfl, Or.inr ⟨fun q => b41 (hb.symm.trans q), rfl, g1, hq, rfl⟩⟩⟩
        · replace hr := hr.go (s_k t227_44)
          obtain ⟨rfl, hs⟩ := hr.iret t227_45
          exact ⟨_, _, hs, Or.inr ⟨j, hj, rfl, v, hv, rfl, Or.inl ⟨hb.trans b41, rfl, NW.x⟩⟩⟩
      · replace hr := hr.go (s_k t227_35)
        replace hr := hr.go (s_goto t227_36)
        have hb : bI (bl (g 164 j) v) = 1 := by rw [(bl_tst (by omega)).mp (cmp_1.mp b32)]; rfl
        replace hr := hr.go (s_iload_n t227_40 rfl)
        rcases hr.bNe t227_41 with ⟨b41, hr⟩ | ⟨b41, hr⟩
        · replace hr := hr.go (s_aload_n t227_46 rfl)
          obtain ⟨_, m1, g1, ⟨rfl, hq⟩, hr⟩ := hr.callv t227_47 rfl rfl (ct_keepNow (n := n) hG hn (by rw [xu_oth (by decide), h54]))
          replace hr : RR nf xs d' 11 false 4 (some .boolean) zt227 G r h' N (50, [(0, .ref 128), (1, .int (Int32.ofNat j)), (2, .int (Int32.ofNat v)), (3, .int z)], [], m1, g1) := hr
          skip
          replace hr := hr.go (s_aload_n t227_50 rfl)
          replace hr := hr.go (s_getr t227_51 (hG.1 51 (by decide) (by decide)))
          replace hr := hr.go (s_iload_n t227_54 rfl)
          replace hr := hr.go (s_dup2 t227_55)
          replace hr := hr.go (s_laload t227_56)
          replace hr := hr.go (s_lconst t227_57)
          replace hr := hr.go (s_iload_n t227_58 rfl)
          replace hr := hr.go (s_lshl t227_59)
          replace hr := hr.go (s_lxor t227_60)
          replace hr := hr.go (s_lastore t227_61)
          rw [xn_nat (show j < 2147483648 by omega)] at hr
          replace hr := hr.go (s_k t227_62)
          obtain ⟨rfl, hs⟩ := hr.iret t227_63
          exact ⟨_, _, hs, Or.inr ⟨j, hj, rfl, v, hv, rfl, Or.inr ⟨fun q => b41 (hb.symm.trans q), rfl, g1, hq, rfl⟩⟩⟩
        · replace hr := hr.go (s_k t227_44)
          obtain ⟨rfl, hs⟩ := hr.iret t227_45
          exact ⟨_, _, hs, Or.inr ⟨j, hj, rfl, v, hv, rfl, Or.inl ⟨hb.trans b41, rfl, NW.x⟩⟩⟩
theorem ct_undoR0 {nf : Bool} {xs : List Int32} {d : Nat} {m : xM} {g : xL} {G : xG} (h54 : m 128 54 = 0) : CT nf xs d 257 [.ref 128] m g G (fun r m' g' => r = some (.int (-1)) ∧ NW m g m' g') := by
  refine CT.of (c := 11) (ini := false) (nL := 1) (rt := some .int) (tab := zt257) rfl (fun d' r h' N hd hr => ?_)
  replace hr : RR nf xs d' 11 false 1 (some .int) zt257 G r h' N (0, [(0, .ref 128)], [], m, g) := hr
  have km1 : (-1 : Int32).toInt = -1 := rfl
  have k1 : (1 : Int32).toInt = 1 := rfl
  have k4 : (4 : Int32).toInt = 4 := rfl
  replace hr := hr.go (s_aload_n t257_0 rfl)
  replace hr := hr.go (s_k t257_1)
  replace hr := hr.go (s_putf t257_2)
  replace hr := hr.go (s_aload_n t257_5 rfl)
  replace hr := hr.go (s_getf t257_6)
  rw [show xu m 128 0 0 128 54 = 0 from by rw [xu_oth (by decide), h54]] at hr
  rcases hr.zNe t257_9 with ⟨b9, hr⟩ | ⟨b9, hr⟩
  · exact absurd rfl b9
  · replace hr := hr.go (s_k t257_12)
    obtain ⟨rfl, hs⟩ := hr.iret t257_13
    exact ⟨_, _, hs, rfl, NW.x⟩
theorem ct_undoR {nf : Bool} {xs : List Int32} {d : Nat} {m : xM} {g : xL} {G : xG} {n : Nat} (hG : GW G) (hn : n < 20) (h54 : m 128 54 = Int32.ofNat (n + 1)) : CT nf xs d 257 [.ref 128] m g G (fun r m' g' => r = some (.int (Int32.ofNat n)) ∧ m' 128 54 = Int32.ofNat n ∧ (∀ c : Nat, ¬ c = 128 → c < 150 ∨ 163 < c → m' c = m c) ∧ (∀ k : Nat, ¬ k = 0 → ¬ k = 54 → m' 128 k = m 128 k) ∧ (∀ c : Nat, ¬ c = 164 → g' c = g c) ∧ rowOf m' g' 0 = rowOf m g (4 + n) ∧ ∀ q : Nat, ¬ q = 0 → rowOf m' g' q = rowOf m g q) := by
  refine CT.of (c := 11) (ini := false) (nL := 1) (rt := some .int) (tab := zt257) rfl (fun d' r h' N hd hr => ?_)
  replace hr : RR nf xs d' 11 false 1 (some .int) zt257 G r h' N (0, [(0, .ref 128)], [], m, g) := hr
  have km1 : (-1 : Int32).toInt = -1 := rfl
  have k1 : (1 : Int32).toInt = 1 := rfl
  have k4 : (4 : Int32).toInt = 4 := rfl
  replace hr := hr.go (s_aload_n t257_0 rfl)
  replace hr := hr.go (s_k t257_1)
  replace hr := hr.go (s_putf t257_2)
  replace hr := hr.go (s_aload_n t257_5 rfl)
  replace hr := hr.go (s_getf t257_6)
  rw [show xu m 128 0 0 128 54 = Int32.ofNat (n + 1) from by rw [xu_oth (by decide), h54]] at hr
  rcases hr.zNe t257_9 with ⟨b9, hr⟩ | ⟨b9, hr⟩
  · replace hr := hr.go (s_aload_n t257_14 rfl)
    replace hr := hr.go (s_dup t257_15 rfl)
    replace hr := hr.go (s_getf t257_16)
    replace hr := hr.go (s_k t257_19)
    replace hr := hr.go (s_isub t257_20)
    replace hr := hr.go (s_putf t257_21)
    replace hr := hr.go (s_aload_n t257_24 rfl)
    replace hr := hr.go (s_k t257_25)
    replace hr := hr.go (s_k t257_26)
    replace hr := hr.go (s_aload_n t257_27 rfl)
    replace hr := hr.go (s_getf t257_28)
    replace hr := hr.go (s_iadd t257_31)
    rw [show (4 : Int32) + (xu (xu m 128 0 0) 128 54 (xu m 128 0 0 128 54 - 1)) 128 54 = Int32.ofNat (4 + n) from by rw [xu_same, xu_oth (by decide), h54, xn_pred, show (4 : Int32) + Int32.ofNat n = Int32.ofNat (4 + n) from xn_add (p := 4)]] at hr
    obtain ⟨_, m1, g1, ⟨rfl, c1, c2, c3, c4⟩, hr⟩ := hr.callv t257_32 rfl rfl (ct_copies (t := 0) (a := 4 + n) hG (by omega) (by omega) (by omega))
    replace hr : RR nf xs d' 11 false 1 (some .int) zt257 G r h' N (35, [(0, .ref 128)], [], m1, g1) := hr
    skip
    replace hr := hr.go (s_aload_n t257_35 rfl)
    replace hr := hr.go (s_getf t257_36)
    obtain ⟨rfl, hs⟩ := hr.iret t257_39
    refine ⟨_, _, hs, by rw [c1 128 (by decide), xu_same, xu_oth (by decide), h54, xn_pred], ?_, fun c hc hc2 => ?_, fun k k1 k2 => ?_, c2, c3.trans ?_, fun q hq => (c4 q hq).trans ?_⟩
    · rw [c1 128 (by decide), xu_same, xu_oth (by decide), h54, xn_pred]
    · rw [c1 c hc2, xu_row hc, xu_row hc]
    · rw [c1 128 (by decide), xu_oth (by omega), xu_oth (by omega)]
    · exact (rowOf_st (fun c c0 _ => xu_row (by omega)) rfl).trans (row_er _)
    · exact (rowOf_st (fun c c0 _ => xu_row (by omega)) rfl).trans (row_er _)
  · exact absurd (xn_inj (a := n + 1) (b := 0) (by omega) (by decide) b9) (by omega)
end
section
/-! told of both sides (by program: wip/x/gV9.py). -/
theorem t110_0 : xt zt110 0 1 (.aload_n 0) := ⟨rfl, rfl⟩
theorem t110_1 : xt zt110 1 2 (.iload_n 1) := ⟨rfl, rfl⟩
theorem t110_2 : xtc zt110 10 2 5 (.invokevirtual 185) 185 1 104 1 := ⟨rfl, rfl, rfl⟩
theorem t110_5 : xtb zt110 5 8 15 (.ifCond .eq 10) (10) := ⟨rfl, rfl, rfl⟩
theorem t110_8 : xt zt110 8 9 (.iload_n 2) := ⟨rfl, rfl⟩
theorem t110_9 : xtc zt110 10 9 12 (.invokestatic 201) 201 2 105 1 := ⟨rfl, rfl, rfl⟩
theorem t110_12 : xtb zt110 12 15 17 (.ifCond .ne 5) (5) := ⟨rfl, rfl, rfl⟩
theorem t110_15 : xtk zt110 15 16 (-1) := Or.inl ⟨-1, ⟨rfl, rfl⟩, by decide⟩
theorem t110_16 : xt zt110 16 17 .ireturn := ⟨rfl, rfl⟩
theorem t110_17 : xt zt110 17 18 (.aload_n 0) := ⟨rfl, rfl⟩
theorem t110_18 : xtf zt110 10 18 21 (.getfield 45) 45 10 7 3 := ⟨rfl, rfl, rfl, rfl⟩
theorem t110_21 : xt zt110 21 22 (.iload_n 1) := ⟨rfl, rfl⟩
theorem t110_22 : xt zt110 22 23 (.iload_n 2) := ⟨rfl, rfl⟩
theorem t110_23 : xtc zt110 10 23 26 (.invokevirtual 204) 204 1 49 2 := ⟨rfl, rfl, rfl⟩
theorem t110_26 : xtb zt110 26 29 33 (.ifCond .eq 7) (7) := ⟨rfl, rfl, rfl⟩
theorem t110_29 : xtk zt110 29 30 (1) := Or.inl ⟨1, ⟨rfl, rfl⟩, by decide⟩
theorem t110_30 : xtb zt110 30 33 34 (.goto 4) (4) := ⟨rfl, rfl, rfl⟩
theorem t110_33 : xtk zt110 33 34 (0) := Or.inl ⟨0, ⟨rfl, rfl⟩, by decide⟩
theorem t110_34 : xt zt110 34 35 .ireturn := ⟨rfl, rfl⟩
theorem t221_0 : xt zt221 0 1 (.aload_n 0) := ⟨rfl, rfl⟩
theorem t221_1 : xtk zt221 1 2 (0) := Or.inl ⟨0, ⟨rfl, rfl⟩, by decide⟩
theorem t221_2 : xtf zt221 11 2 5 (.putfield 166) 166 11 0 1 := ⟨rfl, rfl, rfl, rfl⟩
theorem t221_5 : xt zt221 5 6 (.aload_n 0) := ⟨rfl, rfl⟩
theorem t221_6 : xt zt221 6 7 (.iload_n 1) := ⟨rfl, rfl⟩
theorem t221_7 : xtc zt221 11 7 10 (.invokevirtual 458) 458 1 192 1 := ⟨rfl, rfl, rfl⟩
theorem t221_10 : xtb zt221 10 13 34 (.ifCond .eq 24) (24) := ⟨rfl, rfl, rfl⟩
theorem t221_13 : xt zt221 13 14 (.iload_n 2) := ⟨rfl, rfl⟩
theorem t221_14 : xtc zt221 11 14 17 (.invokestatic 465) 465 2 193 1 := ⟨rfl, rfl, rfl⟩
theorem t221_17 : xtb zt221 17 20 34 (.ifCond .eq 17) (17) := ⟨rfl, rfl, rfl⟩
theorem t221_20 : xt zt221 20 21 (.aload_n 0) := ⟨rfl, rfl⟩
theorem t221_21 : xtf zt221 11 21 24 (.getfield 120) 120 11 51 3 := ⟨rfl, rfl, rfl, rfl⟩
theorem t221_24 : xt zt221 24 25 (.iload_n 1) := ⟨rfl, rfl⟩
theorem t221_25 : xt zt221 25 26 .laload := ⟨rfl, rfl⟩
theorem t221_26 : xt zt221 26 27 (.iload_n 2) := ⟨rfl, rfl⟩
theorem t221_27 : xt zt221 27 28 .lshr := ⟨rfl, rfl⟩
theorem t221_28 : xt zt221 28 29 (.lconst 1) := ⟨rfl, rfl⟩
theorem t221_29 : xt zt221 29 30 .land := ⟨rfl, rfl⟩
theorem t221_30 : xt zt221 30 31 .l2i := ⟨rfl, rfl⟩
theorem t221_31 : xtb zt221 31 34 35 (.goto 4) (4) := ⟨rfl, rfl, rfl⟩
theorem t221_34 : xtk zt221 34 35 (-1) := Or.inl ⟨-1, ⟨rfl, rfl⟩, by decide⟩
theorem t221_35 : xt zt221 35 36 .ireturn := ⟨rfl, rfl⟩
theorem and1_0 {x : Int64} (h : bl x 0 = false) : x &&& 1 = 0 := bl_ext (fun i hi => by
  rw [bl_and, bl_1 i hi, bl_0]
  by_cases e : i = 0
  · rw [e, h]; rfl
  · rw [decide_eq_false e, Bool.and_false])
theorem i32_01 : (1 : Int64).toInt32 = bI true ∧ (0 : Int64).toInt32 = bI false := by decide +kernel
theorem sh_b {x : Int64} {v : Nat} (hv : v < 64) : (x >>> ((Int32.ofNat v).toInt64 &&& 63) &&& 1).toInt32 = bI (bl x v) := by
  have h0 : bl (x >>> ((Int32.ofNat v).toInt64 &&& 63)) 0 = bl x v := by rw [bl_shr v hv x (by omega), if_pos (by omega), Nat.add_zero]
  cases e : bl x v with
  | true => rw [(bl_tst hv).mpr e]; exact i32_01.1
  | false => rw [and1_0 (h0.trans e)]; exact i32_01.2
/-- is it told there -/
def TLD (x y : Int32) (J : Nat) (w : Nat → Int64) (r : Option Value) : Prop := ((rdV x (Int32.ofNat J) = 0 ∨ mlV y = 0) ∧ r = some (.int (-1))) ∨ ∃ j : Nat, j < J ∧ x = Int32.ofNat j ∧ ∃ v : Nat, v ≤ 60 ∧ y = Int32.ofNat v ∧ r = some (.int (bI (bl (w j) v)))
theorem ct_toldC {nf : Bool} {xs : List Int32} {d : Nat} {m : xM} {g : xL} {G : xG} {P : Nat} {x y : Int32} {J : Nat} (h7 : G.1 0 7 = some 55) (h5 : G.1 0 5 = some P) (h2 : G.1 P 2 = some (P + 5)) (hA : GQ G 55) (h3 : m (P + 5) 3 = Int32.ofNat J) (hJ : J ≤ 6) : CT nf xs d 110 [.ref 0, .int x, .int y] m g G (fun r m' g' => TLD x y J (g 57) r ∧ m' = m ∧ g' = g) := by
  refine CT.of (c := 10) (ini := false) (nL := 3) (rt := some .int) (tab := zt110) rfl (fun d' r h' N hd hr => ?_)
  replace hr : RR nf xs d' 10 false 3 (some .int) zt110 G r h' N (0, [(0, .ref 0), (1, .int x), (2, .int y)], [], m, g) := hr
  have km1 : (-1 : Int32).toInt = -1 := rfl
  have k1 : (1 : Int32).toInt = 1 := rfl
  replace hr := hr.go (s_aload_n t110_0 rfl)
  replace hr := hr.go (s_iload_n t110_1 rfl)
  replace hr := hr.cvI t110_2 rfl rfl (ct_isJokeC h5 h2)
  rw [h3] at hr
  rcases hr.zEq t110_5 with ⟨b5, hr⟩ | ⟨b5, hr⟩
  · replace hr := hr.go (s_k t110_15)
    obtain ⟨rfl, hs⟩ := hr.iret t110_16
    exact ⟨_, _, hs, Or.inl ⟨Or.inl b5, rfl⟩, rfl, rfl⟩
  · replace hr := hr.go (s_iload_n t110_8 rfl)
    replace hr := hr.csI t110_9 rfl rfl (ct_isMileC)
    rcases hr.zNe t110_12 with ⟨b12, hr⟩ | ⟨b12, hr⟩
    · obtain ⟨j, hj, rfl⟩ := rdV_ok hJ b5
      obtain ⟨v, hv, rfl⟩ := mlV_ok b12
      replace hr := hr.go (s_aload_n t110_17 rfl)
      replace hr := hr.go (s_getr t110_18 (h7))
      replace hr := hr.go (s_iload_n t110_21 rfl)
      replace hr := hr.go (s_iload_n t110_22 rfl)
      replace hr := hr.cvI t110_23 rfl rfl (ct_isToldR (a := 55) (j := j) (v := v) hA.2.1 (by omega) (by omega))
      rcases hr.zEq t110_26 with ⟨b26, hr⟩ | ⟨b26, hr⟩
      · replace hr := hr.go (s_k t110_33)
        obtain ⟨rfl, hs⟩ := hr.iret t110_34
        exact ⟨_, _, hs, Or.inr ⟨j, hj, rfl, v, hv, rfl, congrArg (fun z => some (Value.int z)) b26.symm⟩, rfl, rfl⟩
      · replace hr := hr.go (s_k t110_29)
        replace hr := hr.go (s_goto t110_30)
        obtain ⟨rfl, hs⟩ := hr.iret t110_34
        exact ⟨_, _, hs, Or.inr ⟨j, hj, rfl, v, hv, rfl, by rw [show bl (g 57 j) v = true from bI_1 b26]; rfl⟩, rfl, rfl⟩
    · replace hr := hr.go (s_k t110_15)
      obtain ⟨rfl, hs⟩ := hr.iret t110_16
      exact ⟨_, _, hs, Or.inl ⟨Or.inr b12, rfl⟩, rfl, rfl⟩
theorem ct_toldR {nf : Bool} {xs : List Int32} {d : Nat} {m : xM} {g : xL} {G : xG} {x y : Int32} {J : Nat} (hG : GW G) (g3 : G.1 128 3 = some 130) (hl : G.2 130 = (0, 1, 18)) (h3 : m 130 2 = Int32.ofNat J) (hJ : J ≤ 6) : CT nf xs d 221 [.ref 128, .int x, .int y] m g G (fun r m' g' => TLD x y J (g 164) r ∧ NW m g m' g') := by
  refine CT.of (c := 11) (ini := false) (nL := 3) (rt := some .int) (tab := zt221) rfl (fun d' r h' N hd hr => ?_)
  replace hr : RR nf xs d' 11 false 3 (some .int) zt221 G r h' N (0, [(0, .ref 128), (1, .int x), (2, .int y)], [], m, g) := hr
  have km1 : (-1 : Int32).toInt = -1 := rfl
  replace hr := hr.go (s_aload_n t221_0 rfl)
  replace hr := hr.go (s_k t221_1)
  replace hr := hr.go (s_putf t221_2)
  replace hr := hr.go (s_aload_n t221_5 rfl)
  replace hr := hr.go (s_iload_n t221_6 rfl)
  replace hr := hr.cvI t221_7 rfl rfl (ct_isJokeR g3 hl)
  rw [show xu m 128 0 0 130 2 = Int32.ofNat J from by rw [xu_row (by decide), h3]] at hr
  rcases hr.zEq t221_10 with ⟨b10, hr⟩ | ⟨b10, hr⟩
  · replace hr := hr.go (s_k t221_34)
    obtain ⟨rfl, hs⟩ := hr.iret t221_35
    exact ⟨_, _, hs, Or.inl ⟨Or.inl b10, rfl⟩, NW.x⟩
  · replace hr := hr.go (s_iload_n t221_13 rfl)
    replace hr := hr.csI t221_14 rfl rfl (ct_isMileR)
    rcases hr.zEq t221_17 with ⟨b17, hr⟩ | ⟨b17, hr⟩
    · replace hr := hr.go (s_k t221_34)
      obtain ⟨rfl, hs⟩ := hr.iret t221_35
      exact ⟨_, _, hs, Or.inl ⟨Or.inr b17, rfl⟩, NW.x⟩
    · obtain ⟨j, hj, rfl⟩ := rdV_ok hJ b10
      obtain ⟨v, hv, rfl⟩ := mlV_ok b17
      replace hr := hr.go (s_aload_n t221_20 rfl)
      replace hr := hr.go (s_getr (b := 164) t221_21 (hG.1 51 (by decide) (by decide)))
      replace hr := hr.go (s_iload_n t221_24 rfl)
      replace hr := hr.go (s_laload t221_25)
      rw [xn_nat (show j < 2147483648 by omega)] at hr
      replace hr := hr.go (s_iload_n t221_26 rfl)
      replace hr := hr.go (s_lshr t221_27)
      replace hr := hr.go (s_lconst t221_28)
      replace hr := hr.go (s_land t221_29)
      replace hr := hr.go (s_l2i t221_30)
      replace hr := hr.go (s_goto t221_31)
      obtain ⟨rfl, hs⟩ := hr.iret t221_35
      exact ⟨_, _, hs, Or.inr ⟨j, hj, rfl, v, hv, rfl, congrArg (fun z => some (Value.int z)) (sh_b (x := g 164 j) (v := v) (by omega))⟩, NW.x⟩
end
section
/-! Bits of a long counted byte by byte: what Long.bitCount answers. -/
def mk8 (v : Nat) : Nat → Nat
  | 0 => 0
  | n + 1 => v + 256 * mk8 v n
theorem and_cat {b h v m : Nat} (hb : b < 256) (hv : v < 256) : (b + 256 * h) &&& (v + 256 * m) = (b &&& v) + 256 * (h &&& m) := by
  have e1 : ((b + 256 * h) &&& (v + 256 * m)) % 2 ^ 8 = (b &&& v) := by
    rw [Nat.and_mod_two_pow, show (b + 256 * h) % 2 ^ 8 = b by omega, show (v + 256 * m) % 2 ^ 8 = v by omega]
  have e2 : ((b + 256 * h) &&& (v + 256 * m)) / 2 ^ 8 = (h &&& m) := by
    rw [Nat.and_div_two_pow, show (b + 256 * h) / 2 ^ 8 = h by omega, show (v + 256 * m) / 2 ^ 8 = m by omega]
  have e3 := Nat.div_add_mod ((b + 256 * h) &&& (v + 256 * m)) (2 ^ 8)
  rw [e1, e2] at e3
  rw [← e3, Nat.add_comm]
def A8 (n X : Nat) : Nat := X - ((X / 2) &&& mk8 85 n)
def B8 (n X : Nat) : Nat := (X &&& mk8 51 n) + ((X / 4) &&& mk8 51 n)
def C8 (n X : Nat) : Nat := (X + X / 16) &&& mk8 15 n
def A1 (b : Nat) : Nat := b - ((b / 2) &&& 85)
def B1 (l : Nat) : Nat := (l &&& 51) + ((l / 4) &&& 51)
def q8 (b : Nat) : Nat := (B1 (A1 b) + B1 (A1 b) / 16) &&& 15
theorem by1 : ∀ b : Nat, b < 256 → (∀ e : Nat, e < 2 → (b / 2 + 128 * e) &&& 85 = (b / 2) &&& 85) ∧ ((b / 2) &&& 85) ≤ b ∧ A1 b < 256 := by decide +kernel
theorem by2 : ∀ l : Nat, l < 256 → (∀ e : Nat, e < 4 → (l / 4 + 64 * e) &&& 51 = (l / 4) &&& 51) ∧ B1 l < 256 := by decide +kernel
theorem by3 : ∀ b : Nat, b < 256 → B1 (A1 b) ≤ 68 ∧ B1 (A1 b) % 16 ≤ 4 ∧ (∀ e : Nat, e < 5 → (B1 (A1 b) + B1 (A1 b) / 16 + 16 * e) &&& 15 = q8 b) ∧ q8 b ≤ 8 := by decide +kernel
theorem A_s {n b h : Nat} (hb : b < 256) : A8 (n + 1) (b + 256 * h) = A1 b + 256 * A8 n h := by
  obtain ⟨z1, z2, -⟩ := by1 b hb
  have e : (b + 256 * h) / 2 = (b / 2 + 128 * (h % 2)) + 256 * (h / 2) := by omega
  have hl : ((h / 2) &&& mk8 85 n) ≤ h := Nat.le_trans Nat.and_le_left (Nat.div_le_self h 2)
  have z3 := z1 (h % 2) (by omega)
  have e2 : ((b + 256 * h) / 2) &&& mk8 85 (n + 1) = ((b / 2) &&& 85) + 256 * ((h / 2) &&& mk8 85 n) := by
    rw [e, ← z3]
    exact and_cat (by omega) (by decide)
  unfold A8 A1
  rw [e2]
  omega
theorem B_s {n l h : Nat} (hl : l < 256) : B8 (n + 1) (l + 256 * h) = B1 l + 256 * B8 n h := by
  obtain ⟨z1, -⟩ := by2 l hl
  have e : (l + 256 * h) / 4 = (l / 4 + 64 * (h % 4)) + 256 * (h / 4) := by omega
  have z3 := z1 (h % 4) (by omega)
  have e1 : (l + 256 * h) &&& mk8 51 (n + 1) = (l &&& 51) + 256 * (h &&& mk8 51 n) := and_cat hl (by decide)
  have e2 : ((l + 256 * h) / 4) &&& mk8 51 (n + 1) = ((l / 4) &&& 51) + 256 * ((h / 4) &&& mk8 51 n) := by
    rw [e, ← z3]
    exact and_cat (by omega) (by decide)
  unfold B8 B1
  rw [e1, e2]
  omega
theorem C_s {n b h : Nat} (hb : b < 256) (hh : h % 16 ≤ 4) : C8 (n + 1) (B1 (A1 b) + 256 * h) = q8 b + 256 * C8 n h := by
  obtain ⟨z1, z2, z3, -⟩ := by3 b hb
  have e : B1 (A1 b) + 256 * h + (B1 (A1 b) + 256 * h) / 16 = (B1 (A1 b) + B1 (A1 b) / 16 + 16 * (h % 16)) + 256 * (h + h / 16) := by omega
  have z4 := z3 (h % 16) (by omega)
  unfold C8
  rw [e, ← z4]
  exact and_cat (by omega) (by decide)
def S8 : Nat → Nat → Nat
  | 0, _ => 0
  | n + 1, X => q8 (X % 256) + 256 * S8 n (X / 256)
theorem T_s : ∀ (n X : Nat), X < 256 ^ n → C8 n (B8 n (A8 n X)) = S8 n X ∧ B8 n (A8 n X) % 16 ≤ 4 := by
  intro n
  induction n with
  | zero =>
    intro X h
    have h1 : X < 1 := h
    have h0 : X = 0 := by omega
    rw [h0]
    decide +kernel
  | succ n ih =>
    intro X h
    rw [Nat.pow_succ, Nat.mul_comm] at h
    obtain ⟨i1, i2⟩ := ih (X / 256) (Nat.div_lt_of_lt_mul h)
    have e : X % 256 + 256 * (X / 256) = X := by omega
    have hb : X % 256 < 256 := by omega
    have e1 := A_s (n := n) (b := X % 256) (h := X / 256) hb
    rw [e] at e1
    have e2 := B_s (n := n) (l := A1 (X % 256)) (h := A8 n (X / 256)) (by1 _ hb).2.2
    rw [← e1] at e2
    have e3 := C_s (n := n) (b := X % 256) (h := B8 n (A8 n (X / 256))) hb i2
    rw [← e2, i1] at e3
    refine ⟨e3, ?_⟩
    rw [e2]
    have := (by3 _ hb).2.1
    omega
theorem f8_T {a T b B : Nat} (h : a ≤ 8) (hT : T = a + 256 * b) (hb : b ≤ B) : T ≤ 8 + 256 * B := by omega
theorem f8_U {a b T S R U V : Nat} (hT : T = a + 256 * S) (hS : S = b + 256 * R) (hU : U = T + S) (hV : V = S + R) : U = (a + b) + 256 * V := by omega
theorem f8_d {c T a : Nat} (h : a ≤ 8) (hc : c = a + 256 * T) : c / 256 = T := by omega
theorem f8_e {U0 U1 U2 p0 p1 : Nat} (h0 : U0 = p0 + 256 * U1) (h1 : U1 = p1 + 256 * U2) (b0 : p0 ≤ 16) (b1 : p1 ≤ 16) : U0 / 65536 = U2 := by omega
theorem f8_V {p q U W U2 W2 V Y : Nat} (h1 : U = p + 256 * W) (h2 : U2 = q + 256 * W2) (hV : V = U + U2) (hY : Y = W + W2) : V = (p + q) + 256 * Y := by omega
theorem f8_f {V0 V1 V2 V3 V4 s0 s1 s2 s3 : Nat} (h0 : V0 = s0 + 256 * V1) (h1 : V1 = s1 + 256 * V2) (h2 : V2 = s2 + 256 * V3) (h3 : V3 = s3 + 256 * V4) (b0 : s0 ≤ 32) (b1 : s1 ≤ 32) (b2 : s2 ≤ 32) (b3 : s3 ≤ 32) : V0 / 4294967296 = V4 := by omega
theorem f8_b {T0 T1 T2 T3 T4 T5 T6 T7 U0 U2 U4 U6 V0 V4 : Nat} (b0 : T0 ≤ 578721382704613384) (b1 : T1 ≤ 2260630401189896) (b2 : T2 ≤ 8830587504648) (b3 : T3 ≤ 34494482440) (b4 : T4 ≤ 134744072) (b5 : T5 ≤ 526344) (b6 : T6 ≤ 2056) (b7 : T7 ≤ 8) (u0 : U0 = T0 + T1) (u2 : U2 = T2 + T3) (u4 : U4 = T4 + T5) (u6 : U6 = T6 + T7) (v0 : V0 = U0 + U2) (v4 : V4 = U4 + U6) : V0 + V4 < 18446744073709551616 := by omega
theorem f8_m {V0 V4 V1 V5 s0 s4 S : Nat} (h0 : V0 = s0 + 256 * V1) (h4 : V4 = s4 + 256 * V5) (hS : S = s0 + s4) (b : S ≤ 64) : (V0 + V4) % 128 = S := by omega
theorem f8_p {a b : Nat} (h : a ≤ 8) (h2 : b ≤ 8) : a + b ≤ 16 := by omega
theorem f8_q {a b : Nat} (h : a ≤ 16) (h2 : b ≤ 16) : a + b ≤ 32 := by omega
theorem f8_s {a0 a1 a2 a3 a4 a5 a6 a7 : Nat} (h0 : a0 ≤ 8) (h1 : a1 ≤ 8) (h2 : a2 ≤ 8) (h3 : a3 ≤ 8) (h4 : a4 ≤ 8) (h5 : a5 ≤ 8) (h6 : a6 ≤ 8) (h7 : a7 ≤ 8) : a0 + a1 + a2 + a3 + a4 + a5 + a6 + a7 = (a0 + a1 + (a2 + a3)) + (a4 + a5 + (a6 + a7)) ∧ a0 + a1 + a2 + a3 + a4 + a5 + a6 + a7 ≤ 64 := by omega
theorem fold8 {a0 a1 a2 a3 a4 a5 a6 a7 c d e f : Nat} (h0 : a0 ≤ 8) (h1 : a1 ≤ 8) (h2 : a2 ≤ 8) (h3 : a3 ≤ 8) (h4 : a4 ≤ 8) (h5 : a5 ≤ 8) (h6 : a6 ≤ 8) (h7 : a7 ≤ 8) (hc : c = a0 + 256 * (a1 + 256 * (a2 + 256 * (a3 + 256 * (a4 + 256 * (a5 + 256 * (a6 + 256 * (a7 + 256 * 0)))))))) (hd : d = c + c / 256) (he : e = d + d / 65536) (hf : f = e + e / 4294967296) : f < 18446744073709551616 ∧ f % 128 = a0 + a1 + a2 + a3 + a4 + a5 + a6 + a7 := by
  obtain ⟨T7, t7⟩ : ∃ T : Nat, T = a7 + 256 * 0 := ⟨_, rfl⟩
  obtain ⟨T6, t6⟩ : ∃ T : Nat, T = a6 + 256 * T7 := ⟨_, rfl⟩
  obtain ⟨T5, t5⟩ : ∃ T : Nat, T = a5 + 256 * T6 := ⟨_, rfl⟩
  obtain ⟨T4, t4⟩ : ∃ T : Nat, T = a4 + 256 * T5 := ⟨_, rfl⟩
  obtain ⟨T3, t3⟩ : ∃ T : Nat, T = a3 + 256 * T4 := ⟨_, rfl⟩
  obtain ⟨T2, t2⟩ : ∃ T : Nat, T = a2 + 256 * T3 := ⟨_, rfl⟩
  obtain ⟨T1, t1⟩ : ∃ T : Nat, T = a1 + 256 * T2 := ⟨_, rfl⟩
  have t0 : c = a0 + 256 * T1 := by rw [hc, t1, t2, t3, t4, t5, t6, t7]
  have b7 : T7 ≤ 8 := by rw [t7]; exact h7
  have b6 : T6 ≤ 2056 := f8_T h6 t6 b7
  have b5 : T5 ≤ 526344 := f8_T h5 t5 b6
  have b4 : T4 ≤ 134744072 := f8_T h4 t4 b5
  have b3 : T3 ≤ 34494482440 := f8_T h3 t3 b4
  have b2 : T2 ≤ 8830587504648 := f8_T h2 t2 b3
  have b1 : T1 ≤ 2260630401189896 := f8_T h1 t1 b2
  have b0 : c ≤ 578721382704613384 := f8_T h0 t0 b1
  obtain ⟨U0, u0⟩ : ∃ U : Nat, U = c + T1 := ⟨_, rfl⟩
  obtain ⟨U1, u1⟩ : ∃ U : Nat, U = T1 + T2 := ⟨_, rfl⟩
  obtain ⟨U2, u2⟩ : ∃ U : Nat, U = T2 + T3 := ⟨_, rfl⟩
  obtain ⟨U3, u3⟩ : ∃ U : Nat, U = T3 + T4 := ⟨_, rfl⟩
  obtain ⟨U4, u4⟩ : ∃ U : Nat, U = T4 + T5 := ⟨_, rfl⟩
  obtain ⟨U5, u5⟩ : ∃ U : Nat, U = T5 + T6 := ⟨_, rfl⟩
  obtain ⟨U6, u6⟩ : ∃ U : Nat, U = T6 + T7 := ⟨_, rfl⟩
  obtain ⟨U7, u7⟩ : ∃ U : Nat, U = T7 + 0 := ⟨_, rfl⟩
  have x0 : U0 = (a0 + a1) + 256 * U1 := f8_U t0 t1 u0 u1
  have x1 : U1 = (a1 + a2) + 256 * U2 := f8_U t1 t2 u1 u2
  have x2 : U2 = (a2 + a3) + 256 * U3 := f8_U t2 t3 u2 u3
  have x3 : U3 = (a3 + a4) + 256 * U4 := f8_U t3 t4 u3 u4
  have x4 : U4 = (a4 + a5) + 256 * U5 := f8_U t4 t5 u4 u5
  have x5 : U5 = (a5 + a6) + 256 * U6 := f8_U t5 t6 u5 u6
  have x6 : U6 = (a6 + a7) + 256 * U7 := f8_U t6 t7 u6 u7
  obtain ⟨V0, v0⟩ : ∃ V : Nat, V = U0 + U2 := ⟨_, rfl⟩
  obtain ⟨V1, v1⟩ : ∃ V : Nat, V = U1 + U3 := ⟨_, rfl⟩
  obtain ⟨V2, v2⟩ : ∃ V : Nat, V = U2 + U4 := ⟨_, rfl⟩
  obtain ⟨V3, v3⟩ : ∃ V : Nat, V = U3 + U5 := ⟨_, rfl⟩
  obtain ⟨V4, v4⟩ : ∃ V : Nat, V = U4 + U6 := ⟨_, rfl⟩
  obtain ⟨V5, v5⟩ : ∃ V : Nat, V = U5 + U7 := ⟨_, rfl⟩
  have y0 : V0 = ((a0 + a1) + (a2 + a3)) + 256 * V1 := f8_V x0 x2 v0 v1
  have y1 : V1 = ((a1 + a2) + (a3 + a4)) + 256 * V2 := f8_V x1 x3 v1 v2
  have y2 : V2 = ((a2 + a3) + (a4 + a5)) + 256 * V3 := f8_V x2 x4 v2 v3
  have y3 : V3 = ((a3 + a4) + (a5 + a6)) + 256 * V4 := f8_V x3 x5 v3 v4
  have y4 : V4 = ((a4 + a5) + (a6 + a7)) + 256 * V5 := f8_V x4 x6 v4 v5
  have ed : d = U0 := by rw [hd, f8_d h0 t0, u0]
  have ee : e = V0 := by rw [he, ed, f8_e x0 x1 (f8_p h0 h1) (f8_p h1 h2), v0]
  have ef : f = V0 + V4 := by rw [hf, ee, f8_f y0 y1 y2 y3 (f8_q (f8_p h0 h1) (f8_p h2 h3)) (f8_q (f8_p h1 h2) (f8_p h3 h4)) (f8_q (f8_p h2 h3) (f8_p h4 h5)) (f8_q (f8_p h3 h4) (f8_p h5 h6))]
  obtain ⟨s1, s2⟩ := f8_s h0 h1 h2 h3 h4 h5 h6 h7
  rw [ef]
  exact ⟨f8_b b0 b1 b2 b3 b4 b5 b6 b7 u0 u2 u4 u6 v0 v4, f8_m y0 y4 s1 s2⟩
/-- a long as a number of its own -/
abbrev uN (x : Int64) : Nat := x.toBitVec.toNat
theorem uN_lt (x : Int64) : uN x < 18446744073709551616 := x.toBitVec.isLt
theorem uN_and (x y : Int64) : uN (x &&& y) = uN x &&& uN y := by
  show (x.toBitVec &&& y.toBitVec).toNat = _
  rw [BitVec.toNat_and]
theorem uN_add {x y : Int64} (h : uN x + uN y < 18446744073709551616) : uN (x + y) = uN x + uN y := by
  show (x.toBitVec + y.toBitVec).toNat = _
  rw [BitVec.toNat_add]
  exact Nat.mod_eq_of_lt h
theorem uN_sub {x y : Int64} (h : uN y ≤ uN x) : uN (x - y) = uN x - uN y := by
  show (x.toBitVec - y.toBitVec).toNat = _
  rw [BitVec.toNat_sub]
  have h1 : x.toBitVec.toNat < 18446744073709551616 := x.toBitVec.isLt
  have h2 : y.toBitVec.toNat ≤ x.toBitVec.toNat := h
  show (18446744073709551616 - y.toBitVec.toNat + x.toBitVec.toNat) % 18446744073709551616 = x.toBitVec.toNat - y.toBitVec.toNat
  omega
def shU (x : Int64) (k : Int32) : Int64 := (x.toUInt64 >>> (k.toInt64.toUInt64 &&& Int64.toUInt64 63)).toInt64
theorem uN_sh (k : Nat) (hk : k < 64) (x : Int64) : uN (shU x (Int32.ofNat k)) = uN x / 2 ^ k := by
  show (x.toUInt64 >>> ((Int32.ofNat k).toInt64.toUInt64 &&& Int64.toUInt64 63)).toBitVec.toNat = _
  rw [UInt64.toBitVec_shiftRight]
  show (x.toUInt64.toBitVec >>> (((Int32.ofNat k).toInt64.toUInt64 &&& Int64.toUInt64 63).toBitVec % 64).toNat).toNat = _
  rw [sl_4 k hk, BitVec.toNat_ushiftRight, Nat.shiftRight_eq_div_pow]
  rfl
def sw1 (x : Int64) : Int64 := x - (shU x 1 &&& 6148914691236517205)
def sw2 (x : Int64) : Int64 := (x &&& 3689348814741910323) + (shU x 2 &&& 3689348814741910323)
def sw3 (x : Int64) : Int64 := (x + shU x 4) &&& 1085102592571150095
def sw4 (x : Int64) : Int64 := x + shU x 8
def sw5 (x : Int64) : Int64 := x + shU x 16
def sw6 (x : Int64) : Int64 := x + shU x 32
def SW (x : Int64) : Int32 := (sw6 (sw5 (sw4 (sw3 (sw2 (sw1 x)))))).toInt32 &&& 127
theorem mk8_8 : mk8 85 8 = 6148914691236517205 ∧ mk8 51 8 = 3689348814741910323 ∧ mk8 15 8 = 1085102592571150095 := by decide +kernel
theorem uN_k : uN 6148914691236517205 = mk8 85 8 ∧ uN 3689348814741910323 = mk8 51 8 ∧ uN 1085102592571150095 = mk8 15 8 := by decide +kernel
theorem sw1_u (x : Int64) : uN (sw1 x) = A8 8 (uN x) := by
  have e : uN (shU x 1 &&& 6148914691236517205) = (uN x / 2) &&& mk8 85 8 := by
    rw [uN_and, uN_k.1, show uN (shU x 1) = uN x / 2 ^ 1 from uN_sh 1 (by decide) x]
  have h : uN (shU x 1 &&& 6148914691236517205) ≤ uN x := by
    rw [e]
    exact Nat.le_trans Nat.and_le_left (Nat.div_le_self _ 2)
  unfold sw1 A8
  rw [uN_sub h, e]
theorem sw2_u (x : Int64) : uN (sw2 x) = B8 8 (uN x) := by
  have e1 : uN (x &&& 3689348814741910323) = uN x &&& mk8 51 8 := by rw [uN_and, uN_k.2.1]
  have e2 : uN (shU x 2 &&& 3689348814741910323) = (uN x / 4) &&& mk8 51 8 := by
    rw [uN_and, uN_k.2.1, show uN (shU x 2) = uN x / 2 ^ 2 from uN_sh 2 (by decide) x]
  have h1 : uN x &&& mk8 51 8 ≤ 3689348814741910323 := Nat.le_trans Nat.and_le_right (Nat.le_of_eq mk8_8.2.1)
  have h2 : (uN x / 4) &&& mk8 51 8 ≤ 3689348814741910323 := Nat.le_trans Nat.and_le_right (Nat.le_of_eq mk8_8.2.1)
  unfold sw2 B8
  rw [uN_add (by rw [e1, e2]; omega), e1, e2]
theorem sw3_u {x : Int64} (h : uN x + uN x / 16 < 18446744073709551616) : uN (sw3 x) = C8 8 (uN x) := by
  have e1 : uN (shU x 4) = uN x / 16 := uN_sh 4 (by decide) x
  unfold sw3 C8
  rw [uN_and, uN_k.2.2, uN_add (by rw [e1]; exact h), e1]
theorem i127 (x : Int64) : x.toInt32 &&& 127 = Int32.ofNat (uN x % 128) := by
  refine Int32.toBitVec_inj.mp (BitVec.eq_of_toNat_eq ?_)
  show (x.toInt32.toBitVec &&& (127 : Int32).toBitVec).toNat = (BitVec.ofNat 32 (uN x % 128)).toNat
  rw [BitVec.toNat_and, show (127 : Int32).toBitVec.toNat = 2 ^ 7 - 1 from rfl, Nat.and_two_pow_sub_one_eq_mod, BitVec.toNat_ofNat]
  have e : x.toInt32.toBitVec.toNat = uN x % 4294967296 := by
    show (x.toBitVec.signExtend 32).toNat = _
    rw [BitVec.signExtend_eq_setWidth_of_le _ (by decide), BitVec.toNat_setWidth] <;> rfl
  rw [e]
  omega
/-- how many of the first n bits of a number are set -/
def ctN (X : Nat) : Nat → Nat
  | 0 => 0
  | n + 1 => ctN X n + (if X.testBit n then 1 else 0)
theorem q8_ct : ∀ b : Nat, b < 256 → q8 b = ctN b 8 := by decide +kernel
theorem ct_sp (X n : Nat) : ∀ k : Nat, ctN X (n + k) = ctN X n + ctN (X / 2 ^ n) k := by
  intro k
  induction k with
  | zero => rfl
  | succ k ih =>
    show ctN X (n + k) + (if X.testBit (n + k) then 1 else 0) = ctN X n + (ctN (X / 2 ^ n) k + (if (X / 2 ^ n).testBit k then 1 else 0))
    rw [ih, Nat.testBit_div_two_pow, Nat.add_comm k n, Nat.add_assoc]
theorem ct_mod (X : Nat) : ∀ k : Nat, k ≤ 8 → ctN (X % 256) k = ctN X k := by
  intro k
  induction k with
  | zero => intro _; rfl
  | succ k ih =>
    intro hk
    show ctN (X % 256) k + (if (X % 256).testBit k then 1 else 0) = ctN X k + (if X.testBit k then 1 else 0)
    rw [ih (by omega), show X % 256 = X % 2 ^ 8 from rfl, Nat.testBit_mod_two_pow, decide_eq_true (show k < 8 by omega), Bool.true_and]
theorem q8_c (X : Nat) : q8 (X % 256) = ctN X 8 := by rw [q8_ct _ (Nat.mod_lt _ (by decide)), ct_mod X 8 (by decide)]
theorem SW_fin {x : Int64} {X : Nat} (c1 : uN (sw3 (sw2 (sw1 x))) = S8 8 X) : SW x = Int32.ofNat (ctN X 64) := by
  have k : ∀ Y : Nat, q8 (Y % 256) ≤ 8 := fun Y => (by3 _ (Nat.mod_lt _ (by decide))).2.2.2
  have c2 : S8 8 X = q8 (X % 256) + 256 * (q8 (X / 256 % 256) + 256 * (q8 (X / 256 / 256 % 256) + 256 * (q8 (X / 256 / 256 / 256 % 256) + 256 * (q8 (X / 256 / 256 / 256 / 256 % 256) + 256 * (q8 (X / 256 / 256 / 256 / 256 / 256 % 256) + 256 * (q8 (X / 256 / 256 / 256 / 256 / 256 / 256 % 256) + 256 * (q8 (X / 256 / 256 / 256 / 256 / 256 / 256 / 256 % 256) + 256 * 0))))))) := rfl
  obtain ⟨f1, f2⟩ := fold8 (k _) (k _) (k _) (k _) (k _) (k _) (k _) (k _) c2 rfl rfl rfl
  have e4 : uN (sw4 (sw3 (sw2 (sw1 x)))) = S8 8 X + S8 8 X / 256 := by
    have e : uN (shU (sw3 (sw2 (sw1 x))) 8) = S8 8 X / 256 := by rw [← c1]; exact uN_sh 8 (by decide) _
    unfold sw4
    rw [uN_add (by rw [e, c1]; omega), e, c1]
  have e5 : uN (sw5 (sw4 (sw3 (sw2 (sw1 x))))) = S8 8 X + S8 8 X / 256 + (S8 8 X + S8 8 X / 256) / 65536 := by
    have e : uN (shU (sw4 (sw3 (sw2 (sw1 x)))) 16) = (S8 8 X + S8 8 X / 256) / 65536 := by rw [← e4]; exact uN_sh 16 (by decide) _
    unfold sw5
    rw [uN_add (by rw [e, e4]; omega), e, e4]
  have e6 : uN (sw6 (sw5 (sw4 (sw3 (sw2 (sw1 x)))))) = S8 8 X + S8 8 X / 256 + (S8 8 X + S8 8 X / 256) / 65536 + (S8 8 X + S8 8 X / 256 + (S8 8 X + S8 8 X / 256) / 65536) / 4294967296 := by
    have e : uN (shU (sw5 (sw4 (sw3 (sw2 (sw1 x))))) 32) = (S8 8 X + S8 8 X / 256 + (S8 8 X + S8 8 X / 256) / 65536) / 4294967296 := by rw [← e5]; exact uN_sh 32 (by decide) _
    unfold sw6
    rw [uN_add (by rw [e, e5]; omega), e, e5]
  have s0 : q8 (X % 256) + q8 (X / 256 % 256) + q8 (X / 256 / 256 % 256) + q8 (X / 256 / 256 / 256 % 256) + q8 (X / 256 / 256 / 256 / 256 % 256) + q8 (X / 256 / 256 / 256 / 256 / 256 % 256) + q8 (X / 256 / 256 / 256 / 256 / 256 / 256 % 256) + q8 (X / 256 / 256 / 256 / 256 / 256 / 256 / 256 % 256) = ctN X 64 := by
    rw [q8_c, q8_c, q8_c, q8_c, q8_c, q8_c, q8_c, q8_c]
    have s1 : ctN X 64 = ctN X 8 + ctN (X / 256) 56 := ct_sp X 8 56
    have s2 : ctN (X / 256) 56 = ctN (X / 256) 8 + ctN (X / 256 / 256) 48 := ct_sp (X / 256) 8 48
    have s3 : ctN (X / 256 / 256) 48 = ctN (X / 256 / 256) 8 + ctN (X / 256 / 256 / 256) 40 := ct_sp (X / 256 / 256) 8 40
    have s4 : ctN (X / 256 / 256 / 256) 40 = ctN (X / 256 / 256 / 256) 8 + ctN (X / 256 / 256 / 256 / 256) 32 := ct_sp (X / 256 / 256 / 256) 8 32
    have s5 : ctN (X / 256 / 256 / 256 / 256) 32 = ctN (X / 256 / 256 / 256 / 256) 8 + ctN (X / 256 / 256 / 256 / 256 / 256) 24 := ct_sp (X / 256 / 256 / 256 / 256) 8 24
    have s6 : ctN (X / 256 / 256 / 256 / 256 / 256) 24 = ctN (X / 256 / 256 / 256 / 256 / 256) 8 + ctN (X / 256 / 256 / 256 / 256 / 256 / 256) 16 := ct_sp (X / 256 / 256 / 256 / 256 / 256) 8 16
    have s7 : ctN (X / 256 / 256 / 256 / 256 / 256 / 256) 16 = ctN (X / 256 / 256 / 256 / 256 / 256 / 256) 8 + ctN (X / 256 / 256 / 256 / 256 / 256 / 256 / 256) 8 := ct_sp (X / 256 / 256 / 256 / 256 / 256 / 256) 8 8
    rw [s1, s2, s3, s4, s5, s6, s7]
    simp only [Nat.add_assoc]
  unfold SW
  rw [i127, e6, f2, s0]
theorem SW_ok (x : Int64) : SW x = Int32.ofNat (ctN (uN x) 64) := by
  have hx := uN_lt x
  obtain ⟨t1, -⟩ := T_s 8 (uN x) (by rw [show (256 : Nat) ^ 8 = 18446744073709551616 from rfl]; exact hx)
  have b1 : uN (sw2 (sw1 x)) = B8 8 (A8 8 (uN x)) := by rw [sw2_u, sw1_u]
  have bb : B8 8 (A8 8 (uN x)) ≤ 7378697629483820646 := by
    have h1 : A8 8 (uN x) &&& mk8 51 8 ≤ 3689348814741910323 := Nat.le_trans Nat.and_le_right (Nat.le_of_eq mk8_8.2.1)
    have h2 : (A8 8 (uN x) / 4) &&& mk8 51 8 ≤ 3689348814741910323 := Nat.le_trans Nat.and_le_right (Nat.le_of_eq mk8_8.2.1)
    exact Nat.add_le_add h1 h2
  have bd : B8 8 (A8 8 (uN x)) / 16 ≤ 7378697629483820646 := Nat.le_trans (Nat.div_le_self _ 16) bb
  refine SW_fin ?_
  rw [sw3_u (by rw [b1]; omega), b1]
  exact t1
/-- with the last three bits away: as 62 bits are -/
theorem ct_62 {x : Int64} (h : ∀ v : Nat, 61 ≤ v → v < 64 → bl x v = false) : ctN (uN x) 64 = ctN (uN x) 62 := by
  have e : ∀ v : Nat, (uN x).testBit v = bl x v := fun v => rfl
  show ctN (uN x) 62 + (if (uN x).testBit 62 then 1 else 0) + (if (uN x).testBit 63 then 1 else 0) = _
  rw [e, e, h 62 (by decide) (by decide), h 63 (by decide) (by decide)]
  rfl
end
section
/-! joke of both sides: bits counted (by program: wip/x/gVa.py). -/
theorem t263_0 : xt zt263 0 1 (.lload_n 0) := ⟨rfl, rfl⟩
theorem t263_1 : xt zt263 1 2 (.lload_n 0) := ⟨rfl, rfl⟩
theorem t263_2 : xtk zt263 2 3 (1) := Or.inl ⟨1, ⟨rfl, rfl⟩, by decide⟩
theorem t263_3 : xt zt263 3 4 .lushr := ⟨rfl, rfl⟩
theorem t263_4 : xt zt263 4 7 (.ldc2_w 314) := ⟨rfl, rfl⟩
theorem t263_7 : xt zt263 7 8 .land := ⟨rfl, rfl⟩
theorem t263_8 : xt zt263 8 9 .lsub := ⟨rfl, rfl⟩
theorem t263_9 : xt zt263 9 10 (.lstore_n 0) := ⟨rfl, rfl⟩
theorem t263_10 : xt zt263 10 11 (.lload_n 0) := ⟨rfl, rfl⟩
theorem t263_11 : xt zt263 11 14 (.ldc2_w 316) := ⟨rfl, rfl⟩
theorem t263_14 : xt zt263 14 15 .land := ⟨rfl, rfl⟩
theorem t263_15 : xt zt263 15 16 (.lload_n 0) := ⟨rfl, rfl⟩
theorem t263_16 : xtk zt263 16 17 (2) := Or.inl ⟨2, ⟨rfl, rfl⟩, by decide⟩
theorem t263_17 : xt zt263 17 18 .lushr := ⟨rfl, rfl⟩
theorem t263_18 : xt zt263 18 21 (.ldc2_w 316) := ⟨rfl, rfl⟩
theorem t263_21 : xt zt263 21 22 .land := ⟨rfl, rfl⟩
theorem t263_22 : xt zt263 22 23 .ladd := ⟨rfl, rfl⟩
theorem t263_23 : xt zt263 23 24 (.lstore_n 0) := ⟨rfl, rfl⟩
theorem t263_24 : xt zt263 24 25 (.lload_n 0) := ⟨rfl, rfl⟩
theorem t263_25 : xt zt263 25 26 (.lload_n 0) := ⟨rfl, rfl⟩
theorem t263_26 : xtk zt263 26 27 (4) := Or.inl ⟨4, ⟨rfl, rfl⟩, by decide⟩
theorem t263_27 : xt zt263 27 28 .lushr := ⟨rfl, rfl⟩
theorem t263_28 : xt zt263 28 29 .ladd := ⟨rfl, rfl⟩
theorem t263_29 : xt zt263 29 32 (.ldc2_w 318) := ⟨rfl, rfl⟩
theorem t263_32 : xt zt263 32 33 .land := ⟨rfl, rfl⟩
theorem t263_33 : xt zt263 33 34 (.lstore_n 0) := ⟨rfl, rfl⟩
theorem t263_34 : xt zt263 34 35 (.lload_n 0) := ⟨rfl, rfl⟩
theorem t263_35 : xt zt263 35 36 (.lload_n 0) := ⟨rfl, rfl⟩
theorem t263_36 : xtk zt263 36 38 (8) := Or.inr (Or.inl ⟨8, ⟨rfl, rfl⟩, by decide⟩)
theorem t263_38 : xt zt263 38 39 .lushr := ⟨rfl, rfl⟩
theorem t263_39 : xt zt263 39 40 .ladd := ⟨rfl, rfl⟩
theorem t263_40 : xt zt263 40 41 (.lstore_n 0) := ⟨rfl, rfl⟩
theorem t263_41 : xt zt263 41 42 (.lload_n 0) := ⟨rfl, rfl⟩
theorem t263_42 : xt zt263 42 43 (.lload_n 0) := ⟨rfl, rfl⟩
theorem t263_43 : xtk zt263 43 45 (16) := Or.inr (Or.inl ⟨16, ⟨rfl, rfl⟩, by decide⟩)
theorem t263_45 : xt zt263 45 46 .lushr := ⟨rfl, rfl⟩
theorem t263_46 : xt zt263 46 47 .ladd := ⟨rfl, rfl⟩
theorem t263_47 : xt zt263 47 48 (.lstore_n 0) := ⟨rfl, rfl⟩
theorem t263_48 : xt zt263 48 49 (.lload_n 0) := ⟨rfl, rfl⟩
theorem t263_49 : xt zt263 49 50 (.lload_n 0) := ⟨rfl, rfl⟩
theorem t263_50 : xtk zt263 50 52 (32) := Or.inr (Or.inl ⟨32, ⟨rfl, rfl⟩, by decide⟩)
theorem t263_52 : xt zt263 52 53 .lushr := ⟨rfl, rfl⟩
theorem t263_53 : xt zt263 53 54 .ladd := ⟨rfl, rfl⟩
theorem t263_54 : xt zt263 54 55 (.lstore_n 0) := ⟨rfl, rfl⟩
theorem t263_55 : xt zt263 55 56 (.lload_n 0) := ⟨rfl, rfl⟩
theorem t263_56 : xt zt263 56 57 .l2i := ⟨rfl, rfl⟩
theorem t263_57 : xtk zt263 57 59 (127) := Or.inr (Or.inl ⟨127, ⟨rfl, rfl⟩, by decide⟩)
theorem t263_59 : xt zt263 59 60 .iand := ⟨rfl, rfl⟩
theorem t263_60 : xt zt263 60 61 .ireturn := ⟨rfl, rfl⟩
theorem t218_0 : xtk zt218 0 1 (0) := Or.inl ⟨0, ⟨rfl, rfl⟩, by decide⟩
theorem t218_1 : xt zt218 1 2 (.istore_n 2) := ⟨rfl, rfl⟩
theorem t218_2 : xtk zt218 2 3 (0) := Or.inl ⟨0, ⟨rfl, rfl⟩, by decide⟩
theorem t218_3 : xt zt218 3 4 (.istore_n 3) := ⟨rfl, rfl⟩
theorem t218_4 : xt zt218 4 5 (.iload_n 3) := ⟨rfl, rfl⟩
theorem t218_5 : xtk zt218 5 7 (62) := Or.inr (Or.inl ⟨62, ⟨rfl, rfl⟩, by decide⟩)
theorem t218_7 : xtb zt218 7 10 25 (.if_icmp .ge 18) (18) := ⟨rfl, rfl, rfl⟩
theorem t218_10 : xt zt218 10 11 (.iload_n 2) := ⟨rfl, rfl⟩
theorem t218_11 : xt zt218 11 12 (.lload_n 0) := ⟨rfl, rfl⟩
theorem t218_12 : xt zt218 12 13 (.iload_n 3) := ⟨rfl, rfl⟩
theorem t218_13 : xt zt218 13 14 .lshr := ⟨rfl, rfl⟩
theorem t218_14 : xt zt218 14 15 (.lconst 1) := ⟨rfl, rfl⟩
theorem t218_15 : xt zt218 15 16 .land := ⟨rfl, rfl⟩
theorem t218_16 : xt zt218 16 17 .l2i := ⟨rfl, rfl⟩
theorem t218_17 : xt zt218 17 18 .iadd := ⟨rfl, rfl⟩
theorem t218_18 : xt zt218 18 19 (.istore_n 2) := ⟨rfl, rfl⟩
theorem t218_19 : xt zt218 19 22 (.iinc 3 1) := ⟨rfl, rfl⟩
theorem t218_22 : xtb zt218 22 25 4 (.goto (-18)) (-18) := ⟨rfl, rfl, rfl⟩
theorem t218_25 : xt zt218 25 26 (.iload_n 2) := ⟨rfl, rfl⟩
theorem t218_26 : xt zt218 26 27 .ireturn := ⟨rfl, rfl⟩
theorem t108_0 : xt zt108 0 1 (.aload_n 0) := ⟨rfl, rfl⟩
theorem t108_1 : xt zt108 1 2 (.iload_n 1) := ⟨rfl, rfl⟩
theorem t108_2 : xtc zt108 10 2 5 (.invokevirtual 185) 185 1 104 1 := ⟨rfl, rfl, rfl⟩
theorem t108_5 : xtb zt108 5 8 10 (.ifCond .ne 5) (5) := ⟨rfl, rfl, rfl⟩
theorem t108_8 : xtk zt108 8 9 (-1) := Or.inl ⟨-1, ⟨rfl, rfl⟩, by decide⟩
theorem t108_9 : xt zt108 9 10 .ireturn := ⟨rfl, rfl⟩
theorem t108_10 : xt zt108 10 11 (.iload_n 2) := ⟨rfl, rfl⟩
theorem t108_11 : zt108 11 = some (.tableswitch 64 0 2 #[25, 38, 51], 25) := rfl
theorem t108_36 : xt zt108 36 37 (.aload_n 0) := ⟨rfl, rfl⟩
theorem t108_37 : xtf zt108 10 37 40 (.getfield 33) 33 10 5 3 := ⟨rfl, rfl, rfl, rfl⟩
theorem t108_40 : xtf zt108 10 40 43 (.getfield 123) 123 3 2 3 := ⟨rfl, rfl, rfl, rfl⟩
theorem t108_43 : xt zt108 43 44 (.iload_n 1) := ⟨rfl, rfl⟩
theorem t108_44 : xtk zt108 44 45 (1) := Or.inl ⟨1, ⟨rfl, rfl⟩, by decide⟩
theorem t108_45 : xtc zt108 10 45 48 (.invokevirtual 147) 147 1 83 2 := ⟨rfl, rfl, rfl⟩
theorem t108_48 : xt zt108 48 49 .ireturn := ⟨rfl, rfl⟩
theorem t108_49 : xt zt108 49 50 (.aload_n 0) := ⟨rfl, rfl⟩
theorem t108_50 : xtf zt108 10 50 53 (.getfield 33) 33 10 5 3 := ⟨rfl, rfl, rfl, rfl⟩
theorem t108_53 : xtf zt108 10 53 56 (.getfield 123) 123 3 2 3 := ⟨rfl, rfl, rfl, rfl⟩
theorem t108_56 : xt zt108 56 57 (.iload_n 1) := ⟨rfl, rfl⟩
theorem t108_57 : xtk zt108 57 58 (2) := Or.inl ⟨2, ⟨rfl, rfl⟩, by decide⟩
theorem t108_58 : xtc zt108 10 58 61 (.invokevirtual 147) 147 1 83 2 := ⟨rfl, rfl, rfl⟩
theorem t108_61 : xt zt108 61 62 .ireturn := ⟨rfl, rfl⟩
theorem t108_62 : xt zt108 62 63 (.aload_n 0) := ⟨rfl, rfl⟩
theorem t108_63 : xtf zt108 10 63 66 (.getfield 45) 45 10 7 3 := ⟨rfl, rfl, rfl, rfl⟩
theorem t108_66 : xtf zt108 10 66 69 (.getfield 188) 188 5 1 3 := ⟨rfl, rfl, rfl, rfl⟩
theorem t108_69 : xt zt108 69 70 (.iload_n 1) := ⟨rfl, rfl⟩
theorem t108_70 : xt zt108 70 71 .laload := ⟨rfl, rfl⟩
theorem t108_71 : xtc zt108 10 71 74 (.invokestatic 192) 192 2 263 1 := ⟨rfl, rfl, rfl⟩
theorem t108_74 : xt zt108 74 75 .ireturn := ⟨rfl, rfl⟩
theorem t108_75 : xtk zt108 75 76 (-1) := Or.inl ⟨-1, ⟨rfl, rfl⟩, by decide⟩
theorem t108_76 : xt zt108 76 77 .ireturn := ⟨rfl, rfl⟩
theorem t219_0 : xt zt219 0 1 (.aload_n 0) := ⟨rfl, rfl⟩
theorem t219_1 : xtk zt219 1 2 (0) := Or.inl ⟨0, ⟨rfl, rfl⟩, by decide⟩
theorem t219_2 : xtf zt219 11 2 5 (.putfield 166) 166 11 0 1 := ⟨rfl, rfl, rfl, rfl⟩
theorem t219_5 : xt zt219 5 6 (.aload_n 0) := ⟨rfl, rfl⟩
theorem t219_6 : xt zt219 6 7 (.iload_n 1) := ⟨rfl, rfl⟩
theorem t219_7 : xtc zt219 11 7 10 (.invokevirtual 458) 458 1 192 1 := ⟨rfl, rfl, rfl⟩
theorem t219_10 : xtb zt219 10 13 15 (.ifCond .ne 5) (5) := ⟨rfl, rfl, rfl⟩
theorem t219_13 : xtk zt219 13 14 (-1) := Or.inl ⟨-1, ⟨rfl, rfl⟩, by decide⟩
theorem t219_14 : xt zt219 14 15 .ireturn := ⟨rfl, rfl⟩
theorem t219_15 : xt zt219 15 16 (.iload_n 2) := ⟨rfl, rfl⟩
theorem t219_16 : xtb zt219 16 19 28 (.ifCond .ne 12) (12) := ⟨rfl, rfl, rfl⟩
theorem t219_19 : xt zt219 19 20 (.aload_n 0) := ⟨rfl, rfl⟩
theorem t219_20 : xtf zt219 11 20 23 (.getfield 34) 34 11 10 3 := ⟨rfl, rfl, rfl, rfl⟩
theorem t219_23 : xt zt219 23 24 (.iload_n 1) := ⟨rfl, rfl⟩
theorem t219_24 : xt zt219 24 25 .iaload := ⟨rfl, rfl⟩
theorem t219_25 : xtb zt219 25 28 60 (.goto 35) (35) := ⟨rfl, rfl, rfl⟩
theorem t219_28 : xt zt219 28 29 (.iload_n 2) := ⟨rfl, rfl⟩
theorem t219_29 : xtk zt219 29 30 (1) := Or.inl ⟨1, ⟨rfl, rfl⟩, by decide⟩
theorem t219_30 : xtb zt219 30 33 42 (.if_icmp .ne 12) (12) := ⟨rfl, rfl, rfl⟩
theorem t219_33 : xt zt219 33 34 (.aload_n 0) := ⟨rfl, rfl⟩
theorem t219_34 : xtf zt219 11 34 37 (.getfield 37) 37 11 11 3 := ⟨rfl, rfl, rfl, rfl⟩
theorem t219_37 : xt zt219 37 38 (.iload_n 1) := ⟨rfl, rfl⟩
theorem t219_38 : xt zt219 38 39 .iaload := ⟨rfl, rfl⟩
theorem t219_39 : xtb zt219 39 42 60 (.goto 21) (21) := ⟨rfl, rfl, rfl⟩
theorem t219_42 : xt zt219 42 43 (.iload_n 2) := ⟨rfl, rfl⟩
theorem t219_43 : xtk zt219 43 44 (2) := Or.inl ⟨2, ⟨rfl, rfl⟩, by decide⟩
theorem t219_44 : xtb zt219 44 47 59 (.if_icmp .ne 15) (15) := ⟨rfl, rfl, rfl⟩
theorem t219_47 : xt zt219 47 48 (.aload_n 0) := ⟨rfl, rfl⟩
theorem t219_48 : xtf zt219 11 48 51 (.getfield 120) 120 11 51 3 := ⟨rfl, rfl, rfl, rfl⟩
theorem t219_51 : xt zt219 51 52 (.iload_n 1) := ⟨rfl, rfl⟩
theorem t219_52 : xt zt219 52 53 .laload := ⟨rfl, rfl⟩
theorem t219_53 : xtc zt219 11 53 56 (.invokestatic 461) 461 2 218 1 := ⟨rfl, rfl, rfl⟩
theorem t219_56 : xtb zt219 56 59 60 (.goto 4) (4) := ⟨rfl, rfl, rfl⟩
theorem t219_59 : xtk zt219 59 60 (-1) := Or.inl ⟨-1, ⟨rfl, rfl⟩, by decide⟩
theorem t219_60 : xt zt219 60 61 .ireturn := ⟨rfl, rfl⟩
section XI
variable {nf : Bool} {xs : List Int32} {d c : Nat} {ini : Bool} {nL : Nat} {rt : Option FieldType} {tab : Nat → Option (Instr × Nat)} {G : xG} {r : Option Value} {h' : zH} {pc pc' len : Nat} {ls ls' : zL} {st : List Value} {m : xM} {g : xL} {N : Nat}
theorem s_ladd {x y : Int64} (t : xt tab pc pc' .ladd) : XS nf xs d c ini nL rt tab G r h' (pc, ls, .long y :: .long x :: st, m, g) (pc', ls, .long (x + y) :: st, m, g) := by
  obtain ⟨t, rfl⟩ := t
  exact xpure t rfl rfl (fun _ => rfl) (fun h s q => by cases q; rfl)
theorem s_lsub {x y : Int64} (t : xt tab pc pc' .lsub) : XS nf xs d c ini nL rt tab G r h' (pc, ls, .long y :: .long x :: st, m, g) (pc', ls, .long (x - y) :: st, m, g) := by
  obtain ⟨t, rfl⟩ := t
  exact xpure t rfl rfl (fun _ => rfl) (fun h s q => by cases q; rfl)
theorem s_lstore_n {k : Fin 4} {x : Int64} (t : xt tab pc pc' (.lstore_n k)) (e : zset2 ls k (.long x) = ls') : XS nf xs d c ini nL rt tab G r h' (pc, ls, .long x :: st, m, g) (pc', ls', st, m, g) := by
  obtain ⟨t, rfl⟩ := t
  exact xpure t rfl rfl (fun _ => rfl) (fun h s q => by
    simp only [zstep, zstI, zstL, e] at q
    split at q
    · next q2 => split at q2 <;> cases q2; cases q; rfl
    · next q2 => split at q2 <;> cases q2; cases q)
end XI
theorem ct_bitCount {nf : Bool} {xs : List Int32} {d : Nat} {m : xM} {g : xL} {G : xG} {x : Int64} : CT nf xs d 263 [.long x] m g G (PE (some (.int (SW x))) m g) := by
  refine CT.of (c := 14) (ini := false) (nL := 2) (rt := some .int) (tab := zt263) rfl (fun d' r h' N hd hr => ?_)
  replace hr : RR nf xs d' 14 false 2 (some .int) zt263 G r h' N (0, [(0, .long x)], [], m, g) := hr
  replace hr := hr.go (s_lload_n t263_0 rfl)
  replace hr := hr.go (s_lload_n t263_1 rfl)
  replace hr := hr.go (s_k t263_2)
  replace hr := hr.go (s_lushr t263_3)
  replace hr := hr.go (s_ldc2 t263_4 rfl)
  replace hr := hr.go (s_land t263_7)
  replace hr := hr.go (s_lsub t263_8)
  replace hr := hr.go (s_lstore_n (ls' := [(0, _)]) t263_9 rfl)
  replace hr := hr.go (s_lload_n t263_10 rfl)
  replace hr := hr.go (s_ldc2 t263_11 rfl)
  replace hr := hr.go (s_land t263_14)
  replace hr := hr.go (s_lload_n t263_15 rfl)
  replace hr := hr.go (s_k t263_16)
  replace hr := hr.go (s_lushr t263_17)
  replace hr := hr.go (s_ldc2 t263_18 rfl)
  replace hr := hr.go (s_land t263_21)
  replace hr := hr.go (s_ladd t263_22)
  replace hr := hr.go (s_lstore_n (ls' := [(0, _)]) t263_23 rfl)
  replace hr := hr.go (s_lload_n t263_24 rfl)
  replace hr := hr.go (s_lload_n t263_25 rfl)
  replace hr := hr.go (s_k t263_26)
  replace hr := hr.go (s_lushr t263_27)
  replace hr := hr.go (s_ladd t263_28)
  replace hr := hr.go (s_ldc2 t263_29 rfl)
  replace hr := hr.go (s_land t263_32)
  replace hr := hr.go (s_lstore_n (ls' := [(0, _)]) t263_33 rfl)
  replace hr := hr.go (s_lload_n t263_34 rfl)
  replace hr := hr.go (s_lload_n t263_35 rfl)
  replace hr := hr.go (s_k t263_36)
  replace hr := hr.go (s_lushr t263_38)
  replace hr := hr.go (s_ladd t263_39)
  replace hr := hr.go (s_lstore_n (ls' := [(0, _)]) t263_40 rfl)
  replace hr := hr.go (s_lload_n t263_41 rfl)
  replace hr := hr.go (s_lload_n t263_42 rfl)
  replace hr := hr.go (s_k t263_43)
  replace hr := hr.go (s_lushr t263_45)
  replace hr := hr.go (s_ladd t263_46)
  replace hr := hr.go (s_lstore_n (ls' := [(0, _)]) t263_47 rfl)
  replace hr := hr.go (s_lload_n t263_48 rfl)
  replace hr := hr.go (s_lload_n t263_49 rfl)
  replace hr := hr.go (s_k t263_50)
  replace hr := hr.go (s_lushr t263_52)
  replace hr := hr.go (s_ladd t263_53)
  replace hr := hr.go (s_lstore_n (ls' := [(0, _)]) t263_54 rfl)
  replace hr := hr.go (s_lload_n t263_55 rfl)
  replace hr := hr.go (s_l2i t263_56)
  replace hr := hr.go (s_k t263_57)
  replace hr := hr.go (s_iand t263_59)
  obtain ⟨rfl, hs⟩ := hr.iret t263_60
  exact ⟨_, _, hs, rfl, rfl, rfl⟩
theorem ct_bI {X k : Nat} {b : Bool} (h : X.testBit k = b) : Int32.ofNat (ctN X k) + bI b = Int32.ofNat (ctN X (k + 1)) := by
  show _ = Int32.ofNat (ctN X k + (if X.testBit k then 1 else 0))
  rw [h]
  cases b
  · exact xn_add (p := ctN X k) (k := 0)
  · exact xn_add (p := ctN X k) (k := 1)
theorem lp218 {nf : Bool} {xs : List Int32} {d : Nat} {m : xM} {g : xL} {G : xG} {r : Option Value} {h' : zH} {x : Int64} : ∀ (N k : Nat), k ≤ 62 → RR nf xs d 11 false 4 (some .int) zt218 G r h' N (4, [(3, .int (Int32.ofNat k)), (2, .int (Int32.ofNat (ctN (uN x) k))), (0, .long x)], [], m, g) → ∃ (m' : xM) (g' : xL), HS h' m' g' G ∧ r = some (.int (Int32.ofNat (ctN (uN x) 62))) ∧ m' = m ∧ g' = g := by
  intro N
  induction N with
  | zero => intro k _ hr; exact hr.no.elim
  | succ N ih =>
    intro k hk hr
    have qk : (Int32.ofNat k).toInt = (k : Int) := xn_int (by omega)
    have k62 : (62 : Int32).toInt = 62 := rfl
    replace hr := hr.go1 (s_iload_n t218_4 rfl)
    replace hr := hr.go (s_k t218_5)
    rcases hr.bGe t218_7 with ⟨b7, hr⟩ | ⟨b7, hr⟩
    · replace hr := hr.go (s_iload_n t218_25 rfl)
      obtain ⟨rfl, hs⟩ := hr.iret t218_26
      have e : k = 62 := by omega
      subst e
      exact ⟨_, _, hs, rfl, rfl, rfl⟩
    · replace hr := hr.go (s_iload_n t218_10 rfl)
      replace hr := hr.go (s_lload_n t218_11 rfl)
      replace hr := hr.go (s_iload_n t218_12 rfl)
      replace hr := hr.go (s_lshr t218_13)
      replace hr := hr.go (s_lconst t218_14)
      replace hr := hr.go (s_land t218_15)
      replace hr := hr.go (s_l2i t218_16)
      replace hr := hr.go (s_iadd t218_17)
      replace hr := hr.go (s_istore_n (ls' := [(2, _), (3, _), (0, _)]) t218_18 rfl)
      replace hr := hr.go (s_iinc (ls' := [(3, _), (2, _), (0, _)]) t218_19 rfl rfl)
      rw [xn_1i] at hr
      replace hr := hr.go (s_goto t218_22)
      have e : Int32.ofNat (ctN (uN x) k) + (x >>> ((Int32.ofNat k).toInt64 &&& 63) &&& 1).toInt32 = Int32.ofNat (ctN (uN x) (k + 1)) := by
        rw [sh_b (by omega)]
        exact ct_bI rfl
      exact ih (k + 1) (by omega) (by rw [← e]; exact hr)
theorem ct_bitsOf {nf : Bool} {xs : List Int32} {d : Nat} {m : xM} {g : xL} {G : xG} {x : Int64} : CT nf xs d 218 [.long x] m g G (PE (some (.int (Int32.ofNat (ctN (uN x) 62)))) m g) := by
  refine CT.of (c := 11) (ini := false) (nL := 4) (rt := some .int) (tab := zt218) rfl (fun d' r h' N hd hr => ?_)
  replace hr : RR nf xs d' 11 false 4 (some .int) zt218 G r h' N (0, [(0, .long x)], [], m, g) := hr
  replace hr := hr.go (s_k t218_0)
  replace hr := hr.go (s_istore_n (ls' := [(2, _), (0, _)]) t218_1 rfl)
  replace hr := hr.go (s_k t218_2)
  replace hr := hr.go (s_istore_n (ls' := [(3, _), (2, _), (0, _)]) t218_3 rfl)
  obtain ⟨m', g', hs, e1, e2, e3⟩ := lp218 (x := x) _ 0 (by decide) hr
  exact ⟨m', g', hs, e1, e2, e3⟩
/-- what joke answers: a fun, a kind, how often told -/
def JK (x y : Int32) (J : Nat) (a b c : Nat → Int32) (r : Option Value) : Prop := (rdV x (Int32.ofNat J) = 0 ∧ r = some (.int (-1))) ∨ ∃ j : Nat, j < J ∧ x = Int32.ofNat j ∧ r = some (.int (if y = 0 then a j else if y = 1 then b j else if y = 2 then c j else -1))
theorem ct_jokeC {nf : Bool} {xs : List Int32} {d : Nat} {m : xM} {g : xL} {G : xG} {P : Nat} {x y : Int32} {J : Nat} (h7 : G.1 0 7 = some 55) (h5 : G.1 0 5 = some P) (h2 : G.1 P 2 = some (P + 5)) (hA : GQ G 55) (hc : G.1 (P + 5) 2 = some (P + 6)) (hl18 : G.2 (P + 6) = (0, 1, 18)) (h0 : m (P + 5) 0 = Int32.ofNat 3) (h1 : m (P + 5) 1 = Int32.ofNat 6) (h3 : m (P + 5) 3 = Int32.ofNat J) (hJ : J ≤ 6) : CT nf xs d 108 [.ref 0, .int x, .int y] m g G (fun r m' g' => JK x y J (fun j => m (P + 6) (j * 3 + 1)) (fun j => m (P + 6) (j * 3 + 2)) (fun j => SW (g 57 j)) r ∧ m' = m ∧ g' = g) := by
  refine CT.of (c := 10) (ini := false) (nL := 3) (rt := some .int) (tab := zt108) rfl (fun d' r h' N hd hr => ?_)
  replace hr : RR nf xs d' 10 false 3 (some .int) zt108 G r h' N (0, [(0, .ref 0), (1, .int x), (2, .int y)], [], m, g) := hr
  have km1 : (-1 : Int32).toInt = -1 := rfl
  have k0 : (0 : Int32).toInt = 0 := rfl
  have k1 : (1 : Int32).toInt = 1 := rfl
  have k2 : (2 : Int32).toInt = 2 := rfl
  replace hr := hr.go (s_aload_n t108_0 rfl)
  replace hr := hr.go (s_iload_n t108_1 rfl)
  replace hr := hr.cvI t108_2 rfl rfl (ct_isJokeC h5 h2)
  rw [h3] at hr
  rcases hr.zNe t108_5 with ⟨b5, hr⟩ | ⟨b5, hr⟩
  · obtain ⟨j, hj, rfl⟩ := rdV_ok hJ b5
    replace hr := hr.go (s_iload_n t108_10 rfl)
    by_cases e11_0 : y = 0
    · subst e11_0
      replace hr := hr.go (s_tswitch (q := 36) t108_11 (by decide) (by decide) rfl rfl)
      replace hr := hr.go (s_aload_n t108_36 rfl)
      replace hr := hr.go (s_getr t108_37 (h5))
      replace hr := hr.go (s_getr t108_40 (h2))
      replace hr := hr.go (s_iload_n t108_43 rfl)
      replace hr := hr.go (s_k t108_44)
      replace hr := hr.cvI t108_45 rfl rfl (ct_at (cols := 3) (most := 6) (ro := j) (k := 1) (len := 18) hc hl18 h0 h1 (by decide) (by decide) (by omega) (by decide))
      obtain ⟨rfl, hs⟩ := hr.iret t108_48
      exact ⟨_, _, hs, Or.inr ⟨j, hj, rfl, by rw [if_pos rfl]⟩, rfl, rfl⟩
    by_cases e11_1 : y = 1
    · subst e11_1
      replace hr := hr.go (s_tswitch (q := 49) t108_11 (by decide) (by decide) rfl rfl)
      replace hr := hr.go (s_aload_n t108_49 rfl)
      replace hr := hr.go (s_getr t108_50 (h5))
      replace hr := hr.go (s_getr t108_53 (h2))
      replace hr := hr.go (s_iload_n t108_56 rfl)
      replace hr := hr.go (s_k t108_57)
      replace hr := hr.cvI t108_58 rfl rfl (ct_at (cols := 3) (most := 6) (ro := j) (k := 2) (len := 18) hc hl18 h0 h1 (by decide) (by decide) (by omega) (by decide))
      obtain ⟨rfl, hs⟩ := hr.iret t108_61
      exact ⟨_, _, hs, Or.inr ⟨j, hj, rfl, by rw [if_neg (by decide), if_pos rfl]⟩, rfl, rfl⟩
    by_cases e11_2 : y = 2
    · subst e11_2
      replace hr := hr.go (s_tswitch (q := 62) t108_11 (by decide) (by decide) rfl rfl)
      replace hr := hr.go (s_aload_n t108_62 rfl)
      replace hr := hr.go (s_getr t108_63 (h7))
      replace hr := hr.go (s_getr t108_66 (hA.2.1))
      replace hr := hr.go (s_iload_n t108_69 rfl)
      replace hr := hr.go (s_laload t108_70)
      rw [xn_nat (show j < 2147483648 by omega)] at hr
      replace hr := hr.csI t108_71 rfl rfl (ct_bitCount)
      obtain ⟨rfl, hs⟩ := hr.iret t108_74
      exact ⟨_, _, hs, Or.inr ⟨j, hj, rfl, by rw [if_neg (by decide), if_neg (by decide), if_pos rfl]⟩, rfl, rfl⟩
    replace hr := hr.go (s_tswitchD (q := 75) t108_11 (by have := xne e11_0; have := xne e11_1; have := xne e11_2; omega) rfl)
    replace hr := hr.go (s_k t108_75)
    obtain ⟨rfl, hs⟩ := hr.iret t108_76
    exact ⟨_, _, hs, Or.inr ⟨j, hj, rfl, by rw [if_neg e11_0, if_neg e11_1, if_neg e11_2]⟩, rfl, rfl⟩
  · replace hr := hr.go (s_k t108_8)
    obtain ⟨rfl, hs⟩ := hr.iret t108_9
    exact ⟨_, _, hs, Or.inl ⟨b5, rfl⟩, rfl, rfl⟩
theorem ct_jokeR {nf : Bool} {xs : List Int32} {d : Nat} {m : xM} {g : xL} {G : xG} {x y : Int32} {J L1 L2 : Nat} (hG : GW G) (g3 : G.1 128 3 = some 130) (hl : G.2 130 = (0, 1, 18)) (h10 : G.1 128 10 = some 137) (h11 : G.1 128 11 = some 138) (hl137 : G.2 137 = (0, 1, L1)) (hl138 : G.2 138 = (0, 1, L2)) (h3 : m 130 2 = Int32.ofNat J) (hJ : J ≤ 6) : CT nf xs d 219 [.ref 128, .int x, .int y] m g G (fun r m' g' => JK x y J (m 137) (m 138) (fun j => Int32.ofNat (ctN (uN (g 164 j)) 62)) r ∧ NW m g m' g') := by
  refine CT.of (c := 11) (ini := false) (nL := 3) (rt := some .int) (tab := zt219) rfl (fun d' r h' N hd hr => ?_)
  replace hr : RR nf xs d' 11 false 3 (some .int) zt219 G r h' N (0, [(0, .ref 128), (1, .int x), (2, .int y)], [], m, g) := hr
  have km1 : (-1 : Int32).toInt = -1 := rfl
  have k1 : (1 : Int32).toInt = 1 := rfl
  have k2 : (2 : Int32).toInt = 2 := rfl
  replace hr := hr.go (s_aload_n t219_0 rfl)
  replace hr := hr.go (s_k t219_1)
  replace hr := hr.go (s_putf t219_2)
  replace hr := hr.go (s_aload_n t219_5 rfl)
  replace hr := hr.go (s_iload_n t219_6 rfl)
  replace hr := hr.cvI t219_7 rfl rfl (ct_isJokeR g3 hl)
  rw [show xu m 128 0 0 130 2 = Int32.ofNat J from by rw [xu_row (by decide), h3]] at hr
  rcases hr.zNe t219_10 with ⟨b10, hr⟩ | ⟨b10, hr⟩
  · obtain ⟨j, hj, rfl⟩ := rdV_ok hJ b10
    replace hr := hr.go (s_iload_n t219_15 rfl)
    rcases hr.zNe t219_16 with ⟨b16, hr⟩ | ⟨b16, hr⟩
    · replace hr := hr.go (s_iload_n t219_28 rfl)
      replace hr := hr.go (s_k t219_29)
      rcases hr.bNe t219_30 with ⟨b30, hr⟩ | ⟨b30, hr⟩
      · replace hr := hr.go (s_iload_n t219_42 rfl)
        replace hr := hr.go (s_k t219_43)
        rcases hr.bNe t219_44 with ⟨b44, hr⟩ | ⟨b44, hr⟩
        · replace hr := hr.go (s_k t219_59)
          obtain ⟨rfl, hs⟩ := hr.iret t219_60
          exact ⟨_, _, hs, Or.inr ⟨j, hj, rfl, by rw [if_neg b16, if_neg b30, if_neg b44]⟩, NW.x⟩
        · replace hr := hr.go (s_aload_n t219_47 rfl)
          replace hr := hr.go (s_getr (b := 164) t219_48 (hG.1 51 (by decide) (by decide)))
          replace hr := hr.go (s_iload_n t219_51 rfl)
          replace hr := hr.go (s_laload t219_52)
          rw [xn_nat (show j < 2147483648 by omega)] at hr
          replace hr := hr.csI t219_53 rfl rfl (ct_bitsOf)
          replace hr := hr.go (s_goto t219_56)
          obtain ⟨rfl, hs⟩ := hr.iret t219_60
          exact ⟨_, _, hs, Or.inr ⟨j, hj, rfl, by rw [if_neg b16, if_neg b30, if_pos b44]⟩, NW.x⟩
      · replace hr := hr.go (s_aload_n t219_33 rfl)
        replace hr := hr.go (s_getr t219_34 (h11))
        replace hr := hr.go (s_iload_n t219_37 rfl)
        replace hr := hr.go (s_iaload t219_38 (hl138))
        rw [xn_nat (show j < 2147483648 by omega)] at hr
        replace hr := hr.go (s_goto t219_39)
        obtain ⟨rfl, hs⟩ := hr.iret t219_60
        exact ⟨_, _, hs, Or.inr ⟨j, hj, rfl, by rw [if_neg b16, if_pos b30, xu_row (by decide)]⟩, NW.x⟩
    · replace hr := hr.go (s_aload_n t219_19 rfl)
      replace hr := hr.go (s_getr t219_20 (h10))
      replace hr := hr.go (s_iload_n t219_23 rfl)
      replace hr := hr.go (s_iaload t219_24 (hl137))
      rw [xn_nat (show j < 2147483648 by omega)] at hr
      replace hr := hr.go (s_goto t219_25)
      obtain ⟨rfl, hs⟩ := hr.iret t219_60
      exact ⟨_, _, hs, Or.inr ⟨j, hj, rfl, by rw [if_pos b16, xu_row (by decide)]⟩, NW.x⟩
  · replace hr := hr.go (s_k t219_13)
    obtain ⟨rfl, hs⟩ := hr.iret t219_14
    exact ⟨_, _, hs, Or.inl ⟨b10, rfl⟩, NW.x⟩
end
