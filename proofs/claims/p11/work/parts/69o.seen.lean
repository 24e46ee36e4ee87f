/-! seen of both sides: sights and tunnels (by program: wip/x/gVb.py). -/
theorem t24_0 : xtk zt24 0 1 (0) := Or.inl ⟨0, ⟨rfl, rfl⟩, by decide⟩
theorem t24_1 : xt zt24 1 2 (.istore_n 2) := ⟨rfl, rfl⟩
theorem t24_2 : xt zt24 2 3 (.iload_n 2) := ⟨rfl, rfl⟩
theorem t24_3 : xt zt24 3 4 (.aload_n 0) := ⟨rfl, rfl⟩
theorem t24_4 : xtf zt24 3 4 7 (.getfield 32) 32 3 5 3 := ⟨rfl, rfl, rfl, rfl⟩
theorem t24_7 : xtf zt24 3 7 10 (.getfield 64) 64 7 3 1 := ⟨rfl, rfl, rfl, rfl⟩
theorem t24_10 : xtb zt24 10 13 47 (.if_icmp .ge 37) (37) := ⟨rfl, rfl, rfl⟩
theorem t24_13 : xt zt24 13 14 (.aload_n 0) := ⟨rfl, rfl⟩
theorem t24_14 : xtf zt24 3 14 17 (.getfield 32) 32 3 5 3 := ⟨rfl, rfl, rfl, rfl⟩
theorem t24_17 : xt zt24 17 18 (.iload_n 2) := ⟨rfl, rfl⟩
theorem t24_18 : xtk zt24 18 19 (0) := Or.inl ⟨0, ⟨rfl, rfl⟩, by decide⟩
theorem t24_19 : xtc zt24 3 19 22 (.invokevirtual 70) 70 1 83 2 := ⟨rfl, rfl, rfl⟩
theorem t24_22 : xt zt24 22 23 (.iload_n 1) := ⟨rfl, rfl⟩
theorem t24_23 : xtb zt24 23 26 41 (.if_icmp .gt 18) (18) := ⟨rfl, rfl, rfl⟩
theorem t24_26 : xt zt24 26 27 (.iload_n 1) := ⟨rfl, rfl⟩
theorem t24_27 : xt zt24 27 28 (.aload_n 0) := ⟨rfl, rfl⟩
theorem t24_28 : xtf zt24 3 28 31 (.getfield 32) 32 3 5 3 := ⟨rfl, rfl, rfl, rfl⟩
theorem t24_31 : xt zt24 31 32 (.iload_n 2) := ⟨rfl, rfl⟩
theorem t24_32 : xtk zt24 32 33 (1) := Or.inl ⟨1, ⟨rfl, rfl⟩, by decide⟩
theorem t24_33 : xtc zt24 3 33 36 (.invokevirtual 70) 70 1 83 2 := ⟨rfl, rfl, rfl⟩
theorem t24_36 : xtb zt24 36 39 41 (.if_icmp .gt 5) (5) := ⟨rfl, rfl, rfl⟩
theorem t24_39 : xtk zt24 39 40 (1) := Or.inl ⟨1, ⟨rfl, rfl⟩, by decide⟩
theorem t24_40 : xt zt24 40 41 .ireturn := ⟨rfl, rfl⟩
theorem t24_41 : xt zt24 41 44 (.iinc 2 1) := ⟨rfl, rfl⟩
theorem t24_44 : xtb zt24 44 47 2 (.goto (-42)) (-42) := ⟨rfl, rfl, rfl⟩
theorem t24_47 : xtk zt24 47 48 (0) := Or.inl ⟨0, ⟨rfl, rfl⟩, by decide⟩
theorem t24_48 : xt zt24 48 49 .ireturn := ⟨rfl, rfl⟩
theorem t25_0 : xtk zt25 0 1 (0) := Or.inl ⟨0, ⟨rfl, rfl⟩, by decide⟩
theorem t25_1 : xt zt25 1 2 (.istore_n 2) := ⟨rfl, rfl⟩
theorem t25_2 : xtk zt25 2 3 (0) := Or.inl ⟨0, ⟨rfl, rfl⟩, by decide⟩
theorem t25_3 : xt zt25 3 4 (.istore_n 3) := ⟨rfl, rfl⟩
theorem t25_4 : xt zt25 4 5 (.iload_n 3) := ⟨rfl, rfl⟩
theorem t25_5 : xt zt25 5 6 (.aload_n 0) := ⟨rfl, rfl⟩
theorem t25_6 : xtf zt25 3 6 9 (.getfield 29) 29 3 4 3 := ⟨rfl, rfl, rfl, rfl⟩
theorem t25_9 : xtf zt25 3 9 12 (.getfield 64) 64 7 3 1 := ⟨rfl, rfl, rfl, rfl⟩
theorem t25_12 : xtb zt25 12 15 46 (.if_icmp .ge 34) (34) := ⟨rfl, rfl, rfl⟩
theorem t25_15 : xt zt25 15 16 (.aload_n 0) := ⟨rfl, rfl⟩
theorem t25_16 : xtf zt25 3 16 19 (.getfield 29) 29 3 4 3 := ⟨rfl, rfl, rfl, rfl⟩
theorem t25_19 : xt zt25 19 20 (.iload_n 3) := ⟨rfl, rfl⟩
theorem t25_20 : xtk zt25 20 21 (0) := Or.inl ⟨0, ⟨rfl, rfl⟩, by decide⟩
theorem t25_21 : xtc zt25 3 21 24 (.invokevirtual 70) 70 1 83 2 := ⟨rfl, rfl, rfl⟩
theorem t25_24 : xt zt25 24 25 (.iload_n 1) := ⟨rfl, rfl⟩
theorem t25_25 : xtb zt25 25 28 40 (.if_icmp .ne 15) (15) := ⟨rfl, rfl, rfl⟩
theorem t25_28 : xt zt25 28 29 (.iload_n 2) := ⟨rfl, rfl⟩
theorem t25_29 : xt zt25 29 30 (.aload_n 0) := ⟨rfl, rfl⟩
theorem t25_30 : xtf zt25 3 30 33 (.getfield 29) 29 3 4 3 := ⟨rfl, rfl, rfl, rfl⟩
theorem t25_33 : xt zt25 33 34 (.iload_n 3) := ⟨rfl, rfl⟩
theorem t25_34 : xtk zt25 34 35 (1) := Or.inl ⟨1, ⟨rfl, rfl⟩, by decide⟩
theorem t25_35 : xtc zt25 3 35 38 (.invokevirtual 70) 70 1 83 2 := ⟨rfl, rfl, rfl⟩
theorem t25_38 : xt zt25 38 39 .iadd := ⟨rfl, rfl⟩
theorem t25_39 : xt zt25 39 40 (.istore_n 2) := ⟨rfl, rfl⟩
theorem t25_40 : xt zt25 40 43 (.iinc 3 1) := ⟨rfl, rfl⟩
theorem t25_43 : xtb zt25 43 46 4 (.goto (-39)) (-39) := ⟨rfl, rfl, rfl⟩
theorem t25_46 : xt zt25 46 47 (.aload_n 0) := ⟨rfl, rfl⟩
theorem t25_47 : xt zt25 47 48 (.iload_n 1) := ⟨rfl, rfl⟩
theorem t25_48 : xtc zt25 3 48 51 (.invokevirtual 74) 74 1 24 1 := ⟨rfl, rfl, rfl⟩
theorem t25_51 : xtb zt25 51 54 58 (.ifCond .eq 7) (7) := ⟨rfl, rfl, rfl⟩
theorem t25_54 : xtk zt25 54 55 (0) := Or.inl ⟨0, ⟨rfl, rfl⟩, by decide⟩
theorem t25_55 : xtb zt25 55 58 59 (.goto 4) (4) := ⟨rfl, rfl, rfl⟩
theorem t25_58 : xt zt25 58 59 (.iload_n 2) := ⟨rfl, rfl⟩
theorem t25_59 : xt zt25 59 60 .ireturn := ⟨rfl, rfl⟩
theorem t111_0 : xt zt111 0 1 (.iload_n 1) := ⟨rfl, rfl⟩
theorem t111_1 : xtc zt111 10 1 4 (.invokestatic 201) 201 2 105 1 := ⟨rfl, rfl, rfl⟩
theorem t111_4 : xtb zt111 4 7 18 (.ifCond .eq 14) (14) := ⟨rfl, rfl, rfl⟩
theorem t111_7 : xt zt111 7 8 (.aload_n 0) := ⟨rfl, rfl⟩
theorem t111_8 : xtf zt111 10 8 11 (.getfield 33) 33 10 5 3 := ⟨rfl, rfl, rfl, rfl⟩
theorem t111_11 : xt zt111 11 12 (.iload_n 1) := ⟨rfl, rfl⟩
theorem t111_12 : xtc zt111 10 12 15 (.invokevirtual 208) 208 1 25 1 := ⟨rfl, rfl, rfl⟩
theorem t111_15 : xtb zt111 15 18 19 (.goto 4) (4) := ⟨rfl, rfl, rfl⟩
theorem t111_18 : xtk zt111 18 19 (-1) := Or.inl ⟨-1, ⟨rfl, rfl⟩, by decide⟩
theorem t111_19 : xt zt111 19 20 .ireturn := ⟨rfl, rfl⟩
theorem t198_0 : xtk zt198 0 1 (0) := Or.inl ⟨0, ⟨rfl, rfl⟩, by decide⟩
theorem t198_1 : xt zt198 1 2 (.istore_n 2) := ⟨rfl, rfl⟩
theorem t198_2 : xt zt198 2 3 (.iload_n 2) := ⟨rfl, rfl⟩
theorem t198_3 : xt zt198 3 4 (.aload_n 0) := ⟨rfl, rfl⟩
theorem t198_4 : xtf zt198 11 4 7 (.getfield 13) 13 11 3 3 := ⟨rfl, rfl, rfl, rfl⟩
theorem t198_7 : xtk zt198 7 8 (5) := Or.inl ⟨5, ⟨rfl, rfl⟩, by decide⟩
theorem t198_8 : xt zt198 8 9 .iaload := ⟨rfl, rfl⟩
theorem t198_9 : xtb zt198 9 12 48 (.if_icmp .ge 39) (39) := ⟨rfl, rfl, rfl⟩
theorem t198_12 : xt zt198 12 13 (.aload_n 0) := ⟨rfl, rfl⟩
theorem t198_13 : xtf zt198 11 13 16 (.getfield 365) 365 11 55 1 := ⟨rfl, rfl, rfl, rfl⟩
theorem t198_16 : xtk zt198 16 17 (1) := Or.inl ⟨1, ⟨rfl, rfl⟩, by decide⟩
theorem t198_17 : xtb zt198 17 20 48 (.if_icmp .eq 31) (31) := ⟨rfl, rfl, rfl⟩
theorem t198_20 : xt zt198 20 21 (.aload_n 0) := ⟨rfl, rfl⟩
theorem t198_21 : xtf zt198 11 21 24 (.getfield 50) 50 11 15 3 := ⟨rfl, rfl, rfl, rfl⟩
theorem t198_24 : xt zt198 24 25 (.iload_n 2) := ⟨rfl, rfl⟩
theorem t198_25 : xt zt198 25 26 .iaload := ⟨rfl, rfl⟩
theorem t198_26 : xt zt198 26 27 (.iload_n 1) := ⟨rfl, rfl⟩
theorem t198_27 : xtb zt198 27 30 42 (.if_icmp .gt 15) (15) := ⟨rfl, rfl, rfl⟩
theorem t198_30 : xt zt198 30 31 (.iload_n 1) := ⟨rfl, rfl⟩
theorem t198_31 : xt zt198 31 32 (.aload_n 0) := ⟨rfl, rfl⟩
theorem t198_32 : xtf zt198 11 32 35 (.getfield 53) 53 11 16 3 := ⟨rfl, rfl, rfl, rfl⟩
theorem t198_35 : xt zt198 35 36 (.iload_n 2) := ⟨rfl, rfl⟩
theorem t198_36 : xt zt198 36 37 .iaload := ⟨rfl, rfl⟩
theorem t198_37 : xtb zt198 37 40 42 (.if_icmp .gt 5) (5) := ⟨rfl, rfl, rfl⟩
theorem t198_40 : xtk zt198 40 41 (1) := Or.inl ⟨1, ⟨rfl, rfl⟩, by decide⟩
theorem t198_41 : xt zt198 41 42 .ireturn := ⟨rfl, rfl⟩
theorem t198_42 : xt zt198 42 45 (.iinc 2 1) := ⟨rfl, rfl⟩
theorem t198_45 : xtb zt198 45 48 2 (.goto (-43)) (-43) := ⟨rfl, rfl, rfl⟩
theorem t198_48 : xtk zt198 48 49 (0) := Or.inl ⟨0, ⟨rfl, rfl⟩, by decide⟩
theorem t198_49 : xt zt198 49 50 .ireturn := ⟨rfl, rfl⟩
theorem t222_0 : xt zt222 0 1 (.aload_n 0) := ⟨rfl, rfl⟩
theorem t222_1 : xtk zt222 1 2 (0) := Or.inl ⟨0, ⟨rfl, rfl⟩, by decide⟩
theorem t222_2 : xtf zt222 11 2 5 (.putfield 166) 166 11 0 1 := ⟨rfl, rfl, rfl, rfl⟩
theorem t222_5 : xt zt222 5 6 (.iload_n 1) := ⟨rfl, rfl⟩
theorem t222_6 : xtc zt222 11 6 9 (.invokestatic 465) 465 2 193 1 := ⟨rfl, rfl, rfl⟩
theorem t222_9 : xtb zt222 9 12 14 (.ifCond .ne 5) (5) := ⟨rfl, rfl, rfl⟩
theorem t222_12 : xtk zt222 12 13 (-1) := Or.inl ⟨-1, ⟨rfl, rfl⟩, by decide⟩
theorem t222_13 : xt zt222 13 14 .ireturn := ⟨rfl, rfl⟩
theorem t222_14 : xtk zt222 14 15 (0) := Or.inl ⟨0, ⟨rfl, rfl⟩, by decide⟩
theorem t222_15 : xt zt222 15 16 (.istore_n 2) := ⟨rfl, rfl⟩
theorem t222_16 : xtk zt222 16 17 (0) := Or.inl ⟨0, ⟨rfl, rfl⟩, by decide⟩
theorem t222_17 : xt zt222 17 18 (.istore_n 3) := ⟨rfl, rfl⟩
theorem t222_18 : xt zt222 18 19 (.iload_n 3) := ⟨rfl, rfl⟩
theorem t222_19 : xt zt222 19 20 (.aload_n 0) := ⟨rfl, rfl⟩
theorem t222_20 : xtf zt222 11 20 23 (.getfield 13) 13 11 3 3 := ⟨rfl, rfl, rfl, rfl⟩
theorem t222_23 : xtk zt222 23 24 (4) := Or.inl ⟨4, ⟨rfl, rfl⟩, by decide⟩
theorem t222_24 : xt zt222 24 25 .iaload := ⟨rfl, rfl⟩
theorem t222_25 : xtb zt222 25 28 65 (.if_icmp .ge 40) (40) := ⟨rfl, rfl, rfl⟩
theorem t222_28 : xt zt222 28 29 (.aload_n 0) := ⟨rfl, rfl⟩
theorem t222_29 : xt zt222 29 30 (.iload_n 1) := ⟨rfl, rfl⟩
theorem t222_30 : xtc zt222 11 30 33 (.invokevirtual 419) 419 1 198 1 := ⟨rfl, rfl, rfl⟩
theorem t222_33 : xtb zt222 33 36 65 (.ifCond .ne 32) (32) := ⟨rfl, rfl, rfl⟩
theorem t222_36 : xt zt222 36 37 (.iload_n 2) := ⟨rfl, rfl⟩
theorem t222_37 : xt zt222 37 38 (.aload_n 0) := ⟨rfl, rfl⟩
theorem t222_38 : xtf zt222 11 38 41 (.getfield 44) 44 11 13 3 := ⟨rfl, rfl, rfl, rfl⟩
theorem t222_41 : xt zt222 41 42 (.iload_n 3) := ⟨rfl, rfl⟩
theorem t222_42 : xt zt222 42 43 .iaload := ⟨rfl, rfl⟩
theorem t222_43 : xt zt222 43 44 (.iload_n 1) := ⟨rfl, rfl⟩
theorem t222_44 : xtb zt222 44 47 56 (.if_icmp .ne 12) (12) := ⟨rfl, rfl, rfl⟩
theorem t222_47 : xt zt222 47 48 (.aload_n 0) := ⟨rfl, rfl⟩
theorem t222_48 : xtf zt222 11 48 51 (.getfield 47) 47 11 14 3 := ⟨rfl, rfl, rfl, rfl⟩
theorem t222_51 : xt zt222 51 52 (.iload_n 3) := ⟨rfl, rfl⟩
theorem t222_52 : xt zt222 52 53 .iaload := ⟨rfl, rfl⟩
theorem t222_53 : xtb zt222 53 56 57 (.goto 4) (4) := ⟨rfl, rfl, rfl⟩
theorem t222_56 : xtk zt222 56 57 (0) := Or.inl ⟨0, ⟨rfl, rfl⟩, by decide⟩
theorem t222_57 : xt zt222 57 58 .iadd := ⟨rfl, rfl⟩
theorem t222_58 : xt zt222 58 59 (.istore_n 2) := ⟨rfl, rfl⟩
theorem t222_59 : xt zt222 59 62 (.iinc 3 1) := ⟨rfl, rfl⟩
theorem t222_62 : xtb zt222 62 65 18 (.goto (-44)) (-44) := ⟨rfl, rfl, rfl⟩
theorem t222_65 : xt zt222 65 66 (.iload_n 2) := ⟨rfl, rfl⟩
theorem t222_66 : xt zt222 66 67 .ireturn := ⟨rfl, rfl⟩
abbrev tA (m : xM) (c cols i : Nat) : Nat → Int32 := fun k => m c (k * cols + i)
/-- a tunnel over the mile x among the first k -/
def dkF (a b : Nat → Int32) (x : Int32) : Nat → Bool
  | 0 => false
  | k + 1 => dkF a b x k || (decide ((a k).toInt ≤ x.toInt) && decide (x.toInt ≤ (b k).toInt))
theorem dk_no {a b : Nat → Int32} {x : Int32} {k : Nat} (hd : dkF a b x k = false) (h : x.toInt < (a k).toInt ∨ (b k).toInt < x.toInt) : dkF a b x (k + 1) = false := by
  show (dkF a b x k || (decide ((a k).toInt ≤ x.toInt) && decide (x.toInt ≤ (b k).toInt))) = false
  rw [hd, Bool.false_or]
  rcases h with h | h
  · rw [decide_eq_false (show ¬ (a k).toInt ≤ x.toInt by omega), Bool.false_and]
  · rw [decide_eq_false (show ¬ x.toInt ≤ (b k).toInt by omega), Bool.and_false]
theorem dk_yes {a b : Nat → Int32} {x : Int32} {k : Nat} (h1 : (a k).toInt ≤ x.toInt) (h2 : x.toInt ≤ (b k).toInt) : ∀ n : Nat, k < n → dkF a b x n = true := by
  intro n
  induction n with
  | zero => intro h; exact absurd h (Nat.not_lt_zero k)
  | succ n ih =>
    intro h
    show (dkF a b x n || (decide ((a n).toInt ≤ x.toInt) && decide (x.toInt ≤ (b n).toInt))) = true
    by_cases e : k = n
    · rw [← e, decide_eq_true h1, decide_eq_true h2, Bool.and_self, Bool.or_true]
    · rw [ih (by omega), Bool.true_or]
/-- the fun in sight at the mile x, of the first k -/
def smF (a b : Nat → Int32) (x : Int32) : Nat → Int32
  | 0 => 0
  | k + 1 => if a k = x then smF a b x k + b k else smF a b x k
theorem lp24 {nf : Bool} {xs : List Int32} {d : Nat} {m : xM} {g : xL} {G : xG} {r : Option Value} {h' : zH} {P n : Nat} {x : Int32} (h5 : G.1 P 5 = some (P + 11)) (hc : G.1 (P + 11) 2 = some (P + 12)) (hl : G.2 (P + 12) = (0, 1, 6)) (h0 : m (P + 11) 0 = Int32.ofNat 2) (h1 : m (P + 11) 1 = Int32.ofNat 3) (h3 : m (P + 11) 3 = Int32.ofNat n) (hn : n ≤ 3) : ∀ (N k : Nat), k ≤ n → dkF (tA m (P + 12) 2 0) (tA m (P + 12) 2 1) x k = false → RR nf xs d 3 false 3 (some .boolean) zt24 G r h' N (2, [(2, .int (Int32.ofNat k)), (0, .ref P), (1, .int x)], [], m, g) → ∃ (m' : xM) (g' : xL), HS h' m' g' G ∧ r = some (.int (bI (dkF (tA m (P + 12) 2 0) (tA m (P + 12) 2 1) x n))) ∧ m' = m ∧ g' = g := by
  intro N
  induction N with
  | zero => intro k _ _ hr; exact hr.no.elim
  | succ N ih =>
    intro k hk hd hr
    have qk : (Int32.ofNat k).toInt = (k : Int) := xn_int (by omega)
    have qn : (Int32.ofNat n).toInt = (n : Int) := xn_int (by omega)
    replace hr := hr.go1 (s_iload_n t24_2 rfl)
    replace hr := hr.go (s_aload_n t24_3 rfl)
    replace hr := hr.go (s_getr t24_4 h5)
    replace hr := hr.go (s_getf t24_7)
    rw [h3] at hr
    rcases hr.bGe t24_10 with ⟨b10, hr⟩ | ⟨b10, hr⟩
    · replace hr := hr.go (s_k t24_47)
      obtain ⟨rfl, hs⟩ := hr.iret t24_48
      have e : k = n := by omega
      rw [e] at hd
      exact ⟨_, _, hs, by rw [hd]; rfl, rfl, rfl⟩
    · replace hr := hr.go (s_aload_n t24_13 rfl)
      replace hr := hr.go (s_getr t24_14 h5)
      replace hr := hr.go (s_iload_n t24_17 rfl)
      replace hr := hr.go (s_k t24_18)
      replace hr := hr.cvI t24_19 rfl rfl (ct_at (cols := 2) (most := 3) (ro := k) (k := 0) (len := 6) hc hl h0 h1 (by decide) (by decide) (by omega) (by decide))
      replace hr := hr.go (s_iload_n t24_22 rfl)
      rcases hr.bGt t24_23 with ⟨b23, hr⟩ | ⟨b23, hr⟩
      · replace hr := hr.go (s_iinc (ls' := [(2, _), (0, _), (1, _)]) t24_41 rfl rfl)
        rw [xn_1i] at hr
        replace hr := hr.go (s_goto t24_44)
        exact ih (k + 1) (by omega) (dk_no hd (Or.inl b23)) hr
      · replace hr := hr.go (s_iload_n t24_26 rfl)
        replace hr := hr.go (s_aload_n t24_27 rfl)
        replace hr := hr.go (s_getr t24_28 h5)
        replace hr := hr.go (s_iload_n t24_31 rfl)
        replace hr := hr.go (s_k t24_32)
        replace hr := hr.cvI t24_33 rfl rfl (ct_at (cols := 2) (most := 3) (ro := k) (k := 1) (len := 6) hc hl h0 h1 (by decide) (by decide) (by omega) (by decide))
        rcases hr.bGt t24_36 with ⟨b36, hr⟩ | ⟨b36, hr⟩
        · replace hr := hr.go (s_iinc (ls' := [(2, _), (0, _), (1, _)]) t24_41 rfl rfl)
          rw [xn_1i] at hr
          replace hr := hr.go (s_goto t24_44)
          exact ih (k + 1) (by omega) (dk_no hd (Or.inr b36)) hr
        · replace hr := hr.go (s_k t24_39)
          obtain ⟨rfl, hs⟩ := hr.iret t24_40
          have q : dkF (tA m (P + 12) 2 0) (tA m (P + 12) 2 1) x n = true := dk_yes (k := k) b23 b36 n (by omega)
          exact ⟨_, _, hs, by rw [q]; rfl, rfl, rfl⟩
theorem ct_darkC {nf : Bool} {xs : List Int32} {d : Nat} {m : xM} {g : xL} {G : xG} {P n : Nat} {x : Int32} (h5 : G.1 P 5 = some (P + 11)) (hc : G.1 (P + 11) 2 = some (P + 12)) (hl : G.2 (P + 12) = (0, 1, 6)) (h0 : m (P + 11) 0 = Int32.ofNat 2) (h1 : m (P + 11) 1 = Int32.ofNat 3) (h3 : m (P + 11) 3 = Int32.ofNat n) (hn : n ≤ 3) : CT nf xs d 24 [.ref P, .int x] m g G (PE (some (.int (bI (dkF (tA m (P + 12) 2 0) (tA m (P + 12) 2 1) x n)))) m g) := by
  refine CT.of (c := 3) (ini := false) (nL := 3) (rt := some .boolean) (tab := zt24) rfl (fun d' r h' N hd hr => ?_)
  replace hr : RR nf xs d' 3 false 3 (some .boolean) zt24 G r h' N (0, [(0, .ref P), (1, .int x)], [], m, g) := hr
  replace hr := hr.go (s_k t24_0)
  replace hr := hr.go (s_istore_n (ls' := [(2, _), (0, _), (1, _)]) t24_1 rfl)
  obtain ⟨m', g', hs, e1, e2, e3⟩ := lp24 h5 hc hl h0 h1 h3 hn _ 0 (Nat.zero_le n) rfl hr
  exact ⟨m', g', hs, e1, e2, e3⟩
theorem lp25 {nf : Bool} {xs : List Int32} {d : Nat} {m : xM} {g : xL} {G : xG} {r : Option Value} {h' : zH} {P n : Nat} {x : Int32} (h4 : G.1 P 4 = some (P + 9)) (hc : G.1 (P + 9) 2 = some (P + 10)) (hl : G.2 (P + 10) = (0, 1, 10)) (h0 : m (P + 9) 0 = Int32.ofNat 2) (h1 : m (P + 9) 1 = Int32.ofNat 5) (h3 : m (P + 9) 3 = Int32.ofNat n) (hn : n ≤ 5) {n5 : Nat} (h5 : G.1 P 5 = some (P + 11)) (kc : G.1 (P + 11) 2 = some (P + 12)) (kl : G.2 (P + 12) = (0, 1, 6)) (k0 : m (P + 11) 0 = Int32.ofNat 2) (k1 : m (P + 11) 1 = Int32.ofNat 3) (k3 : m (P + 11) 3 = Int32.ofNat n5) (kn : n5 ≤ 3) : ∀ (N k : Nat), k ≤ n → RR nf xs d 3 false 4 (some .int) zt25 G r h' N (4, [(3, .int (Int32.ofNat k)), (2, .int (smF (tA m (P + 10) 2 0) (tA m (P + 10) 2 1) x k)), (0, .ref P), (1, .int x)], [], m, g) → ∃ (m' : xM) (g' : xL), HS h' m' g' G ∧ r = some (.int (if dkF (tA m (P + 12) 2 0) (tA m (P + 12) 2 1) x n5 = true then 0 else smF (tA m (P + 10) 2 0) (tA m (P + 10) 2 1) x n)) ∧ m' = m ∧ g' = g := by
  intro N
  induction N with
  | zero => intro k _ hr; exact hr.no.elim
  | succ N ih =>
    intro k hk hr
    have qk : (Int32.ofNat k).toInt = (k : Int) := xn_int (by omega)
    have qn : (Int32.ofNat n).toInt = (n : Int) := xn_int (by omega)
    replace hr := hr.go1 (s_iload_n t25_4 rfl)
    replace hr := hr.go (s_aload_n t25_5 rfl)
    replace hr := hr.go (s_getr t25_6 h4)
    replace hr := hr.go (s_getf t25_9)
    rw [h3] at hr
    rcases hr.bGe t25_12 with ⟨b12, hr⟩ | ⟨b12, hr⟩
    · have e : k = n := by omega
      rw [e] at hr
      replace hr := hr.go (s_aload_n t25_46 rfl)
      replace hr := hr.go (s_iload_n t25_47 rfl)
      replace hr := hr.cvI t25_48 rfl rfl (ct_darkC h5 kc kl k0 k1 k3 kn)
      rcases hr.zEq t25_51 with ⟨b51, hr⟩ | ⟨b51, hr⟩
      · replace hr := hr.go (s_iload_n t25_58 rfl)
        obtain ⟨rfl, hs⟩ := hr.iret t25_59
        exact ⟨_, _, hs, by rw [if_neg (by rw [bI_0 b51]; decide)], rfl, rfl⟩
      · replace hr := hr.go (s_k t25_54)
        replace hr := hr.go (s_goto t25_55)
        obtain ⟨rfl, hs⟩ := hr.iret t25_59
        exact ⟨_, _, hs, by rw [if_pos (bI_1 b51)], rfl, rfl⟩
    · replace hr := hr.go (s_aload_n t25_15 rfl)
      replace hr := hr.go (s_getr t25_16 h4)
      replace hr := hr.go (s_iload_n t25_19 rfl)
      replace hr := hr.go (s_k t25_20)
      replace hr := hr.cvI t25_21 rfl rfl (ct_at (cols := 2) (most := 5) (ro := k) (k := 0) (len := 10) hc hl h0 h1 (by decide) (by decide) (by omega) (by decide))
      replace hr := hr.go (s_iload_n t25_24 rfl)
      rcases hr.bNe t25_25 with ⟨b25, hr⟩ | ⟨b25, hr⟩
      · replace hr := hr.go (s_iinc (ls' := [(3, _), (2, _), (0, _), (1, _)]) t25_40 rfl rfl)
        rw [xn_1i] at hr
        replace hr := hr.go (s_goto t25_43)
        have e : smF (tA m (P + 10) 2 0) (tA m (P + 10) 2 1) x (k + 1) = smF (tA m (P + 10) 2 0) (tA m (P + 10) 2 1) x k := if_neg b25
        exact ih (k + 1) (by omega) (by rw [e]; exact hr)
      · replace hr := hr.go (s_iload_n t25_28 rfl)
        replace hr := hr.go (s_aload_n t25_29 rfl)
        replace hr := hr.go (s_getr t25_30 h4)
        replace hr := hr.go (s_iload_n t25_33 rfl)
        replace hr := hr.go (s_k t25_34)
        replace hr := hr.cvI t25_35 rfl rfl (ct_at (cols := 2) (most := 5) (ro := k) (k := 1) (len := 10) hc hl h0 h1 (by decide) (by decide) (by omega) (by decide))
        replace hr := hr.go (s_iadd t25_38)
        replace hr := hr.go (s_istore_n (ls' := [(2, _), (3, _), (0, _), (1, _)]) t25_39 rfl)
        replace hr := hr.go (s_iinc (ls' := [(3, _), (2, _), (0, _), (1, _)]) t25_40 rfl rfl)
        rw [xn_1i] at hr
        replace hr := hr.go (s_goto t25_43)
        have e : smF (tA m (P + 10) 2 0) (tA m (P + 10) 2 1) x (k + 1) = smF (tA m (P + 10) 2 0) (tA m (P + 10) 2 1) x k + m (P + 10) (k * 2 + 1) := if_pos b25
        exact ih (k + 1) (by omega) (by rw [e]; exact hr)
theorem ct_funC {nf : Bool} {xs : List Int32} {d : Nat} {m : xM} {g : xL} {G : xG} {P n : Nat} {x : Int32} (h4 : G.1 P 4 = some (P + 9)) (hc : G.1 (P + 9) 2 = some (P + 10)) (hl : G.2 (P + 10) = (0, 1, 10)) (h0 : m (P + 9) 0 = Int32.ofNat 2) (h1 : m (P + 9) 1 = Int32.ofNat 5) (h3 : m (P + 9) 3 = Int32.ofNat n) (hn : n ≤ 5) {n5 : Nat} (h5 : G.1 P 5 = some (P + 11)) (kc : G.1 (P + 11) 2 = some (P + 12)) (kl : G.2 (P + 12) = (0, 1, 6)) (k0 : m (P + 11) 0 = Int32.ofNat 2) (k1 : m (P + 11) 1 = Int32.ofNat 3) (k3 : m (P + 11) 3 = Int32.ofNat n5) (kn : n5 ≤ 3) : CT nf xs d 25 [.ref P, .int x] m g G (PE (some (.int (if dkF (tA m (P + 12) 2 0) (tA m (P + 12) 2 1) x n5 = true then 0 else smF (tA m (P + 10) 2 0) (tA m (P + 10) 2 1) x n))) m g) := by
  refine CT.of (c := 3) (ini := false) (nL := 4) (rt := some .int) (tab := zt25) rfl (fun d' r h' N hd hr => ?_)
  replace hr : RR nf xs d' 3 false 4 (some .int) zt25 G r h' N (0, [(0, .ref P), (1, .int x)], [], m, g) := hr
  replace hr := hr.go (s_k t25_0)
  replace hr := hr.go (s_istore_n (ls' := [(2, _), (0, _), (1, _)]) t25_1 rfl)
  replace hr := hr.go (s_k t25_2)
  replace hr := hr.go (s_istore_n (ls' := [(3, _), (2, _), (0, _), (1, _)]) t25_3 rfl)
  obtain ⟨m', g', hs, e1, e2, e3⟩ := lp25 h4 hc hl h0 h1 h3 hn h5 kc kl k0 k1 k3 kn _ 0 (Nat.zero_le n) hr
  exact ⟨m', g', hs, e1, e2, e3⟩
theorem ct_seenC {nf : Bool} {xs : List Int32} {d : Nat} {m : xM} {g : xL} {G : xG} {P n : Nat} {x : Int32} (h05 : G.1 0 5 = some P) (h4 : G.1 P 4 = some (P + 9)) (hc : G.1 (P + 9) 2 = some (P + 10)) (hl : G.2 (P + 10) = (0, 1, 10)) (h0 : m (P + 9) 0 = Int32.ofNat 2) (h1 : m (P + 9) 1 = Int32.ofNat 5) (h3 : m (P + 9) 3 = Int32.ofNat n) (hn : n ≤ 5) {n5 : Nat} (h5 : G.1 P 5 = some (P + 11)) (kc : G.1 (P + 11) 2 = some (P + 12)) (kl : G.2 (P + 12) = (0, 1, 6)) (k0 : m (P + 11) 0 = Int32.ofNat 2) (k1 : m (P + 11) 1 = Int32.ofNat 3) (k3 : m (P + 11) 3 = Int32.ofNat n5) (kn : n5 ≤ 3) : CT nf xs d 111 [.ref 0, .int x] m g G (PE (some (.int (if mlV x = 0 then -1 else if dkF (tA m (P + 12) 2 0) (tA m (P + 12) 2 1) x n5 = true then 0 else smF (tA m (P + 10) 2 0) (tA m (P + 10) 2 1) x n))) m g) := by
  refine CT.of (c := 10) (ini := false) (nL := 2) (rt := some .int) (tab := zt111) rfl (fun d' r h' N hd hr => ?_)
  replace hr : RR nf xs d' 10 false 2 (some .int) zt111 G r h' N (0, [(0, .ref 0), (1, .int x)], [], m, g) := hr
  replace hr := hr.go (s_iload_n t111_0 rfl)
  replace hr := hr.csI t111_1 rfl rfl (ct_isMileC)
  rcases hr.zEq t111_4 with ⟨b4, hr⟩ | ⟨b4, hr⟩
  · replace hr := hr.go (s_k t111_18)
    obtain ⟨rfl, hs⟩ := hr.iret t111_19
    exact ⟨_, _, hs, by rw [if_pos b4], rfl, rfl⟩
  · replace hr := hr.go (s_aload_n t111_7 rfl)
    replace hr := hr.go (s_getr t111_8 h05)
    replace hr := hr.go (s_iload_n t111_11 rfl)
    replace hr := hr.cvI t111_12 rfl rfl (ct_funC h4 hc hl h0 h1 h3 hn h5 kc kl k0 k1 k3 kn)
    replace hr := hr.go (s_goto t111_15)
    obtain ⟨rfl, hs⟩ := hr.iret t111_19
    exact ⟨_, _, hs, by rw [if_neg b4], rfl, rfl⟩
theorem lp198 {nf : Bool} {xs : List Int32} {d : Nat} {m : xM} {g : xL} {G : xG} {r : Option Value} {h' : zH} {n : Nat} {x : Int32} {L1 L2 : Nat} (g3 : G.1 128 3 = some 130) (hl : G.2 130 = (0, 1, 18)) (g15 : G.1 128 15 = some 142) (g16 : G.1 128 16 = some 143) (l1 : G.2 142 = (0, 1, L1)) (l2 : G.2 143 = (0, 1, L2)) (h55 : m 128 55 = 0) (h3 : m 130 5 = Int32.ofNat n) (hn : n ≤ 3) : ∀ (N k : Nat), k ≤ n → dkF (m 142) (m 143) x k = false → RR nf xs d 11 false 3 (some .boolean) zt198 G r h' N (2, [(2, .int (Int32.ofNat k)), (0, .ref 128), (1, .int x)], [], m, g) → ∃ (m' : xM) (g' : xL), HS h' m' g' G ∧ r = some (.int (bI (dkF (m 142) (m 143) x n))) ∧ m' = m ∧ g' = g := by
  intro N
  induction N with
  | zero => intro k _ _ hr; exact hr.no.elim
  | succ N ih =>
    intro k hk hd hr
    have qk : (Int32.ofNat k).toInt = (k : Int) := xn_int (by omega)
    have qn : (Int32.ofNat n).toInt = (n : Int) := xn_int (by omega)
    replace hr := hr.go1 (s_iload_n t198_2 rfl)
    replace hr := hr.go (s_aload_n t198_3 rfl)
    replace hr := hr.go (s_getr t198_4 g3)
    replace hr := hr.go (s_k t198_7)
    replace hr := hr.go (s_iaload t198_8 hl)
    rw [show m 130 (Int32.toNatClampNeg 5) = Int32.ofNat n from (congrArg (m 130) (show Int32.toNatClampNeg 5 = 5 by decide)).trans h3] at hr
    rcases hr.bGe t198_9 with ⟨b9, hr⟩ | ⟨b9, hr⟩
    · replace hr := hr.go (s_k t198_48)
      obtain ⟨rfl, hs⟩ := hr.iret t198_49
      have e : k = n := by omega
      rw [e] at hd
      exact ⟨_, _, hs, by rw [hd]; rfl, rfl, rfl⟩
    · replace hr := hr.go (s_aload_n t198_12 rfl)
      replace hr := hr.go (s_getf t198_13)
      rw [h55] at hr
      replace hr := hr.go (s_k t198_16)
      rcases hr.bEq t198_17 with ⟨b17, hr⟩ | ⟨b17, hr⟩
      · exact absurd b17 (by decide)
      · replace hr := hr.go (s_aload_n t198_20 rfl)
        replace hr := hr.go (s_getr t198_21 g15)
        replace hr := hr.go (s_iload_n t198_24 rfl)
        replace hr := hr.go (s_iaload t198_25 l1)
        rw [xn_nat (show k < 2147483648 by omega)] at hr
        replace hr := hr.go (s_iload_n t198_26 rfl)
        rcases hr.bGt t198_27 with ⟨b27, hr⟩ | ⟨b27, hr⟩
        · replace hr := hr.go (s_iinc (ls' := [(2, _), (0, _), (1, _)]) t198_42 rfl rfl)
          rw [xn_1i] at hr
          replace hr := hr.go (s_goto t198_45)
          exact ih (k + 1) (by omega) (dk_no hd (Or.inl b27)) hr
        · replace hr := hr.go (s_iload_n t198_30 rfl)
          replace hr := hr.go (s_aload_n t198_31 rfl)
          replace hr := hr.go (s_getr t198_32 g16)
          replace hr := hr.go (s_iload_n t198_35 rfl)
          replace hr := hr.go (s_iaload t198_36 l2)
          rw [xn_nat (show k < 2147483648 by omega)] at hr
          rcases hr.bGt t198_37 with ⟨b37, hr⟩ | ⟨b37, hr⟩
          · replace hr := hr.go (s_iinc (ls' := [(2, _), (0, _), (1, _)]) t198_42 rfl rfl)
            rw [xn_1i] at hr
            replace hr := hr.go (s_goto t198_45)
            exact ih (k + 1) (by omega) (dk_no hd (Or.inr b37)) hr
          · replace hr := hr.go (s_k t198_40)
            obtain ⟨rfl, hs⟩ := hr.iret t198_41
            have q : dkF (m 142) (m 143) x n = true := dk_yes (k := k) b27 b37 n (by omega)
            exact ⟨_, _, hs, by rw [q]; rfl, rfl, rfl⟩
theorem ct_darkR {nf : Bool} {xs : List Int32} {d : Nat} {m : xM} {g : xL} {G : xG} {n : Nat} {x : Int32} {L1 L2 : Nat} (g3 : G.1 128 3 = some 130) (hl : G.2 130 = (0, 1, 18)) (g15 : G.1 128 15 = some 142) (g16 : G.1 128 16 = some 143) (l1 : G.2 142 = (0, 1, L1)) (l2 : G.2 143 = (0, 1, L2)) (h55 : m 128 55 = 0) (h3 : m 130 5 = Int32.ofNat n) (hn : n ≤ 3) : CT nf xs d 198 [.ref 128, .int x] m g G (PE (some (.int (bI (dkF (m 142) (m 143) x n)))) m g) := by
  refine CT.of (c := 11) (ini := false) (nL := 3) (rt := some .boolean) (tab := zt198) rfl (fun d' r h' N hd hr => ?_)
  replace hr : RR nf xs d' 11 false 3 (some .boolean) zt198 G r h' N (0, [(0, .ref 128), (1, .int x)], [], m, g) := hr
  replace hr := hr.go (s_k t198_0)
  replace hr := hr.go (s_istore_n (ls' := [(2, _), (0, _), (1, _)]) t198_1 rfl)
  obtain ⟨m', g', hs, e1, e2, e3⟩ := lp198 g3 hl g15 g16 l1 l2 h55 h3 hn _ 0 (Nat.zero_le n) rfl hr
  exact ⟨m', g', hs, e1, e2, e3⟩
theorem lp222 {nf : Bool} {xs : List Int32} {d : Nat} {m : xM} {g : xL} {G : xG} {r : Option Value} {h' : zH} {n n4 : Nat} {x : Int32} {L1 L2 L3 L4 : Nat} (g3 : G.1 128 3 = some 130) (hl : G.2 130 = (0, 1, 18)) (g15 : G.1 128 15 = some 142) (g16 : G.1 128 16 = some 143) (l1 : G.2 142 = (0, 1, L1)) (l2 : G.2 143 = (0, 1, L2)) (h55 : m 128 55 = 0) (h3 : m 130 5 = Int32.ofNat n) (hn : n ≤ 3) (g13 : G.1 128 13 = some 140) (g14 : G.1 128 14 = some 141) (l3 : G.2 140 = (0, 1, L3)) (l4 : G.2 141 = (0, 1, L4)) (h4 : m 130 4 = Int32.ofNat n4) (hn4 : n4 ≤ 5) : ∀ (N k : Nat), k ≤ n4 → (k = 0 ∨ dkF (m 142) (m 143) x n = false) → RR nf xs d 11 false 4 (some .int) zt222 G r h' N (18, [(3, .int (Int32.ofNat k)), (2, .int (smF (m 140) (m 141) x k)), (0, .ref 128), (1, .int x)], [], m, g) → ∃ (m' : xM) (g' : xL), HS h' m' g' G ∧ r = some (.int (if dkF (m 142) (m 143) x n = true then 0 else smF (m 140) (m 141) x n4)) ∧ m' = m ∧ g' = g := by
  intro N
  induction N with
  | zero => intro k _ _ hr; exact hr.no.elim
  | succ N ih =>
    intro k hk hd hr
    have qk : (Int32.ofNat k).toInt = (k : Int) := xn_int (by omega)
    have qn : (Int32.ofNat n4).toInt = (n4 : Int) := xn_int (by omega)
    replace hr := hr.go1 (s_iload_n t222_18 rfl)
    replace hr := hr.go (s_aload_n t222_19 rfl)
    replace hr := hr.go (s_getr t222_20 g3)
    replace hr := hr.go (s_k t222_23)
    replace hr := hr.go (s_iaload t222_24 hl)
    rw [show m 130 (Int32.toNatClampNeg 4) = Int32.ofNat n4 from (congrArg (m 130) (show Int32.toNatClampNeg 4 = 4 by decide)).trans h4] at hr
    rcases hr.bGe t222_25 with ⟨b25, hr⟩ | ⟨b25, hr⟩
    · replace hr := hr.go (s_iload_n t222_65 rfl)
      obtain ⟨rfl, hs⟩ := hr.iret t222_66
      have e : n4 = k := by omega
      refine ⟨_, _, hs, ?_, rfl, rfl⟩
      rcases hd with z | z
      · rw [e, z]
        show some (Value.int 0) = some (Value.int (if dkF (m 142) (m 143) x n = true then 0 else 0))
        rw [ite_self]
      · rw [e, if_neg (by rw [z]; decide)]
    · replace hr := hr.go (s_aload_n t222_28 rfl)
      replace hr := hr.go (s_iload_n t222_29 rfl)
      replace hr := hr.cvI t222_30 rfl rfl (ct_darkR g3 hl g15 g16 l1 l2 h55 h3 hn)
      rcases hr.zNe t222_33 with ⟨b33, hr⟩ | ⟨b33, hr⟩
      · replace hr := hr.go (s_iload_n t222_65 rfl)
        obtain ⟨rfl, hs⟩ := hr.iret t222_66
        have q := bI_1 b33
        refine ⟨_, _, hs, ?_, rfl, rfl⟩
        rcases hd with z | z
        · rw [if_pos q, z]
          rfl
        · rw [q] at z
          cases z
      · have q := bI_0 b33
        replace hr := hr.go (s_iload_n t222_36 rfl)
        replace hr := hr.go (s_aload_n t222_37 rfl)
        replace hr := hr.go (s_getr t222_38 g13)
        replace hr := hr.go (s_iload_n t222_41 rfl)
        replace hr := hr.go (s_iaload t222_42 l3)
        rw [xn_nat (show k < 2147483648 by omega)] at hr
        replace hr := hr.go (s_iload_n t222_43 rfl)
        rcases hr.bNe t222_44 with ⟨b44, hr⟩ | ⟨b44, hr⟩
        · replace hr := hr.go (s_k t222_56)
          replace hr := hr.go (s_iadd t222_57)
          rw [Int32.add_zero] at hr
          replace hr := hr.go (s_istore_n (ls' := [(2, _), (3, _), (0, _), (1, _)]) t222_58 rfl)
          replace hr := hr.go (s_iinc (ls' := [(3, _), (2, _), (0, _), (1, _)]) t222_59 rfl rfl)
          rw [xn_1i] at hr
          replace hr := hr.go (s_goto t222_62)
          have e : smF (m 140) (m 141) x (k + 1) = smF (m 140) (m 141) x k := if_neg b44
          exact ih (k + 1) (by omega) (Or.inr q) (by rw [e]; exact hr)
        · replace hr := hr.go (s_aload_n t222_47 rfl)
          replace hr := hr.go (s_getr t222_48 g14)
          replace hr := hr.go (s_iload_n t222_51 rfl)
          replace hr := hr.go (s_iaload t222_52 l4)
          rw [xn_nat (show k < 2147483648 by omega)] at hr
          replace hr := hr.go (s_goto t222_53)
          replace hr := hr.go (s_iadd t222_57)
          replace hr := hr.go (s_istore_n (ls' := [(2, _), (3, _), (0, _), (1, _)]) t222_58 rfl)
          replace hr := hr.go (s_iinc (ls' := [(3, _), (2, _), (0, _), (1, _)]) t222_59 rfl rfl)
          rw [xn_1i] at hr
          replace hr := hr.go (s_goto t222_62)
          have e : smF (m 140) (m 141) x (k + 1) = smF (m 140) (m 141) x k + m 141 k := if_pos b44
          exact ih (k + 1) (by omega) (Or.inr q) (by rw [e]; exact hr)
theorem ct_seenR {nf : Bool} {xs : List Int32} {d : Nat} {m : xM} {g : xL} {G : xG} {n n4 : Nat} {x : Int32} {L1 L2 L3 L4 : Nat} (g3 : G.1 128 3 = some 130) (hl : G.2 130 = (0, 1, 18)) (g15 : G.1 128 15 = some 142) (g16 : G.1 128 16 = some 143) (l1 : G.2 142 = (0, 1, L1)) (l2 : G.2 143 = (0, 1, L2)) (h55 : m 128 55 = 0) (h3 : m 130 5 = Int32.ofNat n) (hn : n ≤ 3) (g13 : G.1 128 13 = some 140) (g14 : G.1 128 14 = some 141) (l3 : G.2 140 = (0, 1, L3)) (l4 : G.2 141 = (0, 1, L4)) (h4 : m 130 4 = Int32.ofNat n4) (hn4 : n4 ≤ 5) : CT nf xs d 222 [.ref 128, .int x] m g G (PE (some (.int (if mlV x = 0 then -1 else if dkF (m 142) (m 143) x n = true then 0 else smF (m 140) (m 141) x n4))) (xu m 128 0 0) g) := by
  refine CT.of (c := 11) (ini := false) (nL := 4) (rt := some .int) (tab := zt222) rfl (fun d' r h' N hd hr => ?_)
  replace hr : RR nf xs d' 11 false 4 (some .int) zt222 G r h' N (0, [(0, .ref 128), (1, .int x)], [], m, g) := hr
  replace hr := hr.go (s_aload_n t222_0 rfl)
  replace hr := hr.go (s_k t222_1)
  replace hr := hr.go (s_putf t222_2)
  replace hr := hr.go (s_iload_n t222_5 rfl)
  replace hr := hr.csI t222_6 rfl rfl (ct_isMileR)
  have z : ∀ c : Nat, ¬ c = 128 → xu m 128 0 0 c = m c := fun c hc => xu_row hc
  rcases hr.zNe t222_9 with ⟨b9, hr⟩ | ⟨b9, hr⟩
  · replace hr := hr.go (s_k t222_14)
    replace hr := hr.go (s_istore_n (ls' := [(2, _), (0, _), (1, _)]) t222_15 rfl)
    replace hr := hr.go (s_k t222_16)
    replace hr := hr.go (s_istore_n (ls' := [(3, _), (2, _), (0, _), (1, _)]) t222_17 rfl)
    obtain ⟨m', g', hs, e1, e2, e3⟩ := lp222 (m := xu m 128 0 0) (n := n) (n4 := n4) (x := x) g3 hl g15 g16 l1 l2 ((xu_oth (by omega)).trans h55) (by rw [z 130 (by decide)]; exact h3) hn g13 g14 l3 l4 (by rw [z 130 (by decide)]; exact h4) hn4 _ 0 (Nat.zero_le n4) (Or.inl rfl) hr
    rw [z 140 (by decide), z 141 (by decide), z 142 (by decide), z 143 (by decide)] at e1
    exact ⟨m', g', hs, by rw [e1, if_neg b9], e2, e3⟩
  · replace hr := hr.go (s_k t222_12)
    obtain ⟨rfl, hs⟩ := hr.iret t222_13
    exact ⟨_, _, hs, by rw [if_pos b9], rfl, rfl⟩
