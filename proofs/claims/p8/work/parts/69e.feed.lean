/-! feed, of both sides: the same bytes come behind the tape (bj_ush began as b_ushr of kit/laws/BITS). -/
theorem t98_0 : xt zt98 0 1 (.aload_n 0) := ⟨rfl, rfl⟩
theorem t98_1 : xtf zt98 10 1 4 (.getfield 13) 13 10 1 1 := ⟨rfl, rfl, rfl, rfl⟩
theorem t98_4 : xtk zt98 4 7 (680) := Or.inr (Or.inr ⟨680, ⟨rfl, rfl⟩, by decide⟩)
theorem t98_7 : xtb zt98 7 10 12 (.if_icmp .le 5) (5) := ⟨rfl, rfl, rfl⟩
theorem t98_10 : xtk zt98 10 11 (-1) := Or.inl ⟨-1, ⟨rfl, rfl⟩, by decide⟩
theorem t98_11 : xt zt98 11 12 .ireturn := ⟨rfl, rfl⟩
theorem t98_12 : xt zt98 12 13 (.aload_n 0) := ⟨rfl, rfl⟩
theorem t98_13 : xt zt98 13 14 (.iload_n 1) := ⟨rfl, rfl⟩
theorem t98_14 : xtc zt98 10 14 17 (.invokevirtual 92) 92 1 99 1 := ⟨rfl, rfl, rfl⟩
theorem t98_17 : xt zt98 17 18 (.aload_n 0) := ⟨rfl, rfl⟩
theorem t98_18 : xt zt98 18 19 (.iload_n 2) := ⟨rfl, rfl⟩
theorem t98_19 : xtc zt98 10 19 22 (.invokevirtual 92) 92 1 99 1 := ⟨rfl, rfl, rfl⟩
theorem t98_22 : xt zt98 22 23 (.aload_n 0) := ⟨rfl, rfl⟩
theorem t98_23 : xt zt98 23 24 (.iload_n 3) := ⟨rfl, rfl⟩
theorem t98_24 : xtc zt98 10 24 27 (.invokevirtual 92) 92 1 99 1 := ⟨rfl, rfl, rfl⟩
theorem t98_27 : xt zt98 27 28 (.aload_n 0) := ⟨rfl, rfl⟩
theorem t98_28 : xt zt98 28 30 (.iload 4) := ⟨rfl, rfl⟩
theorem t98_30 : xtc zt98 10 30 33 (.invokevirtual 92) 92 1 99 1 := ⟨rfl, rfl, rfl⟩
theorem t98_33 : xt zt98 33 34 (.aload_n 0) := ⟨rfl, rfl⟩
theorem t98_34 : xt zt98 34 36 (.iload 5) := ⟨rfl, rfl⟩
theorem t98_36 : xtc zt98 10 36 39 (.invokevirtual 92) 92 1 99 1 := ⟨rfl, rfl, rfl⟩
theorem t98_39 : xt zt98 39 40 (.aload_n 0) := ⟨rfl, rfl⟩
theorem t98_40 : xtf zt98 10 40 43 (.getfield 13) 13 10 1 1 := ⟨rfl, rfl, rfl, rfl⟩
theorem t98_43 : xt zt98 43 44 .ireturn := ⟨rfl, rfl⟩
theorem t99_0 : xtk zt99 0 2 (24) := Or.inr (Or.inl ⟨24, ⟨rfl, rfl⟩, by decide⟩)
theorem t99_2 : xt zt99 2 3 (.istore_n 2) := ⟨rfl, rfl⟩
theorem t99_3 : xt zt99 3 4 (.iload_n 2) := ⟨rfl, rfl⟩
theorem t99_4 : xtb zt99 4 7 49 (.ifCond .lt 45) (45) := ⟨rfl, rfl, rfl⟩
theorem t99_7 : xt zt99 7 8 (.aload_n 0) := ⟨rfl, rfl⟩
theorem t99_8 : xtf zt99 10 8 11 (.getfield 13) 13 10 1 1 := ⟨rfl, rfl, rfl, rfl⟩
theorem t99_11 : xtk zt99 11 14 (700) := Or.inr (Or.inr ⟨700, ⟨rfl, rfl⟩, by decide⟩)
theorem t99_14 : xtb zt99 14 17 43 (.if_icmp .ge 29) (29) := ⟨rfl, rfl, rfl⟩
theorem t99_17 : xt zt99 17 18 (.aload_n 0) := ⟨rfl, rfl⟩
theorem t99_18 : xtf zt99 10 18 21 (.getfield 9) 9 10 0 3 := ⟨rfl, rfl, rfl, rfl⟩
theorem t99_21 : xt zt99 21 22 (.aload_n 0) := ⟨rfl, rfl⟩
theorem t99_22 : xtf zt99 10 22 25 (.getfield 13) 13 10 1 1 := ⟨rfl, rfl, rfl, rfl⟩
theorem t99_25 : xt zt99 25 26 (.iload_n 1) := ⟨rfl, rfl⟩
theorem t99_26 : xt zt99 26 27 (.iload_n 2) := ⟨rfl, rfl⟩
theorem t99_27 : xt zt99 27 28 .iushr := ⟨rfl, rfl⟩
theorem t99_28 : xtk zt99 28 31 (255) := Or.inr (Or.inr ⟨255, ⟨rfl, rfl⟩, by decide⟩)
theorem t99_31 : xt zt99 31 32 .iand := ⟨rfl, rfl⟩
theorem t99_32 : xt zt99 32 33 .iastore := ⟨rfl, rfl⟩
theorem t99_33 : xt zt99 33 34 (.aload_n 0) := ⟨rfl, rfl⟩
theorem t99_34 : xt zt99 34 35 .dup := ⟨rfl, rfl⟩
theorem t99_35 : xtf zt99 10 35 38 (.getfield 13) 13 10 1 1 := ⟨rfl, rfl, rfl, rfl⟩
theorem t99_38 : xtk zt99 38 39 (1) := Or.inl ⟨1, ⟨rfl, rfl⟩, by decide⟩
theorem t99_39 : xt zt99 39 40 .iadd := ⟨rfl, rfl⟩
theorem t99_40 : xtf zt99 10 40 43 (.putfield 13) 13 10 1 1 := ⟨rfl, rfl, rfl, rfl⟩
theorem t99_43 : xt zt99 43 46 (.iinc 2 (-8)) := ⟨rfl, rfl⟩
theorem t99_46 : xtb zt99 46 49 3 (.goto (-43)) (-43) := ⟨rfl, rfl, rfl⟩
theorem t99_49 : xt zt99 49 50 .return_ := ⟨rfl, rfl⟩
theorem t150_0 : xt zt150 0 1 (.aload_n 0) := ⟨rfl, rfl⟩
theorem t150_1 : xtk zt150 1 2 (0) := Or.inl ⟨0, ⟨rfl, rfl⟩, by decide⟩
theorem t150_2 : xtf zt150 11 2 5 (.putfield 166) 166 11 0 1 := ⟨rfl, rfl, rfl, rfl⟩
theorem t150_5 : xt zt150 5 6 (.aload_n 0) := ⟨rfl, rfl⟩
theorem t150_6 : xtf zt150 11 6 9 (.getfield 169) 169 11 2 1 := ⟨rfl, rfl, rfl, rfl⟩
theorem t150_9 : xtk zt150 9 12 (680) := Or.inr (Or.inr ⟨680, ⟨rfl, rfl⟩, by decide⟩)
theorem t150_12 : xtb zt150 12 15 17 (.if_icmp .le 5) (5) := ⟨rfl, rfl, rfl⟩
theorem t150_15 : xtk zt150 15 16 (-1) := Or.inl ⟨-1, ⟨rfl, rfl⟩, by decide⟩
theorem t150_16 : xt zt150 16 17 .ireturn := ⟨rfl, rfl⟩
theorem t150_17 : xtk zt150 17 18 (0) := Or.inl ⟨0, ⟨rfl, rfl⟩, by decide⟩
theorem t150_18 : xt zt150 18 20 (.istore 6) := ⟨rfl, rfl⟩
theorem t150_20 : xt zt150 20 22 (.iload 6) := ⟨rfl, rfl⟩
theorem t150_22 : xtk zt150 22 24 (20) := Or.inr (Or.inl ⟨20, ⟨rfl, rfl⟩, by decide⟩)
theorem t150_24 : xtb zt150 24 27 110 (.if_icmp .ge 86) (86) := ⟨rfl, rfl, rfl⟩
theorem t150_27 : xt zt150 27 29 (.iload 6) := ⟨rfl, rfl⟩
theorem t150_29 : xtk zt150 29 30 (4) := Or.inl ⟨4, ⟨rfl, rfl⟩, by decide⟩
theorem t150_30 : xtb zt150 30 33 37 (.if_icmp .ge 7) (7) := ⟨rfl, rfl, rfl⟩
theorem t150_33 : xt zt150 33 34 (.iload_n 1) := ⟨rfl, rfl⟩
theorem t150_34 : xtb zt150 34 37 73 (.goto 39) (39) := ⟨rfl, rfl, rfl⟩
theorem t150_37 : xt zt150 37 39 (.iload 6) := ⟨rfl, rfl⟩
theorem t150_39 : xtk zt150 39 41 (8) := Or.inr (Or.inl ⟨8, ⟨rfl, rfl⟩, by decide⟩)
theorem t150_41 : xtb zt150 41 44 48 (.if_icmp .ge 7) (7) := ⟨rfl, rfl, rfl⟩
theorem t150_44 : xt zt150 44 45 (.iload_n 2) := ⟨rfl, rfl⟩
theorem t150_45 : xtb zt150 45 48 73 (.goto 28) (28) := ⟨rfl, rfl, rfl⟩
theorem t150_48 : xt zt150 48 50 (.iload 6) := ⟨rfl, rfl⟩
theorem t150_50 : xtk zt150 50 52 (12) := Or.inr (Or.inl ⟨12, ⟨rfl, rfl⟩, by decide⟩)
theorem t150_52 : xtb zt150 52 55 59 (.if_icmp .ge 7) (7) := ⟨rfl, rfl, rfl⟩
theorem t150_55 : xt zt150 55 56 (.iload_n 3) := ⟨rfl, rfl⟩
theorem t150_56 : xtb zt150 56 59 73 (.goto 17) (17) := ⟨rfl, rfl, rfl⟩
theorem t150_59 : xt zt150 59 61 (.iload 6) := ⟨rfl, rfl⟩
theorem t150_61 : xtk zt150 61 63 (16) := Or.inr (Or.inl ⟨16, ⟨rfl, rfl⟩, by decide⟩)
theorem t150_63 : xtb zt150 63 66 71 (.if_icmp .ge 8) (8) := ⟨rfl, rfl, rfl⟩
theorem t150_66 : xt zt150 66 68 (.iload 4) := ⟨rfl, rfl⟩
theorem t150_68 : xtb zt150 68 71 73 (.goto 5) (5) := ⟨rfl, rfl, rfl⟩
theorem t150_71 : xt zt150 71 73 (.iload 5) := ⟨rfl, rfl⟩
theorem t150_73 : xt zt150 73 75 (.istore 7) := ⟨rfl, rfl⟩
theorem t150_75 : xt zt150 75 76 (.aload_n 0) := ⟨rfl, rfl⟩
theorem t150_76 : xtf zt150 11 76 79 (.getfield 7) 7 11 1 3 := ⟨rfl, rfl, rfl, rfl⟩
theorem t150_79 : xt zt150 79 80 (.aload_n 0) := ⟨rfl, rfl⟩
theorem t150_80 : xtf zt150 11 80 83 (.getfield 169) 169 11 2 1 := ⟨rfl, rfl, rfl, rfl⟩
theorem t150_83 : xt zt150 83 85 (.iload 6) := ⟨rfl, rfl⟩
theorem t150_85 : xt zt150 85 86 .iadd := ⟨rfl, rfl⟩
theorem t150_86 : xt zt150 86 88 (.iload 7) := ⟨rfl, rfl⟩
theorem t150_88 : xtk zt150 88 90 (24) := Or.inr (Or.inl ⟨24, ⟨rfl, rfl⟩, by decide⟩)
theorem t150_90 : xtk zt150 90 92 (8) := Or.inr (Or.inl ⟨8, ⟨rfl, rfl⟩, by decide⟩)
theorem t150_92 : xt zt150 92 94 (.iload 6) := ⟨rfl, rfl⟩
theorem t150_94 : xtk zt150 94 95 (4) := Or.inl ⟨4, ⟨rfl, rfl⟩, by decide⟩
theorem t150_95 : xt zt150 95 96 .irem := ⟨rfl, rfl⟩
theorem t150_96 : xt zt150 96 97 .imul := ⟨rfl, rfl⟩
theorem t150_97 : xt zt150 97 98 .isub := ⟨rfl, rfl⟩
theorem t150_98 : xt zt150 98 99 .ishr := ⟨rfl, rfl⟩
theorem t150_99 : xtk zt150 99 102 (255) := Or.inr (Or.inr ⟨255, ⟨rfl, rfl⟩, by decide⟩)
theorem t150_102 : xt zt150 102 103 .iand := ⟨rfl, rfl⟩
theorem t150_103 : xt zt150 103 104 .iastore := ⟨rfl, rfl⟩
theorem t150_104 : xt zt150 104 107 (.iinc 6 1) := ⟨rfl, rfl⟩
theorem t150_107 : xtb zt150 107 110 20 (.goto (-87)) (-87) := ⟨rfl, rfl, rfl⟩
theorem t150_110 : xt zt150 110 111 (.aload_n 0) := ⟨rfl, rfl⟩
theorem t150_111 : xt zt150 111 112 .dup := ⟨rfl, rfl⟩
theorem t150_112 : xtf zt150 11 112 115 (.getfield 169) 169 11 2 1 := ⟨rfl, rfl, rfl, rfl⟩
theorem t150_115 : xtk zt150 115 117 (20) := Or.inr (Or.inl ⟨20, ⟨rfl, rfl⟩, by decide⟩)
theorem t150_117 : xt zt150 117 118 .iadd := ⟨rfl, rfl⟩
theorem t150_118 : xtf zt150 11 118 121 (.putfield 169) 169 11 2 1 := ⟨rfl, rfl, rfl, rfl⟩
theorem t150_121 : xt zt150 121 122 (.aload_n 0) := ⟨rfl, rfl⟩
theorem t150_122 : xtf zt150 11 122 125 (.getfield 169) 169 11 2 1 := ⟨rfl, rfl, rfl, rfl⟩
theorem t150_125 : xt zt150 125 126 .ireturn := ⟨rfl, rfl⟩
theorem sl_3 : ∀ n : Nat, n < 32 → (((Int32.ofNat n).toUInt32 &&& Int32.toUInt32 31).toBitVec % 32).toNat = n := by decide +kernel
theorem bj_ush (n : Nat) (hn : n < 32) (x : Int32) (i : Nat) : bj ((x.toUInt32 >>> ((Int32.ofNat n).toUInt32 &&& Int32.toUInt32 31)).toInt32) i = bj x (n + i) := by
  show (x.toUInt32 >>> ((Int32.ofNat n).toUInt32 &&& Int32.toUInt32 31)).toBitVec.getLsbD i = x.toUInt32.toBitVec.getLsbD (n + i)
  rw [UInt32.toBitVec_shiftRight]
  show (x.toUInt32.toBitVec >>> (((Int32.ofNat n).toUInt32 &&& Int32.toUInt32 31).toBitVec % 32).toNat).getLsbD i = _
  rw [sl_3 n hn, BitVec.getLsbD_ushiftRight]
theorem bj_255 : ∀ i : Nat, i < 32 → bj 255 i = decide (i < 8) := by decide +kernel
theorem byte_same (n : Nat) (hn : n ≤ 24) (x : Int32) : (x.toUInt32 >>> ((Int32.ofNat n).toUInt32 &&& Int32.toUInt32 31)).toInt32 &&& 255 = (x >>> (Int32.ofNat n &&& 31)) &&& 255 := by
  refine bj_ext (fun i hi => ?_)
  rw [bj_and, bj_and, bj_255 i hi, bj_ush n (by omega), bj_shr n (by omega) x hi]
  by_cases h : i < 8
  · rw [if_pos (by omega)]
  · rw [decide_eq_false h, Bool.and_false, Bool.and_false]
def upd1 (f : Nat → Int32) (p : Nat) (x : Int32) : Nat → Int32 := fun k => if k = p then x else f k
theorem xu_upd {m : xM} {a k : Nat} {x : Int32} : xu m a k x a = upd1 (m a) k x := funext fun j => by
  rw [xu_at]
  rfl
/-- n bytes from p + k on -/
def fdN (f : Nat → Int32) (p : Nat) (x : Nat → Int32) : Nat → Nat → Nat → Int32
  | _, 0 => f
  | k, n + 1 => fdN (upd1 f (p + k) (x k)) p x (k + 1) n
theorem fdN_eq {p : Nat} {x y : Nat → Int32} : ∀ (n k : Nat) (f : Nat → Int32), (∀ j : Nat, k ≤ j → j < k + n → x j = y j) → fdN f p x k n = fdN f p y k n
  | 0, _, _, _ => rfl
  | n + 1, k, f, h => by
    show fdN (upd1 f (p + k) (x k)) p x (k + 1) n = fdN (upd1 f (p + k) (y k)) p y (k + 1) n
    rw [h k (Nat.le_refl _) (by omega)]
    exact fdN_eq n (k + 1) _ (fun j h1 h2 => h j (by omega) (by omega))
def sel (a b c d e : Int32) (k : Nat) : Int32 := if k < 4 then a else if k < 8 then b else if k < 12 then c else if k < 16 then d else e
def byC (v s : Int32) : Int32 := (v.toUInt32 >>> (s.toUInt32 &&& Int32.toUInt32 31)).toInt32 &&& 255
def byR (v : Int32) (k : Nat) : Int32 := (v >>> ((24 - 8 * (Int32.ofNat k - Int32.ofNat k / 4 * 4)) &&& 31)) &&& 255
def shC (k : Nat) : Int32 := [24, 16, 8, 0].getD (k % 4) 0
theorem by_same {v : Int32} : ∀ k : Nat, k < 20 → byC v (shC k) = byR v k := by
  intro k hk
  have e : ∀ k : Nat, k < 20 → ∃ n : Nat, n ≤ 24 ∧ shC k = Int32.ofNat n ∧ 24 - 8 * (Int32.ofNat k - Int32.ofNat k / 4 * 4) = Int32.ofNat n := by
    intro k hk
    rcases (show k = 0 ∨ k = 1 ∨ k = 2 ∨ k = 3 ∨ k = 4 ∨ k = 5 ∨ k = 6 ∨ k = 7 ∨ k = 8 ∨ k = 9 ∨ k = 10 ∨ k = 11 ∨ k = 12 ∨ k = 13 ∨ k = 14 ∨ k = 15 ∨ k = 16 ∨ k = 17 ∨ k = 18 ∨ k = 19 by omega) with rfl | rfl | rfl | rfl | rfl | rfl | rfl | rfl | rfl | rfl | rfl | rfl | rfl | rfl | rfl | rfl | rfl | rfl | rfl | rfl
    all_goals first | exact ⟨24, by decide, by decide, by decide⟩ | exact ⟨16, by decide, by decide, by decide⟩ | exact ⟨8, by decide, by decide, by decide⟩ | exact ⟨0, by decide, by decide, by decide⟩
  obtain ⟨n, h1, h2, h3⟩ := e k hk
  unfold byC byR
  rw [h2, h3]
  exact byte_same n h1 v
theorem st99 {nf : Bool} {xs : List Int32} {d : Nat} {G : xG} {r : Option Value} {h' : zH} {N : Nat} {m : xM} {g : xL} {v s : Int32} {p : Nat} (h0 : G.1 0 0 = some 1) (h1 : m 0 1 = Int32.ofNat p) (hp : p < 700) (hs : zicmp .lt s 0 = false) (hr : RR nf xs d 10 false 3 none zt99 G r h' N (3, [(2, .int s), (0, .ref 0), (1, .int v)], [], m, g)) : ∃ m2 : xM, m2 0 1 = Int32.ofNat (p + 1) ∧ m2 1 = upd1 (m 1) p (byC v s) ∧ RR nf xs d 10 false 3 none zt99 G r h' N (3, [(2, .int (s + Int32.ofInt (-8))), (0, .ref 0), (1, .int v)], [], m2, g) := by
  have q7 : (Int32.ofNat p).toInt = (p : Int) := xn_int (by omega)
  replace hr := hr.go (s_iload_n t99_3 rfl)
  replace hr := hr.bzF t99_4 hs
  replace hr := hr.go (s_aload_n t99_7 rfl)
  replace hr := hr.go (s_getf t99_8)
  rw [h1] at hr
  replace hr := hr.go (s_k t99_11)
  rcases hr.bGe t99_14 with ⟨b14, hr⟩ | ⟨b14, hr⟩
  · exact absurd b14 (by have : (700 : Int32).toInt = 700 := rfl; omega)
  · replace hr := hr.go (s_aload_n t99_17 rfl)
    replace hr := hr.go (s_getr t99_18 (h0))
    replace hr := hr.go (s_aload_n t99_21 rfl)
    replace hr := hr.go (s_getf t99_22)
    rw [h1] at hr
    replace hr := hr.go (s_iload_n t99_25 rfl)
    replace hr := hr.go (s_iload_n t99_26 rfl)
    replace hr := hr.go (s_iushr t99_27)
    replace hr := hr.go (s_k t99_28)
    replace hr := hr.go (s_iand t99_31)
    replace hr := hr.go (s_iastore t99_32)
    rw [xn_nat (show p < 2147483648 by omega)] at hr
    replace hr := hr.go (s_aload_n t99_33 rfl)
    replace hr := hr.go (s_dup t99_34 rfl)
    replace hr := hr.go (s_getf t99_35)
    replace hr := hr.go (s_k t99_38)
    replace hr := hr.go (s_iadd t99_39)
    replace hr := hr.go (s_putf t99_40)
    replace hr := hr.go (s_iinc (ls' := [(2, _), (0, _), (1, _)]) t99_43 rfl rfl)
    replace hr := hr.go (s_goto t99_46)
    refine ⟨_, ?_, ?_, hr⟩
    · rw [xu_same, xu_row (by decide), h1, xn_1]
    · rw [xu_row (by decide), xu_upd]; rfl
theorem ct_putBytes {nf : Bool} {xs : List Int32} {d : Nat} {m : xM} {g : xL} {G : xG} {v : Int32} {p : Nat} (h0 : G.1 0 0 = some 1) (h1 : m 0 1 = Int32.ofNat p) (hp : p + 4 ≤ 700) : CT nf xs d 99 [.ref 0, .int v] m g G (PF none g (fun m' => m' 0 1 = Int32.ofNat (p + 4) ∧ m' 1 = upd1 (upd1 (upd1 (upd1 (m 1) p (byC v 24)) (p + 1) (byC v 16)) (p + 2) (byC v 8)) (p + 3) (byC v 0))) := by
  refine CT.of (c := 10) (ini := false) (nL := 3) (rt := none) (tab := zt99) rfl (fun d' r h' N hd' hr => ?_)
  replace hr : RR nf xs d' 10 false 3 none zt99 G r h' N (0, [(0, .ref 0), (1, .int v)], [], m, g) := hr
  replace hr := hr.go (s_k t99_0)
  replace hr := hr.go (s_istore_n (ls' := [(2, .int 24), (0, _), (1, _)]) t99_2 rfl)
  obtain ⟨m1, a1, b1, hr⟩ := st99 (p := p + 0) h0 h1 (by omega) (by decide) hr
  obtain ⟨m2, a2, b2, hr⟩ := st99 (p := p + 1) h0 a1 (by omega) (by decide) hr
  obtain ⟨m3, a3, b3, hr⟩ := st99 (p := p + 2) h0 a2 (by omega) (by decide) hr
  obtain ⟨m4, a4, b4, hr⟩ := st99 (p := p + 3) h0 a3 (by omega) (by decide) hr
  replace hr := hr.go (s_iload_n t99_3 rfl)
  replace hr := hr.bzT t99_4 (by decide)
  obtain ⟨rfl, hs⟩ := hr.ret t99_49
  exact ⟨_, _, hs, rfl, rfl, a4, by rw [b4, b3, b2, b1]; rfl⟩
theorem ct_feedC {nf : Bool} {xs : List Int32} {d : Nat} {m : xM} {g : xL} {G : xG} {a b c e f : Int32} {p : Nat} (h0 : G.1 0 0 = some 1) (h1 : m 0 1 = Int32.ofNat p) (hp : p ≤ 700) : CT nf xs d 98 [.ref 0, .int a, .int b, .int c, .int e, .int f] m g G (fun r m' _ => (680 < p ∧ m' 1 = m 1) ∨ (p ≤ 680 ∧ m' 1 = fdN (m 1) p (fun k => byC (sel a b c e f k) (shC k)) 0 20)) := by
  refine CT.of (c := 10) (ini := false) (nL := 6) (rt := some .int) (tab := zt98) rfl (fun d' r h' N hd' hr => ?_)
  replace hr : RR nf xs d' 10 false 6 (some .int) zt98 G r h' N (0, [(0, .ref 0), (1, .int a), (2, .int b), (3, .int c), (4, .int e), (5, .int f)], [], m, g) := hr
  have k680 : (680 : Int32).toInt = 680 := rfl
  have qp : (Int32.ofNat p).toInt = (p : Int) := xn_int (by omega)
  replace hr := hr.go (s_aload_n t98_0 rfl)
  replace hr := hr.go (s_getf t98_1)
  rw [h1] at hr
  replace hr := hr.go (s_k t98_4)
  rcases hr.bLe t98_7 with ⟨b7, hr⟩ | ⟨b7, hr⟩
  · replace hr := hr.go (s_aload_n t98_12 rfl)
    replace hr := hr.go (s_iload_n t98_13 rfl)
    obtain ⟨m1, ⟨a1, b1⟩, hr⟩ := hr.fvN t98_14 rfl rfl (ct_putBytes (p := p + 0) h0 h1 (by omega))
    skip
    replace hr := hr.go (s_aload_n t98_17 rfl)
    replace hr := hr.go (s_iload_n t98_18 rfl)
    obtain ⟨m2, ⟨a2, b2⟩, hr⟩ := hr.fvN t98_19 rfl rfl (ct_putBytes (p := p + 4) h0 a1 (by omega))
    skip
    replace hr := hr.go (s_aload_n t98_22 rfl)
    replace hr := hr.go (s_iload_n t98_23 rfl)
    obtain ⟨m3, ⟨a3, b3⟩, hr⟩ := hr.fvN t98_24 rfl rfl (ct_putBytes (p := p + 8) h0 a2 (by omega))
    skip
    replace hr := hr.go (s_aload_n t98_27 rfl)
    replace hr := hr.go (s_iload t98_28 rfl)
    obtain ⟨m4, ⟨a4, b4⟩, hr⟩ := hr.fvN t98_30 rfl rfl (ct_putBytes (p := p + 12) h0 a3 (by omega))
    skip
    replace hr := hr.go (s_aload_n t98_33 rfl)
    replace hr := hr.go (s_iload t98_34 rfl)
    obtain ⟨m5, ⟨a5, b5⟩, hr⟩ := hr.fvN t98_36 rfl rfl (ct_putBytes (p := p + 16) h0 a4 (by omega))
    skip
    replace hr := hr.go (s_aload_n t98_39 rfl)
    replace hr := hr.go (s_getf t98_40)
    obtain ⟨rfl, hs⟩ := hr.iret t98_43
    exact ⟨_, _, hs, Or.inr ⟨by omega, by rw [b5, b4, b3, b2, b1]; rfl⟩⟩
  · replace hr := hr.go (s_k t98_10)
    obtain ⟨rfl, hs⟩ := hr.iret t98_11
    exact ⟨_, _, hs, Or.inl ⟨by omega, rfl⟩⟩
theorem st150 {nf : Bool} {xs : List Int32} {d : Nat} {G : xG} {r : Option Value} {h' : zH} {a b c e f v : Int32} {p k N : Nat} {m : xM} {g : xL} {L : zL} (hL : zset1 L 7 (.int v) = [(7, .int v), (6, .int (Int32.ofNat k)), (0, .ref 128), (1, .int a), (2, .int b), (3, .int c), (4, .int e), (5, .int f)]) (hG : G.1 128 1 = some 129) (hp : p ≤ 680) (hk : k < 20) (h2 : m 128 2 = Int32.ofNat p) (hr : RR nf xs d 11 false 8 (some .int) zt150 G r h' N (73, L, [.int v], m, g)) : ∃ m2 : xM, m2 128 2 = Int32.ofNat p ∧ m2 129 = upd1 (m 129) (p + k) (byR v k) ∧ RR nf xs d 11 false 8 (some .int) zt150 G r h' N (20, [(6, .int (Int32.ofNat (k + 1))), (7, .int v), (0, .ref 128), (1, .int a), (2, .int b), (3, .int c), (4, .int e), (5, .int f)], [], m2, g) := by
  replace hr := hr.go (s_istore t150_73 hL)
  replace hr := hr.go (s_aload_n t150_75 rfl)
  replace hr := hr.go (s_getr t150_76 (hG))
  replace hr := hr.go (s_aload_n t150_79 rfl)
  replace hr := hr.go (s_getf t150_80)
  rw [h2] at hr
  replace hr := hr.go (s_iload t150_83 rfl)
  replace hr := hr.go (s_iadd t150_85)
  rw [xn_add] at hr
  replace hr := hr.go (s_iload t150_86 rfl)
  replace hr := hr.go (s_k t150_88)
  replace hr := hr.go (s_k t150_90)
  replace hr := hr.go (s_iload t150_92 rfl)
  replace hr := hr.go (s_k t150_94)
  replace hr := hr.go (s_irem (by decide) t150_95)
  replace hr := hr.go (s_imul t150_96)
  replace hr := hr.go (s_isub t150_97)
  replace hr := hr.go (s_ishr t150_98)
  replace hr := hr.go (s_k t150_99)
  replace hr := hr.go (s_iand t150_102)
  replace hr := hr.go (s_iastore t150_103)
  rw [xn_nat (show p + k < 2147483648 by omega)] at hr
  replace hr := hr.go (s_iinc (ls' := [(6, _), (7, _), (0, _), (1, _), (2, _), (3, _), (4, _), (5, _)]) t150_104 rfl rfl)
  rw [xn_1i] at hr
  replace hr := hr.go (s_goto t150_107)
  refine ⟨_, ?_, ?_, hr⟩
  · rw [xu_row (by decide)]; exact h2
  · rw [xu_upd]; rfl
theorem sl150A {nf : Bool} {xs : List Int32} {d : Nat} {G : xG} {r : Option Value} {h' : zH} {a b c e f z : Int32} {p k N : Nat} {m : xM} {g : xL} (hG : G.1 128 1 = some 129) (hp : p ≤ 680) (hk : k < 20) (h2 : m 128 2 = Int32.ofNat p) (hr : RR nf xs d 11 false 8 (some .int) zt150 G r h' N (27, [(6, .int (Int32.ofNat k)), (7, .int z), (0, .ref 128), (1, .int a), (2, .int b), (3, .int c), (4, .int e), (5, .int f)], [], m, g)) : ∃ (m2 : xM) (v : Int32), m2 128 2 = Int32.ofNat p ∧ m2 129 = upd1 (m 129) (p + k) (byR (sel a b c e f k) k) ∧ RR nf xs d 11 false 8 (some .int) zt150 G r h' N (20, [(6, .int (Int32.ofNat (k + 1))), (7, .int v), (0, .ref 128), (1, .int a), (2, .int b), (3, .int c), (4, .int e), (5, .int f)], [], m2, g) := by
  have qk : (Int32.ofNat k).toInt = (k : Int) := xn_int (by omega)
  have k4 : (4 : Int32).toInt = 4 := rfl
  have k8 : (8 : Int32).toInt = 8 := rfl
  have k12 : (12 : Int32).toInt = 12 := rfl
  have k16 : (16 : Int32).toInt = 16 := rfl
  replace hr := hr.go (s_iload t150_27 rfl)
  replace hr := hr.go (s_k t150_29)
  rcases hr.bGe t150_30 with ⟨b30, hr⟩ | ⟨b30, hr⟩
  · replace hr := hr.go (s_iload t150_37 rfl)
    replace hr := hr.go (s_k t150_39)
    rcases hr.bGe t150_41 with ⟨b41, hr⟩ | ⟨b41, hr⟩
    · replace hr := hr.go (s_iload t150_48 rfl)
      replace hr := hr.go (s_k t150_50)
      rcases hr.bGe t150_52 with ⟨b52, hr⟩ | ⟨b52, hr⟩
      · replace hr := hr.go (s_iload t150_59 rfl)
        replace hr := hr.go (s_k t150_61)
        rcases hr.bGe t150_63 with ⟨b63, hr⟩ | ⟨b63, hr⟩
        · replace hr := hr.go (s_iload t150_71 rfl)
          have es : sel a b c e f k = f := by unfold sel; repeat (first | rw [if_pos (by omega)] | rw [if_neg (by omega)])
          obtain ⟨m2, q1, q2, hr⟩ := st150 (k := k) (p := p) (a := a) (b := b) (c := c) (e := e) (f := f) rfl hG hp hk h2 hr
          exact ⟨m2, _, q1, by rw [es]; exact q2, hr⟩
        · replace hr := hr.go (s_iload t150_66 rfl)
          replace hr := hr.go (s_goto t150_68)
          have es : sel a b c e f k = e := by unfold sel; repeat (first | rw [if_pos (by omega)] | rw [if_neg (by omega)])
          obtain ⟨m2, q1, q2, hr⟩ := st150 (k := k) (p := p) (a := a) (b := b) (c := c) (e := e) (f := f) rfl hG hp hk h2 hr
          exact ⟨m2, _, q1, by rw [es]; exact q2, hr⟩
      · replace hr := hr.go (s_iload_n t150_55 rfl)
        replace hr := hr.go (s_goto t150_56)
        have es : sel a b c e f k = c := by unfold sel; repeat (first | rw [if_pos (by omega)] | rw [if_neg (by omega)])
        obtain ⟨m2, q1, q2, hr⟩ := st150 (k := k) (p := p) (a := a) (b := b) (c := c) (e := e) (f := f) rfl hG hp hk h2 hr
        exact ⟨m2, _, q1, by rw [es]; exact q2, hr⟩
    · replace hr := hr.go (s_iload_n t150_44 rfl)
      replace hr := hr.go (s_goto t150_45)
      have es : sel a b c e f k = b := by unfold sel; repeat (first | rw [if_pos (by omega)] | rw [if_neg (by omega)])
      obtain ⟨m2, q1, q2, hr⟩ := st150 (k := k) (p := p) (a := a) (b := b) (c := c) (e := e) (f := f) rfl hG hp hk h2 hr
      exact ⟨m2, _, q1, by rw [es]; exact q2, hr⟩
  · replace hr := hr.go (s_iload_n t150_33 rfl)
    replace hr := hr.go (s_goto t150_34)
    have es : sel a b c e f k = a := by unfold sel; repeat (first | rw [if_pos (by omega)] | rw [if_neg (by omega)])
    obtain ⟨m2, q1, q2, hr⟩ := st150 (k := k) (p := p) (a := a) (b := b) (c := c) (e := e) (f := f) rfl hG hp hk h2 hr
    exact ⟨m2, _, q1, by rw [es]; exact q2, hr⟩
theorem sl150B {nf : Bool} {xs : List Int32} {d : Nat} {G : xG} {r : Option Value} {h' : zH} {a b c e f z : Int32} {p k N : Nat} {m : xM} {g : xL} (hG : G.1 128 1 = some 129) (hp : p ≤ 680) (hk : k < 20) (h2 : m 128 2 = Int32.ofNat p) (hr : RR nf xs d 11 false 8 (some .int) zt150 G r h' N (27, [(6, .int (Int32.ofNat k)), (0, .ref 128), (1, .int a), (2, .int b), (3, .int c), (4, .int e), (5, .int f)], [], m, g)) : ∃ (m2 : xM) (v : Int32), m2 128 2 = Int32.ofNat p ∧ m2 129 = upd1 (m 129) (p + k) (byR (sel a b c e f k) k) ∧ RR nf xs d 11 false 8 (some .int) zt150 G r h' N (20, [(6, .int (Int32.ofNat (k + 1))), (7, .int v), (0, .ref 128), (1, .int a), (2, .int b), (3, .int c), (4, .int e), (5, .int f)], [], m2, g) := by
  have qk : (Int32.ofNat k).toInt = (k : Int) := xn_int (by omega)
  have k4 : (4 : Int32).toInt = 4 := rfl
  have k8 : (8 : Int32).toInt = 8 := rfl
  have k12 : (12 : Int32).toInt = 12 := rfl
  have k16 : (16 : Int32).toInt = 16 := rfl
  replace hr := hr.go (s_iload t150_27 rfl)
  replace hr := hr.go (s_k t150_29)
  rcases hr.bGe t150_30 with ⟨b30, hr⟩ | ⟨b30, hr⟩
  · replace hr := hr.go (s_iload t150_37 rfl)
    replace hr := hr.go (s_k t150_39)
    rcases hr.bGe t150_41 with ⟨b41, hr⟩ | ⟨b41, hr⟩
    · replace hr := hr.go (s_iload t150_48 rfl)
      replace hr := hr.go (s_k t150_50)
      rcases hr.bGe t150_52 with ⟨b52, hr⟩ | ⟨b52, hr⟩
      · replace hr := hr.go (s_iload t150_59 rfl)
        replace hr := hr.go (s_k t150_61)
        rcases hr.bGe t150_63 with ⟨b63, hr⟩ | ⟨b63, hr⟩
        · replace hr := hr.go (s_iload t150_71 rfl)
          have es : sel a b c e f k = f := by unfold sel; repeat (first | rw [if_pos (by omega)] | rw [if_neg (by omega)])
          obtain ⟨m2, q1, q2, hr⟩ := st150 (k := k) (p := p) (a := a) (b := b) (c := c) (e := e) (f := f) rfl hG hp hk h2 hr
          exact ⟨m2, _, q1, by rw [es]; exact q2, hr⟩
        · replace hr := hr.go (s_iload t150_66 rfl)
          replace hr := hr.go (s_goto t150_68)
          have es : sel a b c e f k = e := by unfold sel; repeat (first | rw [if_pos (by omega)] | rw [if_neg (by omega)])
          obtain ⟨m2, q1, q2, hr⟩ := st150 (k := k) (p := p) (a := a) (b := b) (c := c) (e := e) (f := f) rfl hG hp hk h2 hr
          exact ⟨m2, _, q1, by rw [es]; exact q2, hr⟩
      · replace hr := hr.go (s_iload_n t150_55 rfl)
        replace hr := hr.go (s_goto t150_56)
        have es : sel a b c e f k = c := by unfold sel; repeat (first | rw [if_pos (by omega)] | rw [if_neg (by omega)])
        obtain ⟨m2, q1, q2, hr⟩ := st150 (k := k) (p := p) (a := a) (b := b) (c := c) (e := e) (f := f) rfl hG hp hk h2 hr
        exact ⟨m2, _, q1, by rw [es]; exact q2, hr⟩
    · replace hr := hr.go (s_iload_n t150_44 rfl)
      replace hr := hr.go (s_goto t150_45)
      have es : sel a b c e f k = b := by unfold sel; repeat (first | rw [if_pos (by omega)] | rw [if_neg (by omega)])
      obtain ⟨m2, q1, q2, hr⟩ := st150 (k := k) (p := p) (a := a) (b := b) (c := c) (e := e) (f := f) rfl hG hp hk h2 hr
      exact ⟨m2, _, q1, by rw [es]; exact q2, hr⟩
  · replace hr := hr.go (s_iload_n t150_33 rfl)
    replace hr := hr.go (s_goto t150_34)
    have es : sel a b c e f k = a := by unfold sel; repeat (first | rw [if_pos (by omega)] | rw [if_neg (by omega)])
    obtain ⟨m2, q1, q2, hr⟩ := st150 (k := k) (p := p) (a := a) (b := b) (c := c) (e := e) (f := f) rfl hG hp hk h2 hr
    exact ⟨m2, _, q1, by rw [es]; exact q2, hr⟩
theorem lp150 {nf : Bool} {xs : List Int32} {d : Nat} {G : xG} {r : Option Value} {h' : zH} {a b c e f : Int32} {p : Nat} (hG : G.1 128 1 = some 129) (hp : p ≤ 680) : ∀ (N k : Nat) (z : Int32) (m : xM) (g : xL), k ≤ 20 → m 128 2 = Int32.ofNat p → RR nf xs d 11 false 8 (some .int) zt150 G r h' N (20, [(6, .int (Int32.ofNat k)), (7, .int z), (0, .ref 128), (1, .int a), (2, .int b), (3, .int c), (4, .int e), (5, .int f)], [], m, g) → ∃ (m' : xM) (g' : xL), HS h' m' g' G ∧ m' 129 = fdN (m 129) p (fun k => byR (sel a b c e f k) k) k (20 - k) := by
  intro N
  induction N with
  | zero => intro k z m g _ _ hr; exact hr.no.elim
  | succ N ih =>
    intro k z m g hk h2 hr
    have qk : (Int32.ofNat k).toInt = (k : Int) := xn_int (by omega)
    have k20 : (20 : Int32).toInt = 20 := rfl
    replace hr := hr.go1 (s_iload t150_20 rfl)
    replace hr := hr.go (s_k t150_22)
    rcases hr.bGe t150_24 with ⟨b24, hr⟩ | ⟨b24, hr⟩
    · replace hr := hr.go (s_aload_n t150_110 rfl)
      replace hr := hr.go (s_dup t150_111 rfl)
      replace hr := hr.go (s_getf t150_112)
      replace hr := hr.go (s_k t150_115)
      replace hr := hr.go (s_iadd t150_117)
      replace hr := hr.go (s_putf t150_118)
      replace hr := hr.go (s_aload_n t150_121 rfl)
      replace hr := hr.go (s_getf t150_122)
      obtain ⟨rfl, hs⟩ := hr.iret t150_125
      have e : k = 20 := by omega
      subst e
      exact ⟨_, _, hs, xu_row (by decide)⟩
    · obtain ⟨m2, v, q1, q2, hr⟩ := sl150A hG hp (by omega) h2 hr
      obtain ⟨m', g', hs, h3⟩ := ih (k + 1) v m2 g (by omega) q1 hr
      refine ⟨m', g', hs, ?_⟩
      rw [h3, q2, show 20 - k = (20 - (k + 1)) + 1 by omega]
      rfl
theorem ct_feedR {nf : Bool} {xs : List Int32} {d : Nat} {m : xM} {g : xL} {G : xG} {a b c e f : Int32} {p : Nat} (hG : G.1 128 1 = some 129) (h1 : m 128 2 = Int32.ofNat p) (hp : p ≤ 700) : CT nf xs d 150 [.ref 128, .int a, .int b, .int c, .int e, .int f] m g G (fun r m' _ => (680 < p ∧ m' 129 = m 129) ∨ (p ≤ 680 ∧ m' 129 = fdN (m 129) p (fun k => byR (sel a b c e f k) k) 0 20)) := by
  refine CT.of (c := 11) (ini := false) (nL := 8) (rt := some .int) (tab := zt150) rfl (fun d' r h' N hd' hr => ?_)
  replace hr : RR nf xs d' 11 false 8 (some .int) zt150 G r h' N (0, [(0, .ref 128), (1, .int a), (2, .int b), (3, .int c), (4, .int e), (5, .int f)], [], m, g) := hr
  have k680 : (680 : Int32).toInt = 680 := rfl
  have qp : (Int32.ofNat p).toInt = (p : Int) := xn_int (by omega)
  replace hr := hr.go (s_aload_n t150_0 rfl)
  replace hr := hr.go (s_k t150_1)
  replace hr := hr.go (s_putf t150_2)
  replace hr := hr.go (s_aload_n t150_5 rfl)
  replace hr := hr.go (s_getf t150_6)
  rw [show (xu m 128 0 0) 128 2 = Int32.ofNat p from (xu_oth (by decide)).trans h1] at hr
  replace hr := hr.go (s_k t150_9)
  rcases hr.bLe t150_12 with ⟨b12, hr⟩ | ⟨b12, hr⟩
  · replace hr := hr.go (s_k t150_17)
    replace hr := hr.go (s_istore (ls' := [(6, _), (0, _), (1, _), (2, _), (3, _), (4, _), (5, _)]) t150_18 rfl)
    replace hr := hr.go (s_iload t150_20 rfl)
    replace hr := hr.go (s_k t150_22)
    replace hr := hr.brF t150_24 (by decide)
    obtain ⟨m2, v, q1, q2, hr⟩ := sl150B (z := 0) (k := 0) hG (by omega) (by decide) ((xu_oth (by decide)).trans h1) hr
    obtain ⟨m', g', hs, h3⟩ := lp150 hG (by omega) N 1 v m2 g (by decide) q1 hr
    refine ⟨m', g', hs, Or.inr ⟨by omega, ?_⟩⟩
    rw [h3, q2, xu_row (by decide)]
    rfl
  · replace hr := hr.go (s_k t150_15)
    obtain ⟨rfl, hs⟩ := hr.iret t150_16
    exact ⟨_, _, hs, Or.inl ⟨by omega, xu_row (by decide)⟩⟩
