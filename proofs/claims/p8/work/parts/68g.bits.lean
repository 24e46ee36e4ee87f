/-! Bits of what is told (rows bj, sl_1 began as b_or, b_and, b_shl, b_sshr of kit/laws/BITS). -/
def bj (x : Int32) (i : Nat) : Bool := x.toBitVec.getLsbD i
theorem bj_ext {x y : Int32} (h : ∀ i : Nat, i < 32 → bj x i = bj y i) : x = y := Int32.toBitVec_inj.mp (BitVec.eq_of_getLsbD_eq (fun i hi => h i hi))
theorem bj_or (x y : Int32) (i : Nat) : bj (x ||| y) i = (bj x i || bj y i) := by unfold bj; rw [Int32.toBitVec_or, BitVec.getLsbD_or]
theorem bj_and (x y : Int32) (i : Nat) : bj (x &&& y) i = (bj x i && bj y i) := by unfold bj; rw [Int32.toBitVec_and, BitVec.getLsbD_and]
theorem bj_1 : ∀ i : Nat, i < 32 → bj 1 i = decide (i = 0) := by decide +kernel
theorem sl_1 : ∀ n : Nat, n < 32 → ((Int32.ofNat n &&& 31).toBitVec.smod 32).toNat = n := by decide +kernel
theorem bj_shl (n : Nat) (hn : n < 32) (x : Int32) {i : Nat} (hi : i < 32) : bj (x <<< (Int32.ofNat n &&& 31)) i = (decide (n ≤ i) && bj x (i - n)) := by
  unfold bj
  rw [Int32.toBitVec_shiftLeft]
  show (x.toBitVec <<< ((Int32.ofNat n &&& 31).toBitVec.smod 32).toNat).getLsbD i = _
  rw [sl_1 n hn, BitVec.getLsbD_shiftLeft]
  rcases Nat.lt_or_ge i n with h | h
  · simp [h, Nat.not_le.mpr h]
  · simp [hi, h, Nat.not_lt.mpr h]
theorem bj_shr (n : Nat) (hn : n < 32) (x : Int32) {i : Nat} (hi : i < 32) : bj (x >>> (Int32.ofNat n &&& 31)) i = if n + i < 32 then bj x (n + i) else bj x 31 := by
  unfold bj
  rw [Int32.toBitVec_shiftRight]
  show (x.toBitVec.sshiftRight ((Int32.ofNat n &&& 31).toBitVec.smod 32).toNat).getLsbD i = _
  rw [sl_1 n hn, BitVec.getLsbD_sshiftRight, BitVec.msb_eq_getLsbD_last]
  simp [hi]
/-- is this bit set -/
theorem bj_tst {x : Int32} {k : Nat} (hk : k < 32) : x >>> (Int32.ofNat k &&& 31) &&& 1 = 1 ↔ bj x k = true := by
  have h0 : bj (x >>> (Int32.ofNat k &&& 31)) 0 = bj x k := by rw [bj_shr k hk x (by omega), if_pos (by omega), Nat.add_zero]
  constructor
  · intro h
    have := congrArg (fun z => bj z 0) h
    rw [bj_and, h0, bj_1 0 (by omega)] at this
    simpa using this
  · intro h
    refine bj_ext (fun i hi => ?_)
    rw [bj_and, bj_1 i hi]
    by_cases h1 : i = 0
    · rw [h1, h0, h]; rfl
    · rw [decide_eq_false h1, Bool.and_false]
theorem bj_set {x : Int32} {j k : Nat} (hj : j < 32) (hk : k < 32) : bj (x ||| (1 : Int32) <<< (Int32.ofNat j &&& 31)) k = (bj x k || decide (j = k)) := by
  rw [bj_or, bj_shl j hj 1 hk]
  congr 1
  by_cases h : j ≤ k
  · rw [decide_eq_true h, Bool.true_and, bj_1 (k - j) (by omega)]
    by_cases h1 : j = k
    · rw [decide_eq_true h1, decide_eq_true (by omega)]
    · rw [decide_eq_false h1, decide_eq_false (by omega)]
  · rw [decide_eq_false h, Bool.false_and, decide_eq_false (by omega)]
/-! ... of longs -/
def bl (x : Int64) (i : Nat) : Bool := x.toBitVec.getLsbD i
theorem bl_ext {x y : Int64} (h : ∀ i : Nat, i < 64 → bl x i = bl y i) : x = y := Int64.toBitVec_inj.mp (BitVec.eq_of_getLsbD_eq (fun i hi => h i hi))
theorem bl_or (x y : Int64) (i : Nat) : bl (x ||| y) i = (bl x i || bl y i) := by unfold bl; rw [Int64.toBitVec_or, BitVec.getLsbD_or]
theorem bl_and (x y : Int64) (i : Nat) : bl (x &&& y) i = (bl x i && bl y i) := by unfold bl; rw [Int64.toBitVec_and, BitVec.getLsbD_and]
theorem bl_1 : ∀ i : Nat, i < 64 → bl 1 i = decide (i = 0) := by decide +kernel
theorem bl_0 (i : Nat) : bl 0 i = false := BitVec.getLsbD_zero
theorem sl_2 : ∀ n : Nat, n < 64 → (((Int32.ofNat n).toInt64 &&& 63).toBitVec.smod 64).toNat = n := by decide +kernel
theorem bl_shl (n : Nat) (hn : n < 64) (x : Int64) {i : Nat} (hi : i < 64) : bl (x <<< ((Int32.ofNat n).toInt64 &&& 63)) i = (decide (n ≤ i) && bl x (i - n)) := by
  unfold bl
  rw [Int64.toBitVec_shiftLeft]
  show (x.toBitVec <<< (((Int32.ofNat n).toInt64 &&& 63).toBitVec.smod 64).toNat).getLsbD i = _
  rw [sl_2 n hn, BitVec.getLsbD_shiftLeft]
  rcases Nat.lt_or_ge i n with h | h
  · simp [h, Nat.not_le.mpr h]
  · simp [hi, h, Nat.not_lt.mpr h]
theorem bl_shr (n : Nat) (hn : n < 64) (x : Int64) {i : Nat} (hi : i < 64) : bl (x >>> ((Int32.ofNat n).toInt64 &&& 63)) i = if n + i < 64 then bl x (n + i) else bl x 63 := by
  unfold bl
  rw [Int64.toBitVec_shiftRight]
  show (x.toBitVec.sshiftRight (((Int32.ofNat n).toInt64 &&& 63).toBitVec.smod 64).toNat).getLsbD i = _
  rw [sl_2 n hn, BitVec.getLsbD_sshiftRight, BitVec.msb_eq_getLsbD_last]
  simp [hi]
theorem bl_tst {x : Int64} {k : Nat} (hk : k < 64) : x >>> ((Int32.ofNat k).toInt64 &&& 63) &&& 1 = 1 ↔ bl x k = true := by
  have h0 : bl (x >>> ((Int32.ofNat k).toInt64 &&& 63)) 0 = bl x k := by rw [bl_shr k hk x (by omega), if_pos (by omega), Nat.add_zero]
  constructor
  · intro h
    have := congrArg (fun z => bl z 0) h
    rw [bl_and, h0, bl_1 0 (by omega)] at this
    simpa using this
  · intro h
    refine bl_ext (fun i hi => ?_)
    rw [bl_and, bl_1 i hi]
    by_cases h1 : i = 0
    · rw [h1, h0, h]; rfl
    · rw [decide_eq_false h1, Bool.and_false]
theorem bl_set {x : Int64} {j k : Nat} (hj : j < 64) (hk : k < 64) : bl (x ||| (1 : Int64) <<< ((Int32.ofNat j).toInt64 &&& 63)) k = (bl x k || decide (j = k)) := by
  rw [bl_or, bl_shl j hj 1 hk]
  congr 1
  by_cases h : j ≤ k
  · rw [decide_eq_true h, Bool.true_and, bl_1 (k - j) (by omega)]
    by_cases h1 : j = k
    · rw [decide_eq_true h1, decide_eq_true (by omega)]
    · rw [decide_eq_false h1, decide_eq_false (by omega)]
  · rw [decide_eq_false h, Bool.false_and, decide_eq_false (by omega)]
theorem cmp_1 {x y : Int64} : lg_cmp x y = 0 ↔ x = y := by
  unfold lg_cmp
  by_cases h1 : x > y
  · rw [if_pos h1]
    exact ⟨fun q => absurd q (by decide), fun q => by rw [q] at h1; exact absurd h1 (Int64.lt_irrefl)⟩
  · rw [if_neg h1]
    by_cases h2 : x = y
    · rw [if_pos h2]; exact ⟨fun _ => h2, fun _ => rfl⟩
    · rw [if_neg h2]; exact ⟨fun q => absurd q (by decide), fun q => absurd q h2⟩
