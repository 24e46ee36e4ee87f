/-! Tellings as bits: set, taken away, the other one (out of 69i). -/
section XI
variable {nf : Bool} {xs : List Int32} {d c : Nat} {ini : Bool} {nL : Nat} {rt : Option FieldType} {tab : Nat → Option (Instr × Nat)} {G : xG} {r : Option Value} {h' : zH} {pc pc' len : Nat} {ls ls' : zL} {st : List Value} {m : xM} {g : xL} {N : Nat}
theorem s_lushr {x : Int64} {y : Int32} (t : xt tab pc pc' .lushr) : XS nf xs d c ini nL rt tab G r h' (pc, ls, .int y :: .long x :: st, m, g) (pc', ls, .long ((x.toUInt64 >>> (y.toInt64.toUInt64 &&& Int64.toUInt64 63)).toInt64) :: st, m, g) := by
  obtain ⟨t, rfl⟩ := t
  exact xpure t rfl rfl (fun _ => rfl) (fun h s q => by cases q; rfl)
end XI
theorem sl_4 : ∀ n : Nat, n < 64 → (((Int32.ofNat n).toInt64.toUInt64 &&& Int64.toUInt64 63).toBitVec % 64).toNat = n := by decide +kernel
theorem bl_ush (n : Nat) (hn : n < 64) (x : Int64) (i : Nat) : bl ((x.toUInt64 >>> ((Int32.ofNat n).toInt64.toUInt64 &&& Int64.toUInt64 63)).toInt64) i = bl x (n + i) := by
  show (x.toUInt64 >>> ((Int32.ofNat n).toInt64.toUInt64 &&& Int64.toUInt64 63)).toBitVec.getLsbD i = x.toUInt64.toBitVec.getLsbD (n + i)
  rw [UInt64.toBitVec_shiftRight]
  show (x.toUInt64.toBitVec >>> (((Int32.ofNat n).toInt64.toUInt64 &&& Int64.toUInt64 63).toBitVec % 64).toNat).getLsbD i = _
  rw [sl_4 n hn, BitVec.getLsbD_ushiftRight]
theorem bl_tsu {x : Int64} {k : Nat} (hk : k < 64) : (x.toUInt64 >>> ((Int32.ofNat k).toInt64.toUInt64 &&& Int64.toUInt64 63)).toInt64 &&& 1 = 1 ↔ bl x k = true := by
  have h0 : bl ((x.toUInt64 >>> ((Int32.ofNat k).toInt64.toUInt64 &&& Int64.toUInt64 63)).toInt64) 0 = bl x k := by rw [bl_ush k hk x, Nat.add_zero]
  constructor
  · intro h
    have := congrArg (fun z => bl z 0) h
    rw [bl_and, h0, bl_1 0 (by omega)] at this
    simpa using this
  · intro h
    refine bl_ext (fun i hi => ?_)
    rw [bl_and, bl_1 i hi]
    by_cases h1 : i = 0
    · rw [h1, h0, h]; rfl
    · rw [decide_eq_false h1, Bool.and_false]
/-- bit y of w is set, or taken away -/
def stB (z y : Int32) (w : Int64) : Int64 := if z = 0 then w &&& (((1 : Int64) <<< (y.toInt64 &&& 63)) ^^^ -1) else w ||| ((1 : Int64) <<< (y.toInt64 &&& 63))
/-- bit y of w is the other one -/
def flB (y : Int32) (w : Int64) : Int64 := w ^^^ ((1 : Int64) <<< (y.toInt64 &&& 63))
theorem bl_xor (x y : Int64) (i : Nat) : bl (x ^^^ y) i = Bool.xor (bl x i) (bl y i) := by unfold bl; rw [Int64.toBitVec_xor, BitVec.getLsbD_xor]
theorem bl_m1 : ∀ i : Nat, i < 64 → bl (-1) i = true := by decide +kernel
theorem bl_one {j k : Nat} (hj : j < 64) (hk : k < 64) : bl ((1 : Int64) <<< ((Int32.ofNat j).toInt64 &&& 63)) k = decide (j = k) := by
  have h := bl_set (x := 0) hj hk
  rwa [bl_or, bl_0, Bool.false_or, Bool.false_or] at h
theorem st_fl {w : Int64} {z : Int32} {v : Nat} (hv : v < 64) (hz : ¬ (bl w v = true ↔ ¬ z = 0)) : stB z (Int32.ofNat v) w = flB (Int32.ofNat v) w := by
  refine bl_ext (fun i hi => ?_)
  unfold stB flB
  by_cases e : z = 0
  · have hb : bl w v = true := by
      cases q : bl w v with
      | true => rfl
      | false => exact absurd ⟨fun z1 => (by rw [q] at z1; cases z1), fun z1 => absurd e z1⟩ hz
    rw [if_pos e, bl_and, bl_xor, bl_m1 i hi, bl_xor, bl_one hv hi]
    by_cases f : v = i
    · rw [decide_eq_true f, ← f, hb]; rfl
    · rw [decide_eq_false f, Bool.xor_false]
      cases bl w i <;> rfl
  · have hb : bl w v = false := by
      cases q : bl w v with
      | false => rfl
      | true => exact absurd ⟨fun _ => e, fun _ => q⟩ hz
    rw [if_neg e, bl_or, bl_xor, bl_one hv hi]
    by_cases f : v = i
    · rw [decide_eq_true f, ← f, hb]; rfl
    · rw [decide_eq_false f, Bool.xor_false, Bool.or_false]
