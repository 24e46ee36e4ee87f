/-! Packed letters tell the letters. -/
theorem sh_or {a c : Nat} (ha : a < 33554432) (hc : c < 32) : Int32.ofNat a <<< (5 &&& 31) ||| Int32.ofNat c = Int32.ofNat (32 * a + c) := by
  apply Int32.toBitVec_inj.mp
  apply BitVec.eq_of_toNat_eq
  simp only [Int32.toBitVec_or, Int32.toBitVec_shiftLeft, BitVec.toNat_or]
  have e1 : (Int32.ofNat a).toBitVec.toNat = a := by
    show (BitVec.ofNat 32 a).toNat = a
    rw [BitVec.toNat_ofNat]
    exact Nat.mod_eq_of_lt (by omega)
  have e2 : (Int32.ofNat c).toBitVec.toNat = c := by
    show (BitVec.ofNat 32 c).toNat = c
    rw [BitVec.toNat_ofNat]
    exact Nat.mod_eq_of_lt (by omega)
  have e3 : (Int32.ofNat (32 * a + c)).toBitVec.toNat = 32 * a + c := by
    show (BitVec.ofNat 32 (32 * a + c)).toNat = 32 * a + c
    rw [BitVec.toNat_ofNat]
    exact Nat.mod_eq_of_lt (by omega)
  rw [e2, e3]
  have e4 : ((Int32.ofNat a).toBitVec <<< (Int32.toBitVec (5 &&& 31)).smod 32).toNat = a <<< 5 := by
    show ((Int32.ofNat a).toBitVec <<< (5 : BitVec 32)).toNat = a <<< 5
    rw [BitVec.shiftLeft_eq']
    rw [BitVec.toNat_shiftLeft, e1]
    show a <<< 5 % 2 ^ 32 = a <<< 5
    rw [Nat.shiftLeft_eq]
    exact Nat.mod_eq_of_lt (by omega)
  rw [e4, ← Nat.shiftLeft_add_eq_or_of_lt (show c < 2 ^ 5 by omega), Nat.shiftLeft_eq]
  omega
/-- the number of a letter -/
def dgn (b : Nat → Int32) (s e i : Nat) : Nat := if s + i < e then (b (s + i) - 97 + 1).toNatClampNeg else 0
theorem let1 {x : Int32} (h : 97 ≤ x.toInt ∧ x.toInt ≤ 122) : (x - 97 + 1).toInt = x.toInt - 96 := by
  have e1 : (x - 97).toInt = x.toInt - 97 := by
    rw [Int32.toInt_sub, show (97 : Int32).toInt = 97 from rfl]
    exact Int.bmod_eq_of_le (by omega) (by omega)
  rw [xt_add (by rw [e1, show (1 : Int32).toInt = 1 from rfl]; omega) (by rw [e1, show (1 : Int32).toInt = 1 from rfl]; omega), e1, show (1 : Int32).toInt = 1 from rfl]
  omega
theorem dgn_ok {b : Nat → Int32} {s e i : Nat} (hl : ∀ j : Nat, s ≤ j → j < e → ltr (b j) = true) : (if s + i < e then b (s + i) - 97 + 1 else 0) = Int32.ofNat (dgn b s e i) ∧ dgn b s e i ≤ 26 ∧ (s + i < e → 1 ≤ dgn b s e i ∧ (dgn b s e i : Int) = (b (s + i)).toInt - 96) ∧ (¬ s + i < e → dgn b s e i = 0) := by
  unfold dgn
  by_cases h : s + i < e
  · rw [if_pos h, if_pos h]
    have h1 := ltr_i (hl (s + i) (by omega) h)
    have h2 := let1 h1
    have h3 : ((b (s + i) - 97 + 1).toNatClampNeg : Int) = (b (s + i)).toInt - 96 := by
      rw [Int32.toNatClampNeg, h2]; omega
    exact ⟨xn_of (by omega), by omega, fun _ => ⟨by omega, h3⟩, fun q => absurd h q⟩
  · rw [if_neg h, if_neg h]
    exact ⟨rfl, by omega, fun q => absurd q h, fun _ => rfl⟩
theorem nmv_val {b : Nat → Int32} {s e : Nat} (hl : ∀ j : Nat, s ≤ j → j < e → ltr (b j) = true) : nmv b s e 6 0 0 = Int32.ofNat (32 * (32 * (32 * (32 * (32 * dgn b s e 0 + dgn b s e 1) + dgn b s e 2) + dgn b s e 3) + dgn b s e 4) + dgn b s e 5) := by
  have d0 := dgn_ok (i := 0) hl
  have d1 := dgn_ok (i := 1) hl
  have d2 := dgn_ok (i := 2) hl
  have d3 := dgn_ok (i := 3) hl
  have d4 := dgn_ok (i := 4) hl
  have d5 := dgn_ok (i := 5) hl
  unfold nmv nmv nmv nmv nmv nmv nmv
  simp only [Nat.zero_add]
  rw [d0.1, d1.1, d2.1, d3.1, d4.1, d5.1]
  have z : (0 : Int32) = Int32.ofNat 0 := rfl
  rw [z, sh_or (by omega) (by omega), sh_or (by omega) (by omega), sh_or (by omega) (by omega), sh_or (by omega) (by omega), sh_or (by omega) (by omega), sh_or (by omega) (by omega)]
  rw [Nat.mul_zero, Nat.zero_add]
theorem nmv_inj {b b' : Nat → Int32} {s e s' e' : Nat} (hl : ∀ j : Nat, s ≤ j → j < e → ltr (b j) = true) (hl' : ∀ j : Nat, s' ≤ j → j < e' → ltr (b' j) = true) (h1 : s ≤ e) (h2 : s' ≤ e') (h3 : e - s ≤ 6) (h4 : e' - s' ≤ 6) : nmv b s e 6 0 0 = nmv b' s' e' 6 0 0 ↔ (e - s = e' - s' ∧ ∀ i : Nat, i < e - s → b (s + i) = b' (s' + i)) := by
  rw [nmv_val hl, nmv_val hl']
  have d := fun i => dgn_ok (i := i) hl
  have d' := fun i => dgn_ok (i := i) hl'
  constructor
  · intro q
    have b0 := (d 0).2.1; have b1 := (d 1).2.1; have b2 := (d 2).2.1; have b3 := (d 3).2.1; have b4 := (d 4).2.1; have b5 := (d 5).2.1
    have a0 := (d' 0).2.1; have a1 := (d' 1).2.1; have a2 := (d' 2).2.1; have a3 := (d' 3).2.1; have a4 := (d' 4).2.1; have a5 := (d' 5).2.1
    have q2 := xn_inj (by omega) (by omega) q
    have e0 : dgn b s e 0 = dgn b' s' e' 0 := by omega
    have e1 : dgn b s e 1 = dgn b' s' e' 1 := by omega
    have e2 : dgn b s e 2 = dgn b' s' e' 2 := by omega
    have e3 : dgn b s e 3 = dgn b' s' e' 3 := by omega
    have e4 : dgn b s e 4 = dgn b' s' e' 4 := by omega
    have e5 : dgn b s e 5 = dgn b' s' e' 5 := by omega
    have ei : ∀ i : Nat, i < 6 → dgn b s e i = dgn b' s' e' i := by
      intro i hi
      rcases (show i = 0 ∨ i = 1 ∨ i = 2 ∨ i = 3 ∨ i = 4 ∨ i = 5 by omega) with rfl | rfl | rfl | rfl | rfl | rfl <;> assumption
    have hlen : e - s = e' - s' := by
      rcases Nat.lt_trichotomy (e - s) (e' - s') with h | h | h
      · have w1 := (d (e - s)).2.2.2 (by omega)
        have w2 := ((d' (e - s)).2.2.1 (by omega)).1
        have w3 := ei (e - s) (by omega)
        omega
      · exact h
      · have w1 := (d' (e' - s')).2.2.2 (by omega)
        have w2 := ((d (e' - s')).2.2.1 (by omega)).1
        have w3 := ei (e' - s') (by omega)
        omega
    refine ⟨hlen, fun i hi => ?_⟩
    have w1 := ((d i).2.2.1 (by omega)).2
    have w2 := ((d' i).2.2.1 (by omega)).2
    have w3 := ei i (by omega)
    exact Int32.toInt_inj.mp (by omega)
  · intro ⟨q1, q2⟩
    have ei : ∀ i : Nat, dgn b s e i = dgn b' s' e' i := by
      intro i
      by_cases hi : s + i < e
      · have w1 := ((d i).2.2.1 hi).2
        have w2 := ((d' i).2.2.1 (by omega)).2
        have w3 := q2 i (by omega)
        rw [w3] at w1
        omega
      · rw [(d i).2.2.2 hi, (d' i).2.2.2 (by omega)]
    rw [ei 0, ei 1, ei 2, ei 3, ei 4, ei 5]
/-- what the class shifts at the end is what the reference fills up -/
theorem sh_0 {a : Nat} (ha : a < 33554432) : Int32.ofNat a <<< (5 &&& 31) ||| 0 = Int32.ofNat (32 * a) := sh_or (c := 0) ha (by omega)
