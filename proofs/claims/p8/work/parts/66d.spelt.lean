/-! Words of the language: compared packed, or letter by letter. -/
theorem shl_1 {a : Nat} (ha : a * 2 ^ 25 < 2147483648) : Int32.ofNat a <<< ((5 * (6 - Int32.ofNat 1)) &&& 31) = Int32.ofNat (a * 2 ^ 25) := by
  rw [show ((5 * (6 - Int32.ofNat 1)) &&& 31 : Int32) = Int32.ofNat 25 by decide]
  apply Int32.toBitVec_inj.mp
  apply BitVec.eq_of_toNat_eq
  rw [Int32.toBitVec_shiftLeft]
  have e1 : (Int32.ofNat a).toBitVec.toNat = a := by
    show (BitVec.ofNat 32 a).toNat = a
    rw [BitVec.toNat_ofNat]
    exact Nat.mod_eq_of_lt (by omega)
  have e3 : (Int32.ofNat (a * 2 ^ 25)).toBitVec.toNat = a * 2 ^ 25 := by
    show (BitVec.ofNat 32 (a * 2 ^ 25)).toNat = a * 2 ^ 25
    rw [BitVec.toNat_ofNat]
    exact Nat.mod_eq_of_lt (by omega)
  rw [e3]
  show ((Int32.ofNat a).toBitVec <<< (25 : BitVec 32)).toNat = a * 2 ^ 25
  rw [BitVec.shiftLeft_eq', BitVec.toNat_shiftLeft, e1]
  show a <<< 25 % 2 ^ 32 = a * 2 ^ 25
  rw [Nat.shiftLeft_eq]
  exact Nat.mod_eq_of_lt (by omega)
theorem shl_2 {a : Nat} (ha : a * 2 ^ 20 < 2147483648) : Int32.ofNat a <<< ((5 * (6 - Int32.ofNat 2)) &&& 31) = Int32.ofNat (a * 2 ^ 20) := by
  rw [show ((5 * (6 - Int32.ofNat 2)) &&& 31 : Int32) = Int32.ofNat 20 by decide]
  apply Int32.toBitVec_inj.mp
  apply BitVec.eq_of_toNat_eq
  rw [Int32.toBitVec_shiftLeft]
  have e1 : (Int32.ofNat a).toBitVec.toNat = a := by
    show (BitVec.ofNat 32 a).toNat = a
    rw [BitVec.toNat_ofNat]
    exact Nat.mod_eq_of_lt (by omega)
  have e3 : (Int32.ofNat (a * 2 ^ 20)).toBitVec.toNat = a * 2 ^ 20 := by
    show (BitVec.ofNat 32 (a * 2 ^ 20)).toNat = a * 2 ^ 20
    rw [BitVec.toNat_ofNat]
    exact Nat.mod_eq_of_lt (by omega)
  rw [e3]
  show ((Int32.ofNat a).toBitVec <<< (20 : BitVec 32)).toNat = a * 2 ^ 20
  rw [BitVec.shiftLeft_eq', BitVec.toNat_shiftLeft, e1]
  show a <<< 20 % 2 ^ 32 = a * 2 ^ 20
  rw [Nat.shiftLeft_eq]
  exact Nat.mod_eq_of_lt (by omega)
theorem shl_3 {a : Nat} (ha : a * 2 ^ 15 < 2147483648) : Int32.ofNat a <<< ((5 * (6 - Int32.ofNat 3)) &&& 31) = Int32.ofNat (a * 2 ^ 15) := by
  rw [show ((5 * (6 - Int32.ofNat 3)) &&& 31 : Int32) = Int32.ofNat 15 by decide]
  apply Int32.toBitVec_inj.mp
  apply BitVec.eq_of_toNat_eq
  rw [Int32.toBitVec_shiftLeft]
  have e1 : (Int32.ofNat a).toBitVec.toNat = a := by
    show (BitVec.ofNat 32 a).toNat = a
    rw [BitVec.toNat_ofNat]
    exact Nat.mod_eq_of_lt (by omega)
  have e3 : (Int32.ofNat (a * 2 ^ 15)).toBitVec.toNat = a * 2 ^ 15 := by
    show (BitVec.ofNat 32 (a * 2 ^ 15)).toNat = a * 2 ^ 15
    rw [BitVec.toNat_ofNat]
    exact Nat.mod_eq_of_lt (by omega)
  rw [e3]
  show ((Int32.ofNat a).toBitVec <<< (15 : BitVec 32)).toNat = a * 2 ^ 15
  rw [BitVec.shiftLeft_eq', BitVec.toNat_shiftLeft, e1]
  show a <<< 15 % 2 ^ 32 = a * 2 ^ 15
  rw [Nat.shiftLeft_eq]
  exact Nat.mod_eq_of_lt (by omega)
theorem shl_4 {a : Nat} (ha : a * 2 ^ 10 < 2147483648) : Int32.ofNat a <<< ((5 * (6 - Int32.ofNat 4)) &&& 31) = Int32.ofNat (a * 2 ^ 10) := by
  rw [show ((5 * (6 - Int32.ofNat 4)) &&& 31 : Int32) = Int32.ofNat 10 by decide]
  apply Int32.toBitVec_inj.mp
  apply BitVec.eq_of_toNat_eq
  rw [Int32.toBitVec_shiftLeft]
  have e1 : (Int32.ofNat a).toBitVec.toNat = a := by
    show (BitVec.ofNat 32 a).toNat = a
    rw [BitVec.toNat_ofNat]
    exact Nat.mod_eq_of_lt (by omega)
  have e3 : (Int32.ofNat (a * 2 ^ 10)).toBitVec.toNat = a * 2 ^ 10 := by
    show (BitVec.ofNat 32 (a * 2 ^ 10)).toNat = a * 2 ^ 10
    rw [BitVec.toNat_ofNat]
    exact Nat.mod_eq_of_lt (by omega)
  rw [e3]
  show ((Int32.ofNat a).toBitVec <<< (10 : BitVec 32)).toNat = a * 2 ^ 10
  rw [BitVec.shiftLeft_eq', BitVec.toNat_shiftLeft, e1]
  show a <<< 10 % 2 ^ 32 = a * 2 ^ 10
  rw [Nat.shiftLeft_eq]
  exact Nat.mod_eq_of_lt (by omega)
theorem shl_5 {a : Nat} (ha : a * 2 ^ 5 < 2147483648) : Int32.ofNat a <<< ((5 * (6 - Int32.ofNat 5)) &&& 31) = Int32.ofNat (a * 2 ^ 5) := by
  rw [show ((5 * (6 - Int32.ofNat 5)) &&& 31 : Int32) = Int32.ofNat 5 by decide]
  apply Int32.toBitVec_inj.mp
  apply BitVec.eq_of_toNat_eq
  rw [Int32.toBitVec_shiftLeft]
  have e1 : (Int32.ofNat a).toBitVec.toNat = a := by
    show (BitVec.ofNat 32 a).toNat = a
    rw [BitVec.toNat_ofNat]
    exact Nat.mod_eq_of_lt (by omega)
  have e3 : (Int32.ofNat (a * 2 ^ 5)).toBitVec.toNat = a * 2 ^ 5 := by
    show (BitVec.ofNat 32 (a * 2 ^ 5)).toNat = a * 2 ^ 5
    rw [BitVec.toNat_ofNat]
    exact Nat.mod_eq_of_lt (by omega)
  rw [e3]
  show ((Int32.ofNat a).toBitVec <<< (5 : BitVec 32)).toNat = a * 2 ^ 5
  rw [BitVec.shiftLeft_eq', BitVec.toNat_shiftLeft, e1]
  show a <<< 5 % 2 ^ 32 = a * 2 ^ 5
  rw [Nat.shiftLeft_eq]
  exact Nat.mod_eq_of_lt (by omega)
theorem shl_6 {a : Nat} : Int32.ofNat a <<< ((5 * (6 - Int32.ofNat 6)) &&& 31) = Int32.ofNat a := by
  rw [show ((5 * (6 - Int32.ofNat 6)) &&& 31 : Int32) = 0 by decide]
  apply Int32.toBitVec_inj.mp
  rw [Int32.toBitVec_shiftLeft]
  show (Int32.ofNat a).toBitVec <<< (0 : BitVec 32) = _
  rw [BitVec.shiftLeft_eq']
  exact BitVec.shiftLeft_zero _
def pn (b : Nat → Int32) (s e : Nat) : Nat → Nat
  | 0 => 0
  | k + 1 => 32 * pn b s e k + dgn b s e k
theorem pck_pn {b : Nat → Int32} {s e : Nat} (hl : ∀ j : Nat, s ≤ j → j < e → ltr (b j) = true) : ∀ k : Nat, k ≤ e - s → k ≤ 6 → pck b s k = Int32.ofNat (pn b s e k) ∧ pn b s e k < 32 ^ k := by
  intro k
  induction k with
  | zero => intro _ _; exact ⟨rfl, Nat.zero_lt_one⟩
  | succ k ih =>
    intro h1 h2
    obtain ⟨i1, i2⟩ := ih (by omega) (by omega)
    have d := dgn_ok (i := k) hl
    have hk : (32 : Nat) ^ k ≤ 33554432 := by
      rcases (show k = 0 ∨ k = 1 ∨ k = 2 ∨ k = 3 ∨ k = 4 ∨ k = 5 by omega) with rfl | rfl | rfl | rfl | rfl | rfl <;> decide
    have ee : b (s + k) - 97 + 1 = Int32.ofNat (dgn b s e k) := by
      rw [← d.1, if_pos (by omega)]
    constructor
    · show pck b s k <<< (5 &&& 31) ||| (b (s + k) - 97 + 1) = _
      rw [ee, i1, sh_or (by omega) (by omega)]
      rfl
    · show 32 * pn b s e k + dgn b s e k < 32 ^ k * 32
      omega
theorem val_same {b : Nat → Int32} {s e : Nat} (hl : ∀ j : Nat, s ≤ j → j < e → ltr (b j) = true) (h1 : s < e) (h2 : e - s ≤ 6) : pck b s (e - s) <<< ((5 * (6 - Int32.ofNat (e - s))) &&& 31) = nmv b s e 6 0 0 := by
  obtain ⟨p1, p2⟩ := pck_pn hl (e - s) (Nat.le_refl _) h2
  rw [p1, nmv_val hl]
  have z := fun i => (dgn_ok (i := i) hl).2.2.2
  rcases (show e - s = 1 ∨ e - s = 2 ∨ e - s = 3 ∨ e - s = 4 ∨ e - s = 5 ∨ e - s = 6 by omega) with q | q | q | q | q | q

  · rw [q] at p2 ⊢
    rw [shl_1 (by omega)]
    rw [z 1 (by omega)]
    rw [z 2 (by omega)]
    rw [z 3 (by omega)]
    rw [z 4 (by omega)]
    rw [z 5 (by omega)]
    congr 1
    show pn b s e 1 * _ = _
    simp only [pn]
    omega
  · rw [q] at p2 ⊢
    rw [shl_2 (by omega)]
    rw [z 2 (by omega)]
    rw [z 3 (by omega)]
    rw [z 4 (by omega)]
    rw [z 5 (by omega)]
    congr 1
    show pn b s e 2 * _ = _
    simp only [pn]
    omega
  · rw [q] at p2 ⊢
    rw [shl_3 (by omega)]
    rw [z 3 (by omega)]
    rw [z 4 (by omega)]
    rw [z 5 (by omega)]
    congr 1
    show pn b s e 3 * _ = _
    simp only [pn]
    omega
  · rw [q] at p2 ⊢
    rw [shl_4 (by omega)]
    rw [z 4 (by omega)]
    rw [z 5 (by omega)]
    congr 1
    show pn b s e 4 * _ = _
    simp only [pn]
    omega
  · rw [q] at p2 ⊢
    rw [shl_5 (by omega)]
    rw [z 5 (by omega)]
    congr 1
    show pn b s e 5 * _ = _
    simp only [pn]
    omega
  · rw [q] at p2 ⊢
    rw [shl_6]
    congr 1
    simp only [pn]
    omega
/-- the words: where they begin, how long they are -/
def wls : List (Nat × Nat) := [(0, 4), (5, 5), (11, 4), (16, 4), (21, 5), (27, 6), (34, 4), (39, 4), (44, 3), (48, 5), (54, 5), (60, 4), (65, 2), (68, 3), (72, 3), (76, 3), (80, 5), (86, 5), (92, 4), (97, 4), (102, 5), (108, 4)]
/-- ... packed -/
def wcs : List Int32 := [412554240, 613553728, 351638528, 676737024, 647209600, 693581996, 475056128, 642945024, 404455424, 446255360, 404397312, 102118400, 522190848, 48365568, 486146048, 223805440, 412456544, 273729664, 452431872, 156643328, 269898336, 446043136]
theorem lcp_spec {b : Nat → Int32} {s e k : Nat} : ∀ (f i : Nat), e - (s + i) = f → i ≤ lcp b s e k (e - (s + i)) i ∧ (∀ j : Nat, i ≤ j → j < lcp b s e k (e - (s + i)) i → s + j < e ∧ ¬ chW (k + j) = 32 ∧ b (s + j) = chW (k + j)) ∧ ¬ (s + lcp b s e k (e - (s + i)) i < e ∧ ¬ chW (k + lcp b s e k (e - (s + i)) i) = 32 ∧ b (s + lcp b s e k (e - (s + i)) i) = chW (k + lcp b s e k (e - (s + i)) i)) := by
  intro f
  induction f with
  | zero =>
    intro i h
    have hn : ¬ (s + i < e ∧ ¬ chW (k + i) = 32 ∧ b (s + i) = chW (k + i)) := fun q => by omega
    rw [lcp_f hn]
    exact ⟨Nat.le_refl _, fun j h1 h2 => by omega, hn⟩
  | succ f ih =>
    intro i h
    by_cases hc : s + i < e ∧ ¬ chW (k + i) = 32 ∧ b (s + i) = chW (k + i)
    · rw [lcp_t hc.1 hc.2.1 hc.2.2]
      obtain ⟨i1, i2, i3⟩ := ih (i + 1) (by omega)
      refine ⟨by omega, fun j h1 h2 => ?_, i3⟩
      rcases Nat.lt_or_ge i j with q | q
      · exact i2 j q h2
      · rw [show j = i by omega]; exact hc
    · rw [lcp_f hc]
      exact ⟨Nat.le_refl _, fun j h1 h2 => by omega, hc⟩
def HW (k L : Nat) : Prop := chW (k + L) = 32 ∧ ∀ i : Nat, i < L → ¬ chW (k + i) = 32
theorem mat_iff {b : Nat → Int32} {s e k L : Nat} (hs : s ≤ e) (hw : HW k L) : (chW (k + lcp b s e k (e - s) 0) = 32 ∧ s + lcp b s e k (e - s) 0 = e) ↔ (e = s + L ∧ ∀ i : Nat, i < L → b (s + i) = chW (k + i)) := by
  have hsp := lcp_spec (b := b) (s := s) (e := e) (k := k) _ 0 rfl
  rw [Nat.add_zero] at hsp
  obtain ⟨-, h2, h3⟩ := hsp
  generalize lcp b s e k (e - s) 0 = r at h2 h3 ⊢
  constructor
  · intro ⟨q1, q2⟩
    have hr : r = L := by
      rcases Nat.lt_trichotomy r L with h | h | h
      · exact absurd q1 (hw.2 r h)
      · exact h
      · exact absurd hw.1 (h2 L (by omega) h).2.1
    subst hr
    exact ⟨q2.symm, fun i hi => (h2 i (by omega) hi).2.2⟩
  · intro ⟨q1, q2⟩
    have hr : r = L := by
      rcases Nat.lt_trichotomy r L with h | h | h
      · exact absurd ⟨by omega, hw.2 r h, q2 r h⟩ h3
      · exact h
      · exact absurd hw.1 (h2 L (by omega) h).2.1
    subst hr
    exact ⟨hw.1, q1.symm⟩
theorem spc_HW {k L : Nat} (hw : HW k L) : ∀ (f i : Nat), L - i = f → i ≤ L → k + L ≤ 112 → spc (113 - (k + i)) (k + i) = k + L := by
  intro f
  induction f with
  | zero =>
    intro i h1 h2 h3
    rw [show i = L by omega]
    exact spc_t h3 hw.1
  | succ f ih =>
    intro i h1 h2 h3
    rw [spc_f (by omega) (hw.2 i (by omega))]
    exact ih (i + 1) (by omega) (by omega) h3

/-- a row of words from k on -/
def wch : List (Nat × Nat) → Nat → Bool
  | [], k => Nat.beq k 113
  | (j, L) :: r, k => Nat.beq j k && (decide (chW (k + L) = 32) && ((List.range L).all (fun i => !decide (chW (k + i) = 32)) && (Nat.ble (k + L) 112 && (Nat.ble L 6 && (Nat.ble 1 L && wch r (k + L + 1))))))
theorem wch_ok {j L k : Nat} {r : List (Nat × Nat)} (h : wch ((j, L) :: r) k = true) : j = k ∧ HW k L ∧ k + L ≤ 112 ∧ L ≤ 6 ∧ 1 ≤ L ∧ wch r (k + L + 1) = true := by
  unfold wch at h
  simp only [Bool.and_eq_true, decide_eq_true_eq, List.all_eq_true, List.mem_range, Bool.not_eq_true', decide_eq_false_iff_not] at h
  exact ⟨Nat.eq_of_beq_eq_true h.1, ⟨h.2.1, h.2.2.1⟩, Nat.le_of_ble_eq_true h.2.2.2.1, Nat.le_of_ble_eq_true h.2.2.2.2.1, Nat.le_of_ble_eq_true h.2.2.2.2.2.1, h.2.2.2.2.2.2⟩
theorem wls_ok : wch wls 0 = true := by decide +kernel
/-- packed words and words that are spelt -/
def wpk : List (Nat × Nat) → List Int32 → Bool
  | [], [] => true
  | (k, L) :: r, v :: vs => decide (nmv chW k (k + L) 6 0 0 = v) && ((List.range L).all (fun i => ltr (chW (k + i))) && wpk r vs)
  | _, _ => false
theorem wpk_ok : wpk wls wcs = true := by decide +kernel
/-- the reference finds word w where the class does -/
theorem wd_find {b : Nat → Int32} {s e : Nat} {wd : Nat → Int32} (hs : s ≤ e) (h6 : e - s ≤ 6) (hl : ∀ j : Nat, s ≤ j → j < e → ltr (b j) = true) : ∀ (r : List (Nat × Nat)) (vs : List Int32) (k w : Nat), wch r k = true → wpk r vs = true → k ≤ 113 → (∀ i : Nat, i < vs.length → wd (w + i) = vs.getD i 0) → (wdM b s e (114 - k) k w = -1 ∧ ∀ i : Nat, i < vs.length → ¬ wd (w + i) = nmv b s e 6 0 0) ∨ (∃ i : Nat, i < vs.length ∧ wdM b s e (114 - k) k w = Int32.ofNat (w + i) ∧ wd (w + i) = nmv b s e 6 0 0) := by
  intro r
  induction r with
  | nil =>
    intro vs k w h1 h2 h3 h4
    have hk : k = 113 := Nat.eq_of_beq_eq_true h1
    subst hk
    cases vs with
    | nil => exact Or.inl ⟨rfl, fun i hi => by cases hi⟩
    | cons v vs => cases h2
  | cons a r ih =>
    intro vs k w h1 h2 h3 h4
    obtain ⟨j, L⟩ := a
    obtain ⟨c1, c2, c3, c4, c5, c6⟩ := wch_ok h1
    subst c1
    cases vs with
    | nil => cases h2
    | cons v vs =>
      have h2 : (decide (nmv chW j (j + L) 6 0 0 = v) && ((List.range L).all (fun i => ltr (chW (j + i))) && wpk r vs)) = true := h2
      simp only [Bool.and_eq_true, decide_eq_true_eq, List.all_eq_true, List.mem_range] at h2
      have hlw : ∀ i : Nat, j ≤ i → i < j + L → ltr (chW i) = true := fun i i1 i2 => by
        have := h2.2.1 (i - j) (by omega)
        rw [show j + (i - j) = i by omega] at this
        exact this
      have hin := nmv_inj (b := b) (b' := chW) (s := s) (e := e) (s' := j) (e' := j + L) hl hlw hs (by omega) h6 (by omega)
      have hm := mat_iff (b := b) (s := s) (e := e) hs c2
      have hv : wd w = v := by
        have := h4 0 (by simp)
        simpa using this
      have hiff : (chW (j + lcp b s e j (e - s) 0) = 32 ∧ s + lcp b s e j (e - s) 0 = e) ↔ wd w = nmv b s e 6 0 0 := by
        rw [hm, hv, ← h2.1]
        constructor
        · intro ⟨q1, q2⟩
          exact (hin.mpr ⟨by omega, fun i hi => q2 i (by omega)⟩).symm
        · intro q
          obtain ⟨q1, q2⟩ := hin.mp q.symm
          exact ⟨by omega, fun i hi => q2 i (by omega)⟩
      rw [show 114 - j = (113 - j) + 1 by omega]
      have eU : wdM b s e (113 - j + 1) j w = if 113 ≤ j then -1 else if chW (j + lcp b s e j (e - s) 0) = 32 ∧ s + lcp b s e j (e - s) 0 = e then Int32.ofNat w else wdM b s e (113 - j) (spc (113 - j) j + 1) (w + 1) := rfl
      rw [eU, if_neg (by omega)]
      by_cases hc : chW (j + lcp b s e j (e - s) 0) = 32 ∧ s + lcp b s e j (e - s) 0 = e
      · rw [if_pos hc]
        exact Or.inr ⟨0, by simp, rfl, hiff.mp hc⟩
      · rw [if_neg hc]
        have hsp := spc_HW c2 _ 0 rfl (by omega) c3
        rw [Nat.add_zero] at hsp
        rw [hsp, wdM_up (113 - j) (114 - (j + L + 1)) (j + L + 1) (w + 1) (by omega) (by omega) (by omega)]
        have h4' : ∀ i : Nat, i < vs.length → wd (w + 1 + i) = vs.getD i 0 := fun i hi => by
          have := h4 (i + 1) (by simpa using hi)
          rw [show w + 1 + i = w + (i + 1) by omega, this]
          simp
        rcases ih vs (j + L + 1) (w + 1) c6 h2.2.2 (by omega) h4' with ⟨q1, q2⟩ | ⟨i, q1, q2, q3⟩
        · refine Or.inl ⟨q1, fun i hi => ?_⟩
          cases i with
          | zero => exact fun q => hc (hiff.mpr q)
          | succ i =>
            have := q2 i (by simpa using hi)
            rw [show w + (i + 1) = w + 1 + i by omega]
            exact this
        · exact Or.inr ⟨i + 1, by simpa using q1, by rw [q2]; congr 1; omega, by rw [show w + (i + 1) = w + 1 + i by omega]; exact q3⟩
