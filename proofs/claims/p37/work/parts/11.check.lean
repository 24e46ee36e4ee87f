/-! The tables are right: every entry against the words and the code. -/
def zchk (code : ByteArray) (tab : Nat → Option (Instr × Nat)) (M : Nat) : Bool := (List.range M).all (fun pc => match tab pc with
  | none => true
  | some q => decide (decode code pc = .ok (q.1, q.2)) && zlok q.1 q.2)
theorem zchk_ok {code : ByteArray} {tab : Nat → Option (Instr × Nat)} {M : Nat} (h : zchk code tab M = true) (hM : ∀ pc, M ≤ pc → tab pc = none) : ∀ (pc : Nat) (i : Instr) (len : Nat), tab pc = some (i, len) → decode code pc = .ok (i, len) ∧ zlok i len = true := by
  intro pc i len hp
  by_cases hl : pc < M
  · have h1 := List.all_eq_true.mp h pc (List.mem_range.mpr hl)
    rw [hp] at h1
    simp only [Bool.and_eq_true, decide_eq_true_eq] at h1
    exact h1
  · rw [hM pc (Nat.not_lt.mp hl)] at hp
    cases hp
theorem zcut {α : Type} {M pc : Nat} {x : Option α} (h : M ≤ pc) : (bif Nat.ble M pc then none else x) = none := by
  rw [Nat.ble_eq_true_of_le h]
  rfl
