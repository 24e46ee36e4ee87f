/-! The machine's tables are the engine's. -/
theorem qXX (nf : Bool) (xs : List Int32) : aXX qY (zXt nf xs) := by
  refine ⟨fun c j => rfl, fun c j => rfl, fun c j e => rfl, fun e q h => ?_, fun c j => rfl, fun c j => rfl, fun c j v h => ?_, fun e => rfl⟩
  · have h0 : (bif Nat.beq e 6 then none else zxaT [] e) = some q := h
    show zxaT xs e = some q
    cases hb : Nat.beq e 6 with
    | true => rw [hb] at h0; cases h0
    | false =>
      rw [hb] at h0
      have h1 : zxaT [] e = some q := h0
      unfold zxaT at h1 ⊢
      rw [hb] at h1 ⊢
      exact h1
  · have h0 : (bif Nat.beq c 15 && Nat.beq j 1053 then some (.retAddr 999) else zstaT true c j) = some v := h
    cases hb : (Nat.beq c 15 && Nat.beq j 1053) with
    | true =>
      rw [hb] at h0
      rw [Bool.and_eq_true] at hb
      have e1 := Nat.eq_of_beq_eq_true hb.1
      have e2 := Nat.eq_of_beq_eq_true hb.2
      subst e1 e2
      refine Or.inl ⟨(Option.some.inj h0).symm, ?_⟩
      show ∃ w : Value, zstaT nf 15 1053 = some w ∧ (w = .null ∨ ∃ n : Nat, w = .retAddr n)
      cases nf
      · exact ⟨_, rfl, by first | exact Or.inl rfl | exact Or.inr ⟨_, rfl⟩⟩
      · exact ⟨_, rfl, by first | exact Or.inl rfl | exact Or.inr ⟨_, rfl⟩⟩
    | false =>
      rw [hb] at h0
      have h1 : zstaT true c j = some v := h0
      refine Or.inr ?_
      show zstaT nf c j = some v
      unfold zstaT at h1 ⊢
      rw [hb] at h1 ⊢
      exact h1
theorem qL_chk : qW.2.all (fun t => Nat.ble t.2.2.1 999999) = true := by decide +kernel
theorem qL (s : Nat) : (afm qW s).2.2.1 < 1000000 := by
  unfold afm
  rw [List.getD_eq_getElem?_getD]
  cases hq : qW.2[s]? with
  | none => show 0 < 1000000; decide
  | some t =>
    have := able (List.all_eq_true.mp qL_chk t (List.mem_of_getElem? hq))
    show t.2.2.1 < 1000000
    omega
/-- the check of a contract out of its pieces -/
theorem ackq_of {Y : zX} {I : zI} {mcl : Nat → Nat} {W : aW} {Pt : aPt} {mt : zM} {K Kn : Nat → List aQ} {q : aQ} {NS : List aN} {d n : Nat} (h0 : ack0 Y I mcl W Pt mt K Kn q NS d n = true) (hN : NS.all (ackN Y I mcl W Pt mt K Kn q NS d n) = true) : ackq Y I mcl W Pt mt K Kn q NS d n = true := by
  unfold ackq
  rw [h0, hN]
  rfl
