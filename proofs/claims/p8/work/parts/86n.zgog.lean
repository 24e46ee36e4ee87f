/-! How much a way of our machine makes. -/
theorem zGo_g {X : zX} (hX : ∀ (c j ci : Nat) (fs : List Value), znew X c j = some (ci, fs) → fs.length ≤ 1000000) {I : zI} {mcl : Nat → Nat} {mt : zM} {d c : Nat} {ini : Bool} {nL : Nat} {tab : Nat → Option (Instr × Nat)} : ∀ (n : Nat) (a b : zSt), zGo X I mcl (zEv X I mcl mt d) c ini nL tab n a b → zGr a.2.2.2 b.2.2.2 := by
  intro n
  induction n with
  | zero => intro a b q; cases q; exact zGr.rf
  | succ n ih =>
    intro a b q
    obtain ⟨i, len, -, q⟩ := q
    rcases q with ⟨s1, q1, q2⟩ | ⟨rest, -, q2⟩ | ⟨mi, as, rest, r1, h1, -, q1, q2⟩
    · exact (zstep_g hX q1).trans (ih _ _ q2)
    · exact ih (a.1 + 3, a.2.1, rest, a.2.2.2) b q2
    · exact (zEv_g hX _ _ _ _ _ _ q1).trans (ih _ _ q2)
