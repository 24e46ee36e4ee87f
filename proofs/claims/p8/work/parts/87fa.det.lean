/-! Runs are alike: from the same state our machine goes one way. -/
def zk (i : Instr) : Nat := match i with
  | .ireturn => 0
  | .lreturn => 0
  | .areturn => 0
  | .return_ => 0
  | .invokevirtual _ => 1
  | .invokestatic _ => 2
  | .invokespecial _ => 3
  | _ => 4
theorem zret_k {rt : Option FieldType} {i : Instr} {st : List Value} {r : Option Value} (h : zret rt i st = some r) : zk i = 0 := by
  unfold zret at h
  split at h
  all_goals first | rfl | cases h
set_option maxHeartbeats 8000000 in
theorem zstep_k {X : zX} {nL : Nat} {ini : Bool} {c : Nat} {i : Instr} {pc : Nat} {ls : zL} {st : List Value} {h : zH} {s : Nat × zL × List Value × zH} (q : zstep X nL ini c i pc ls st h = some s) : zk i = 4 := by
  unfold zstep at q
  split at q
  · next z =>
    unfold zstI at z
    split at z
    all_goals first | rfl | cases z
  · split at q
    · next z =>
      unfold zstL at z
      split at z
      all_goals first | rfl | cases z
    · unfold zstH at q
      split at q
      all_goals first | rfl | cases q
theorem zobj_k {I : zI} {c : Nat} {i : Instr} {st rest : List Value} (h : zobjI I c i st = some rest) : (∃ j a b : Nat, i = .invokespecial j ∧ I c j = some (0, a, b)) ∨ ∃ j k a b : Nat, i = .invokestatic j ∧ I c j = some (k, a, b) ∧ 5 ≤ k := by
  unfold zobjI at h
  split at h
  · split at h
    · next e => exact Or.inl ⟨_, _, _, rfl, e⟩
    · cases h
  · split at h
    · next e => exact Or.inr ⟨_, 5, _, _, rfl, e, by decide⟩
    · next e => exact Or.inr ⟨_, 6, _, _, rfl, e, by decide⟩
    · next e => exact Or.inr ⟨_, 7, _, _, rfl, e, by decide⟩
    · next e => exact Or.inr ⟨_, 8, _, _, rfl, e, by decide⟩
    · next e => exact Or.inr ⟨_, 9, _, _, rfl, e, by decide⟩
    · next e => exact Or.inr ⟨_, 10, _, _, rfl, e, by decide⟩
    · cases h
  · cases h
theorem zcall_k {X : zX} {I : zI} {mcl : Nat → Nat} {c : Nat} {i : Instr} {st : List Value} {h : zH} {w : Nat × List Value × List Value} (q : zcall X I mcl c i st h = some w) : (∃ j : Nat, i = .invokevirtual j) ∨ (∃ j a b : Nat, i = .invokestatic j ∧ I c j = some (2, a, b)) ∨ ∃ j k a b : Nat, i = .invokespecial j ∧ I c j = some (k, a, b) ∧ 3 ≤ k := by
  unfold zcall at q
  split at q
  · exact Or.inl ⟨_, rfl⟩
  · split at q
    · next e => exact Or.inr (Or.inl ⟨_, _, _, rfl, e⟩)
    · cases q
  · split at q
    · next e => exact Or.inr (Or.inr ⟨_, 3, _, _, rfl, e, by decide⟩)
    · next e => exact Or.inr (Or.inr ⟨_, 4, _, _, rfl, e, by decide⟩)
    · cases q
  · cases q
theorem zobj_kk {I : zI} {c : Nat} {i : Instr} {st rest : List Value} (h : zobjI I c i st = some rest) : zk i = 2 ∨ zk i = 3 := by
  rcases zobj_k h with ⟨j, a, b, rfl, -⟩ | ⟨j, k, a, b, rfl, -, -⟩
  · exact Or.inr rfl
  · exact Or.inl rfl
theorem zcall_kk {X : zX} {I : zI} {mcl : Nat → Nat} {c : Nat} {i : Instr} {st : List Value} {h : zH} {w : Nat × List Value × List Value} (q : zcall X I mcl c i st h = some w) : 1 ≤ zk i ∧ zk i ≤ 3 := by
  rcases zcall_k q with ⟨j, rfl⟩ | ⟨j, a, b, rfl, -⟩ | ⟨j, k, a, b, rfl, -, -⟩
  · exact ⟨by show 1 ≤ 1; omega, by show 1 ≤ 3; omega⟩
  · exact ⟨by show 1 ≤ 2; omega, by show 2 ≤ 3; omega⟩
  · exact ⟨by show 1 ≤ 3; omega, by show 3 ≤ 3; omega⟩
theorem zoc {X : zX} {I : zI} {mcl : Nat → Nat} {c : Nat} {i : Instr} {st rest : List Value} {h : zH} {w : Nat × List Value × List Value} (q1 : zobjI I c i st = some rest) (q2 : zcall X I mcl c i st h = some w) : False := by
  rcases zobj_k q1 with ⟨j, a, b, rfl, e⟩ | ⟨j, k, a, b, rfl, e, hk⟩
  · rcases zcall_k q2 with ⟨j2, z⟩ | ⟨j2, a2, b2, z, -⟩ | ⟨j2, k2, a2, b2, z, e2, hk2⟩
    · cases z
    · cases z
    · cases z
      rw [e] at e2
      cases e2
      omega
  · rcases zcall_k q2 with ⟨j2, z⟩ | ⟨j2, a2, b2, z, e2⟩ | ⟨j2, k2, a2, b2, z, -, -⟩
    · cases z
    · cases z
      rw [e] at e2
      cases e2
      omega
    · cases z
def zdet (C : zC) : Prop := ∀ (mi : Nat) (as : List Value) (h : zH) (r : Option Value) (h' : zH) (r2 : Option Value) (h2 : zH), C mi as h r h' → C mi as h r2 h2 → r = r2 ∧ h' = h2
theorem zRun_det {X : zX} {I : zI} {mcl : Nat → Nat} {C : zC} {c : Nat} {ini : Bool} {nL : Nat} {rt : Option FieldType} {tab : Nat → Option (Instr × Nat)} (hC : zdet C) : ∀ (n m pc : Nat) (ls : zL) (st : List Value) (h : zH) (r : Option Value) (h' : zH) (r2 : Option Value) (h2 : zH), zRun X I mcl C c ini nL rt tab n pc ls st h r h' → zRun X I mcl C c ini nL rt tab m pc ls st h r2 h2 → r = r2 ∧ h' = h2 := by
  intro n
  induction n with
  | zero => intro m pc ls st h r h' r2 h2 q; exact q.elim
  | succ n ih =>
    intro m pc ls st h r h' r2 h2 q q2
    cases m with
    | zero => exact q2.elim
    | succ m =>
      obtain ⟨i, len, t, q⟩ := q
      obtain ⟨i2, len2, t2, q2⟩ := q2
      rw [t] at t2
      cases t2
      rcases q with ⟨a1, a2⟩ | ⟨pc1, ls1, st1, k1, a1, a2⟩ | ⟨rs1, a1, a2⟩ | ⟨mi1, as1, rs1, v1, k1, a1, a2, a3⟩
      · have e := zret_k a1
        rcases q2 with ⟨b1, b2⟩ | ⟨pc2, ls2, st2, k2, b1, b2⟩ | ⟨rs2, b1, b2⟩ | ⟨mi2, as2, rs2, v2, k2, b1, b2, b3⟩
        · rw [a1] at b1
          cases b1
          exact ⟨rfl, a2.trans b2.symm⟩
        · have := zstep_k b1; omega
        · have := zobj_kk b1; omega
        · have := zcall_kk b1; omega
      · have e := zstep_k a1
        rcases q2 with ⟨b1, b2⟩ | ⟨pc2, ls2, st2, k2, b1, b2⟩ | ⟨rs2, b1, b2⟩ | ⟨mi2, as2, rs2, v2, k2, b1, b2, b3⟩
        · have := zret_k b1; omega
        · rw [a1] at b1
          cases b1
          exact ih _ _ _ _ _ _ _ _ _ a2 b2
        · have := zobj_kk b1; omega
        · have := zcall_kk b1; omega
      · have e := zobj_kk a1
        rcases q2 with ⟨b1, b2⟩ | ⟨pc2, ls2, st2, k2, b1, b2⟩ | ⟨rs2, b1, b2⟩ | ⟨mi2, as2, rs2, v2, k2, b1, b2, b3⟩
        · have := zret_k b1; omega
        · have := zstep_k b1; omega
        · rw [a1] at b1
          cases b1
          exact ih _ _ _ _ _ _ _ _ _ a2 b2
        · exact (zoc a1 b1).elim
      · have e := zcall_kk a1
        rcases q2 with ⟨b1, b2⟩ | ⟨pc2, ls2, st2, k2, b1, b2⟩ | ⟨rs2, b1, b2⟩ | ⟨mi2, as2, rs2, v2, k2, b1, b2, b3⟩
        · have := zret_k b1; omega
        · have := zstep_k b1; omega
        · exact (zoc b1 a1).elim
        · rw [a1] at b1
          cases b1
          obtain ⟨e1, e2⟩ := hC _ _ _ _ _ _ _ a2 b2
          subst e1
          subst e2
          exact ih _ _ _ _ _ _ _ _ _ a3 b3
theorem zEv_det {X : zX} {I : zI} {mcl : Nat → Nat} {mt : zM} : ∀ d : Nat, zdet (zEv X I mcl mt d) := by
  intro d
  induction d with
  | zero => intro mi as h r h' r2 h2 q; exact q.elim
  | succ d ih =>
    intro mi as h r h' r2 h2 q q2
    obtain ⟨c, ini, nL, rt, tab, n, e, -, q⟩ := q
    obtain ⟨c2, ini2, nL2, rt2, tab2, n2, e2, -, q2⟩ := q2
    rw [e] at e2
    cases e2
    exact zRun_det ih _ _ _ _ _ _ _ _ _ _ q q2
theorem zEv_same {X : zX} {I : zI} {mcl : Nat → Nat} {mt : zM} {d e mi : Nat} {as : List Value} {h : zH} {r r2 : Option Value} {h' h2 : zH} (q : zEv X I mcl mt d mi as h r h') (q2 : zEv X I mcl mt e mi as h r2 h2) : r = r2 ∧ h' = h2 := zEv_det (max d e) _ _ _ _ _ _ _ (zEv_le (Nat.le_max_left _ _) q) (zEv_le (Nat.le_max_right _ _) q2)
/-- what is left of a run behind a stretch -/
theorem zRun_after {X : zX} {I : zI} {mcl : Nat → Nat} {C : zC} {c : Nat} {ini : Bool} {nL : Nat} {rt : Option FieldType} {tab : Nat → Option (Instr × Nat)} (hC : zdet C) : ∀ (k : Nat) (a b : zSt), zGo X I mcl C c ini nL tab k a b → ∀ (n : Nat) (r : Option Value) (h' : zH), zRun X I mcl C c ini nL rt tab n a.1 a.2.1 a.2.2.1 a.2.2.2 r h' → ∃ n' : Nat, zRun X I mcl C c ini nL rt tab n' b.1 b.2.1 b.2.2.1 b.2.2.2 r h' := by
  intro k
  induction k with
  | zero =>
    intro a b q n r h' g
    have q : a = b := q
    subst q
    exact ⟨n, g⟩
  | succ k ih =>
    intro a b q n r h' g
    cases n with
    | zero => exact g.elim
    | succ n =>
      obtain ⟨i, len, t, q⟩ := q
      obtain ⟨i2, len2, t2, g⟩ := g
      rw [t] at t2
      cases t2
      rcases q with ⟨s1, a1, a2⟩ | ⟨rs1, a1, a2⟩ | ⟨mi1, as1, rs1, v1, k1, a1, a2, a3⟩
      · have e := zstep_k a1
        rcases g with ⟨b1, b2⟩ | ⟨pc2, ls2, st2, k2, b1, b2⟩ | ⟨rs2, b1, b2⟩ | ⟨mi2, as2, rs2, v2, k2, b1, b2, b3⟩
        · have := zret_k b1; omega
        · rw [a1] at b1
          cases b1
          exact ih _ _ a2 _ _ _ b2
        · have := zobj_kk b1; omega
        · have := zcall_kk b1; omega
      · have e := zobj_kk a1
        rcases g with ⟨b1, b2⟩ | ⟨pc2, ls2, st2, k2, b1, b2⟩ | ⟨rs2, b1, b2⟩ | ⟨mi2, as2, rs2, v2, k2, b1, b2, b3⟩
        · have := zret_k b1; omega
        · have := zstep_k b1; omega
        · rw [a1] at b1
          cases b1
          exact ih _ _ a2 _ _ _ b2
        · exact (zoc a1 b1).elim
      · have e := zcall_kk a1
        rcases g with ⟨b1, b2⟩ | ⟨pc2, ls2, st2, k2, b1, b2⟩ | ⟨rs2, b1, b2⟩ | ⟨mi2, as2, rs2, v2, k2, b1, b2, b3⟩
        · have := zret_k b1; omega
        · have := zstep_k b1; omega
        · exact (zoc b1 a1).elim
        · rw [a1] at b1
          cases b1
          obtain ⟨e1, e2⟩ := hC _ _ _ _ _ _ _ a2 b2
          subst e1
          subst e2
          exact ih _ _ a3 _ _ _ b3
/-! One step, one call, an end of a run. -/
section ZR
variable {nf : Bool} {xs : List Int32} {d c : Nat} {ini : Bool} {nL : Nat} {rt : Option FieldType} {tab : Nat → Option (Instr × Nat)} {r : Option Value} {h h' : zH} {n pc len : Nat} {ls : zL} {st : List Value} {i : Instr}
theorem zR1 {s : Nat × zL × List Value × zH} (q : zRun (zXt nf xs) zIT zmcl (zEv (zXt nf xs) zIT zmcl zMt d) c ini nL rt tab n pc ls st h r h') (t : tab pc = some (i, len)) (hs : zstep (zXt nf xs) nL ini c i pc ls st h = some s) : ∃ n' : Nat, n = n' + 1 ∧ zRun (zXt nf xs) zIT zmcl (zEv (zXt nf xs) zIT zmcl zMt d) c ini nL rt tab n' s.1 s.2.1 s.2.2.1 s.2.2.2 r h' := by
  cases n with
  | zero => exact q.elim
  | succ n =>
    obtain ⟨i2, len2, t2, q⟩ := q
    rw [t] at t2
    cases t2
    have e := zstep_k hs
    rcases q with ⟨b1, b2⟩ | ⟨pc2, ls2, st2, k2, b1, b2⟩ | ⟨rs2, b1, b2⟩ | ⟨mi2, as2, rs2, v2, k2, b1, b2, b3⟩
    · have := zret_k b1; omega
    · rw [hs] at b1
      cases b1
      exact ⟨n, rfl, b2⟩
    · have := zobj_kk b1; omega
    · have := zcall_kk b1; omega
theorem zRc {mi : Nat} {as rest : List Value} (q : zRun (zXt nf xs) zIT zmcl (zEv (zXt nf xs) zIT zmcl zMt d) c ini nL rt tab n pc ls st h r h') (t : tab pc = some (i, len)) (hc : zcall (zXt nf xs) zIT zmcl c i st h = some (mi, as, rest)) : ∃ (n' : Nat) (r1 : Option Value) (h1 : zH), n = n' + 1 ∧ zEv (zXt nf xs) zIT zmcl zMt d mi as h r1 h1 ∧ zRun (zXt nf xs) zIT zmcl (zEv (zXt nf xs) zIT zmcl zMt d) c ini nL rt tab n' (pc + 3) ls (r1.toList ++ rest) h1 r h' := by
  cases n with
  | zero => exact q.elim
  | succ n =>
    obtain ⟨i2, len2, t2, q⟩ := q
    rw [t] at t2
    cases t2
    have e := zcall_kk hc
    rcases q with ⟨b1, b2⟩ | ⟨pc2, ls2, st2, k2, b1, b2⟩ | ⟨rs2, b1, b2⟩ | ⟨mi2, as2, rs2, v2, k2, b1, b2, b3⟩
    · have := zret_k b1; omega
    · have := zstep_k b1; omega
    · exact (zoc b1 hc).elim
    · rw [hc] at b1
      cases b1
      exact ⟨n, v2, k2, rfl, b2, b3⟩
theorem zRe {v : Option Value} (q : zRun (zXt nf xs) zIT zmcl (zEv (zXt nf xs) zIT zmcl zMt d) c ini nL rt tab n pc ls st h r h') (t : tab pc = some (i, len)) (hr : zret rt i st = some v) : r = v ∧ h' = h := by
  cases n with
  | zero => exact q.elim
  | succ n =>
    obtain ⟨i2, len2, t2, q⟩ := q
    rw [t] at t2
    cases t2
    have e := zret_k hr
    rcases q with ⟨b1, b2⟩ | ⟨pc2, ls2, st2, k2, b1, b2⟩ | ⟨rs2, b1, b2⟩ | ⟨mi2, as2, rs2, v2, k2, b1, b2, b3⟩
    · rw [hr] at b1
      cases b1
      exact ⟨rfl, b2⟩
    · have := zstep_k b1; omega
    · have := zobj_kk b1; omega
    · have := zcall_kk b1; omega
end ZR
