/-! Our tables for runs with symbols; how much a run makes at most. -/
def yX0 (nf : Option Bool) : zX := (zfldT, zkonT, znewT, zxgT, (fun e => bif Nat.beq e 6 then none else zxaT [] e), ztyT, zfinT, zisPT, 2, (fun c j => match nf with
  | none => bif Nat.beq c 15 && Nat.beq j 1053 then none else zstaT true c j
  | some b => zstaT b c j), zxcT)
theorem ysta_sym {nf : Bool} {c j : Nat} {v : Value} (h : zstaT nf c j = some v) : ysym v = false := by
  unfold zstaT at h
  simp only [cond_eq_ite] at h
  split at h
  · cases h; rfl
  · split at h
    · cases h; cases nf <;> rfl
    · split at h
      · cases h; rfl
      · split at h
        · cases h; rfl
        · split at h
          · cases h; rfl
          · split at h
            · cases h; rfl
            · cases h
theorem yxg_sym {c j e : Nat} {v : Value} (h : zxgT c j e = some v) : ysym v = false := by
  unfold zxgT at h
  simp only [cond_eq_ite] at h
  repeat' split at h
  all_goals first | (cases h; rfl) | cases h
theorem yD_sym : zDs.all (fun l => l.all (fun v => !ysym v)) = true := by decide +kernel
theorem yX0_ok (nf : Bool) (xs : List Int32) {o : Option Bool} (ho : o = none ∨ o = some nf) : yXX (yX0 o) (zXt nf xs) := by
  refine ⟨fun c j q h => ⟨h, ?_⟩, fun c j v h => h, fun c j q h => ⟨h, ?_⟩, fun c j e v h => ⟨h, yxg_sym h⟩, fun e q h => ?_, ⟨rfl, rfl, rfl, rfl, show (2 : Nat) < 100 by decide⟩, fun c j v h => ?_, fun e q h => h⟩
  · have h1 := List.all_eq_true.mp zfl_ok _ (zfl_in (c := c) (j := j) (ci := q.1) (k := q.2) h)
    have h2 := of_decide_eq_true h1
    have h3 : q.1 < 12 := h2.1
    omega
  · obtain ⟨-, h2, h3⟩ := zne_in (c := c) (j := j) (ci := q.1) (fs := q.2) h
    refine ⟨by omega, fun v hv => ?_⟩
    rw [h3, List.getD_eq_getElem?_getD] at hv
    cases hq : zDs[q.1]? with
    | none => rw [hq] at hv; cases hv
    | some l =>
      rw [hq] at hv
      have h4 := List.all_eq_true.mp (List.all_eq_true.mp yD_sym l (List.mem_of_getElem? hq)) v hv
      simpa using h4
  · have h0 : (bif Nat.beq e 6 then none else zxaT [] e) = some q := h
    show zxaT xs e = some q
    cases hb : Nat.beq e 6 with
    | true => rw [hb] at h0; cases h0
    | false =>
      rw [hb] at h0
      have h1 : zxaT [] e = some q := h0
      unfold zxaT at h1 ⊢
      rw [hb] at h1 ⊢
      exact h1
  · rcases ho with rfl | rfl
    · have h0 : (bif Nat.beq c 15 && Nat.beq j 1053 then none else zstaT true c j) = some v := h
      cases hb : (Nat.beq c 15 && Nat.beq j 1053) with
      | true => rw [hb] at h0; cases h0
      | false =>
        rw [hb] at h0
        have h1 : zstaT true c j = some v := h0
        refine ⟨?_, ysta_sym h1⟩
        show zstaT nf c j = some v
        unfold zstaT at h1 ⊢
        rw [hb] at h1 ⊢
        exact h1
    · exact ⟨h, ysta_sym h⟩
theorem ymcl_chk : zclL.all (fun k => decide (k < 100)) = true := by decide +kernel
theorem ymcl (k : Nat) : zmcl k < 100 := by
  unfold zmcl
  rw [List.getD_eq_getElem?_getD]
  cases hq : zclL[k]? with
  | none => show 0 < 100; decide
  | some l => exact of_decide_eq_true (List.all_eq_true.mp ymcl_chk l (List.mem_of_getElem? hq))
/-- at most a million slots a new cell -/
def zGr (h h' : zH) : Prop := h.length ≤ h'.length ∧ zsl h' + 1000000 * h.length ≤ zsl h + 1000000 * h'.length
theorem zGr.rf {h : zH} : zGr h h := ⟨Nat.le_refl _, Nat.le_refl _⟩
theorem zGr.trans {a b c : zH} (h1 : zGr a b) (h2 : zGr b c) : zGr a c := by
  obtain ⟨a1, a2⟩ := h1
  obtain ⟨b1, b2⟩ := h2
  exact ⟨by omega, by omega⟩
theorem zGr.push {h : zH} {e : zE} (he : zsz e ≤ 1000000) : zGr h (h ++ [e]) := by
  refine ⟨by simp, ?_⟩
  rw [zsl_push, List.length_append, List.length_singleton]
  omega
theorem zGr.set {h : zH} {a : Nat} {e e' : zE} (ha : h[a]? = some e) (hz : zsz e' = zsz e) : zGr h (h.set a e') := by
  refine ⟨by simp, ?_⟩
  rw [zsl_set ha hz, List.length_set]
  omega
set_option maxHeartbeats 8000000 in
theorem zstH_g {X : zX} (hX : ∀ (c j ci : Nat) (fs : List Value), znew X c j = some (ci, fs) → fs.length ≤ 1000000) {ini : Bool} {c : Nat} {i : Instr} {pc : Nat} {ls : zL} {st : List Value} {h : zH} {pc' : Nat} {ls' : zL} {st' : List Value} {h' : zH} (hs : zstH X ini c i pc ls st h = some (pc', ls', st', h')) : zGr h h' := by
  unfold zstH at hs
  split at hs
  all_goals (try (split at hs))
  all_goals (try (split at hs))
  all_goals (try (split at hs))
  all_goals (try (split at hs))
  all_goals (first | (cases hs; exact zGr.rf) | (cases hs; exact zGr.set (by assumption) (by simp [zsz])) | (cases hs; exact zGr.push (hX _ _ _ _ (by assumption))) | (cases hs; rename_i q; exact zGr.push (by simp only [zsz, List.length_replicate]; exact Nat.not_lt.mp (fun hh => q (Or.inr hh)))) | (cases hs; rename_i q; exact zGr.push (by simp only [zsz, List.length_replicate]; exact Nat.not_lt.mp (fun hh => q (Or.inr (Or.inl hh))))) | cases hs)
theorem zstep_g {X : zX} (hX : ∀ (c j ci : Nat) (fs : List Value), znew X c j = some (ci, fs) → fs.length ≤ 1000000) {nL : Nat} {ini : Bool} {c : Nat} {i : Instr} {pc : Nat} {ls : zL} {st : List Value} {h : zH} {pc' : Nat} {ls' : zL} {st' : List Value} {h' : zH} (hs : zstep X nL ini c i pc ls st h = some (pc', ls', st', h')) : zGr h h' := by
  unfold zstep at hs
  split at hs
  · next q =>
    cases hs
    rw [zstI_h q]
    exact zGr.rf
  · split at hs
    · next q =>
      cases hs
      rw [zstL_h q]
      exact zGr.rf
    · exact zstH_g hX hs
theorem zRun_g {X : zX} (hX : ∀ (c j ci : Nat) (fs : List Value), znew X c j = some (ci, fs) → fs.length ≤ 1000000) {I : zI} {mcl : Nat → Nat} {C : zC} {c : Nat} {ini : Bool} {nL : Nat} {rt : Option FieldType} {tab : Nat → Option (Instr × Nat)} (hC : ∀ mi as h r h', C mi as h r h' → zGr h h') : ∀ (n pc : Nat) (ls : zL) (st : List Value) (h : zH) (r : Option Value) (h' : zH), zRun X I mcl C c ini nL rt tab n pc ls st h r h' → zGr h h' := by
  intro n
  induction n with
  | zero => intro pc ls st h r h' q; exact q.elim
  | succ n ih =>
    intro pc ls st h r h' q
    obtain ⟨i, len, -, q⟩ := q
    rcases q with ⟨-, rfl⟩ | ⟨pc1, ls1, st1, h1, q1, q2⟩ | ⟨rest, -, q2⟩ | ⟨mi, as, rest, r1, h1, -, q1, q2⟩
    · exact zGr.rf
    · exact (zstep_g hX q1).trans (ih _ _ _ _ _ _ q2)
    · exact ih _ _ _ _ _ _ q2
    · exact (hC _ _ _ _ _ q1).trans (ih _ _ _ _ _ _ q2)
theorem zEv_g {X : zX} (hX : ∀ (c j ci : Nat) (fs : List Value), znew X c j = some (ci, fs) → fs.length ≤ 1000000) {I : zI} {mcl : Nat → Nat} {mt : zM} : ∀ (d mi : Nat) (as : List Value) (h : zH) (r : Option Value) (h' : zH), zEv X I mcl mt d mi as h r h' → zGr h h' := by
  intro d
  induction d with
  | zero => intro mi as h r h' q; exact q.elim
  | succ d ih =>
    intro mi as h r h' q
    obtain ⟨c, ini, nL, rt, tab, n, -, -, q⟩ := q
    exact zRun_g hX ih _ _ _ _ _ _ _ q
theorem yD_len : zDs.all (fun l => decide (l.length ≤ 1000000)) = true := by decide +kernel
theorem ynew_len (nf : Bool) (xs : List Int32) (c j ci : Nat) (fs : List Value) (h : znew (zXt nf xs) c j = some (ci, fs)) : fs.length ≤ 1000000 := by
  obtain ⟨-, h2, h3⟩ := zne_in (c := c) (j := j) (ci := ci) (fs := fs) h
  rw [h3, List.getD_eq_getElem?_getD]
  cases hq : zDs[ci]? with
  | none => exact Nat.zero_le _
  | some l => exact of_decide_eq_true (List.all_eq_true.mp yD_len l (List.mem_of_getElem? hq))
