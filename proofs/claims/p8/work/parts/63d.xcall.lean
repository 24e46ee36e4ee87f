/-! Branches, calls, ends. -/
section XI
variable {nf : Bool} {xs : List Int32} {d c : Nat} {ini : Bool} {nL : Nat} {rt : Option FieldType} {tab : Nat → Option (Instr × Nat)} {G : xG} {r : Option Value} {h' : zH} {pc pc' len q : Nat} {ls ls' : zL} {st : List Value} {m : xM} {g : xL} {N : Nat} {off : Int} {x y : Int32}
theorem xbr {X : zX} {i : Instr} {b : Bool} {h : zH} {st1 : List Value} {s : Nat × zL × List Value × zH} (e : zstI X i pc ls st h = zbr b pc off ls st1 h) (e0 : (pc : Int) + off = (q : Int)) (z : zstep X nL ini c i pc ls st h = some s) : s = (if b = true then q else pc + 3, ls, st1, h) := by
  have hz : zbr b pc off ls st1 h = some (if b = true then q else pc + 3, ls, st1, h) := by
    unfold zbr
    rw [e0, if_pos (by omega)]
    split <;> rfl
  unfold zstep at z
  rw [e, hz] at z
  cases z
  rfl
theorem RR.br {cnd : Jvm.ClassFile.Cond} (hr : RR nf xs d c ini nL rt tab G r h' N (pc, ls, .int y :: .int x :: st, m, g)) (t : xtb tab pc pc' q (.if_icmp cnd off) off) : (zicmp cnd x y = true ∧ RR nf xs d c ini nL rt tab G r h' N (q, ls, st, m, g)) ∨ (zicmp cnd x y = false ∧ RR nf xs d c ini nL rt tab G r h' N (pc', ls, st, m, g)) := by
  obtain ⟨t, rfl, e⟩ := t
  obtain ⟨n, hn, h, hs, q2⟩ := hr
  obtain ⟨n', p1, l1, s1, k1, en, z, q⟩ := zinv t rfl rfl rfl q2
  have z := xbr (X := zXt nf xs) (st := .int y :: .int x :: st) rfl e z
  cases hb : zicmp cnd x y with
  | true =>
    rw [hb] at z
    cases z
    exact Or.inl ⟨rfl, n', by omega, h, hs, q⟩
  | false =>
    rw [hb] at z
    cases z
    exact Or.inr ⟨rfl, n', by omega, h, hs, q⟩
theorem RR.bz {cnd : Jvm.ClassFile.Cond} (hr : RR nf xs d c ini nL rt tab G r h' N (pc, ls, .int x :: st, m, g)) (t : xtb tab pc pc' q (.ifCond cnd off) off) : (zicmp cnd x 0 = true ∧ RR nf xs d c ini nL rt tab G r h' N (q, ls, st, m, g)) ∨ (zicmp cnd x 0 = false ∧ RR nf xs d c ini nL rt tab G r h' N (pc', ls, st, m, g)) := by
  obtain ⟨t, rfl, e⟩ := t
  obtain ⟨n, hn, h, hs, q2⟩ := hr
  obtain ⟨n', p1, l1, s1, k1, en, z, q⟩ := zinv t rfl rfl rfl q2
  have z := xbr (X := zXt nf xs) (st := .int x :: st) rfl e z
  cases hb : zicmp cnd x 0 with
  | true =>
    rw [hb] at z
    cases z
    exact Or.inl ⟨rfl, n', by omega, h, hs, q⟩
  | false =>
    rw [hb] at z
    cases z
    exact Or.inr ⟨rfl, n', by omega, h, hs, q⟩
theorem xc_lt : zicmp .lt x y = true → x.toInt < y.toInt := fun h => Int32.lt_iff_toInt_lt.mp (of_decide_eq_true h)
theorem xc_lt' : zicmp .lt x y = false → y.toInt ≤ x.toInt := fun h => Int.not_lt.mp (fun q => of_decide_eq_false h (Int32.lt_iff_toInt_lt.mpr q))
theorem xc_ge : zicmp .ge x y = true → y.toInt ≤ x.toInt := fun h => Int32.le_iff_toInt_le.mp (of_decide_eq_true h)
theorem xc_ge' : zicmp .ge x y = false → x.toInt < y.toInt := fun h => Int.not_le.mp (fun q => of_decide_eq_false h (Int32.le_iff_toInt_le.mpr q))
theorem xc_gt : zicmp .gt x y = true → y.toInt < x.toInt := fun h => Int32.lt_iff_toInt_lt.mp (of_decide_eq_true h)
theorem xc_gt' : zicmp .gt x y = false → x.toInt ≤ y.toInt := fun h => Int.not_lt.mp (fun q => of_decide_eq_false h (Int32.lt_iff_toInt_lt.mpr q))
theorem xc_le : zicmp .le x y = true → x.toInt ≤ y.toInt := fun h => Int32.le_iff_toInt_le.mp (of_decide_eq_true h)
theorem xc_le' : zicmp .le x y = false → y.toInt < x.toInt := fun h => Int.not_le.mp (fun q => of_decide_eq_false h (Int32.le_iff_toInt_le.mpr q))
theorem xc_eq : zicmp .eq x y = true → x = y := fun h => of_decide_eq_true h
theorem xc_eq' : zicmp .eq x y = false → ¬ x = y := fun h => of_decide_eq_false h
theorem xc_ne : zicmp .ne x y = true → ¬ x = y := fun h => of_decide_eq_false (by have h : (!decide (x = y)) = true := h; simpa using h)
theorem xc_ne' : zicmp .ne x y = false → x = y := fun h => of_decide_eq_true (by have h : (!decide (x = y)) = false := h; simpa using h)
theorem x0 : (0 : Int32).toInt = 0 := rfl
theorem RR.bLt (hr : RR nf xs d c ini nL rt tab G r h' N (pc, ls, .int y :: .int x :: st, m, g)) (t : xtb tab pc pc' q (.if_icmp .lt off) off) : (x.toInt < y.toInt ∧ RR nf xs d c ini nL rt tab G r h' N (q, ls, st, m, g)) ∨ (y.toInt ≤ x.toInt ∧ RR nf xs d c ini nL rt tab G r h' N (pc', ls, st, m, g)) := (hr.br t).imp (fun a => ⟨xc_lt a.1, a.2⟩) (fun a => ⟨xc_lt' a.1, a.2⟩)
theorem RR.bGe (hr : RR nf xs d c ini nL rt tab G r h' N (pc, ls, .int y :: .int x :: st, m, g)) (t : xtb tab pc pc' q (.if_icmp .ge off) off) : (y.toInt ≤ x.toInt ∧ RR nf xs d c ini nL rt tab G r h' N (q, ls, st, m, g)) ∨ (x.toInt < y.toInt ∧ RR nf xs d c ini nL rt tab G r h' N (pc', ls, st, m, g)) := (hr.br t).imp (fun a => ⟨xc_ge a.1, a.2⟩) (fun a => ⟨xc_ge' a.1, a.2⟩)
theorem RR.bGt (hr : RR nf xs d c ini nL rt tab G r h' N (pc, ls, .int y :: .int x :: st, m, g)) (t : xtb tab pc pc' q (.if_icmp .gt off) off) : (y.toInt < x.toInt ∧ RR nf xs d c ini nL rt tab G r h' N (q, ls, st, m, g)) ∨ (x.toInt ≤ y.toInt ∧ RR nf xs d c ini nL rt tab G r h' N (pc', ls, st, m, g)) := (hr.br t).imp (fun a => ⟨xc_gt a.1, a.2⟩) (fun a => ⟨xc_gt' a.1, a.2⟩)
theorem RR.bLe (hr : RR nf xs d c ini nL rt tab G r h' N (pc, ls, .int y :: .int x :: st, m, g)) (t : xtb tab pc pc' q (.if_icmp .le off) off) : (x.toInt ≤ y.toInt ∧ RR nf xs d c ini nL rt tab G r h' N (q, ls, st, m, g)) ∨ (y.toInt < x.toInt ∧ RR nf xs d c ini nL rt tab G r h' N (pc', ls, st, m, g)) := (hr.br t).imp (fun a => ⟨xc_le a.1, a.2⟩) (fun a => ⟨xc_le' a.1, a.2⟩)
theorem RR.bEq (hr : RR nf xs d c ini nL rt tab G r h' N (pc, ls, .int y :: .int x :: st, m, g)) (t : xtb tab pc pc' q (.if_icmp .eq off) off) : (x = y ∧ RR nf xs d c ini nL rt tab G r h' N (q, ls, st, m, g)) ∨ (¬ x = y ∧ RR nf xs d c ini nL rt tab G r h' N (pc', ls, st, m, g)) := (hr.br t).imp (fun a => ⟨xc_eq a.1, a.2⟩) (fun a => ⟨xc_eq' a.1, a.2⟩)
theorem RR.bNe (hr : RR nf xs d c ini nL rt tab G r h' N (pc, ls, .int y :: .int x :: st, m, g)) (t : xtb tab pc pc' q (.if_icmp .ne off) off) : (¬ x = y ∧ RR nf xs d c ini nL rt tab G r h' N (q, ls, st, m, g)) ∨ (x = y ∧ RR nf xs d c ini nL rt tab G r h' N (pc', ls, st, m, g)) := (hr.br t).imp (fun a => ⟨xc_ne a.1, a.2⟩) (fun a => ⟨xc_ne' a.1, a.2⟩)
theorem RR.zLt (hr : RR nf xs d c ini nL rt tab G r h' N (pc, ls, .int x :: st, m, g)) (t : xtb tab pc pc' q (.ifCond .lt off) off) : (x.toInt < 0 ∧ RR nf xs d c ini nL rt tab G r h' N (q, ls, st, m, g)) ∨ (0 ≤ x.toInt ∧ RR nf xs d c ini nL rt tab G r h' N (pc', ls, st, m, g)) := (hr.bz t).imp (fun a => ⟨x0 ▸ xc_lt (x := x) (y := 0) a.1, a.2⟩) (fun a => ⟨x0 ▸ xc_lt' (x := x) (y := 0) a.1, a.2⟩)
theorem RR.zGe (hr : RR nf xs d c ini nL rt tab G r h' N (pc, ls, .int x :: st, m, g)) (t : xtb tab pc pc' q (.ifCond .ge off) off) : (0 ≤ x.toInt ∧ RR nf xs d c ini nL rt tab G r h' N (q, ls, st, m, g)) ∨ (x.toInt < 0 ∧ RR nf xs d c ini nL rt tab G r h' N (pc', ls, st, m, g)) := (hr.bz t).imp (fun a => ⟨x0 ▸ xc_ge (x := x) (y := 0) a.1, a.2⟩) (fun a => ⟨x0 ▸ xc_ge' (x := x) (y := 0) a.1, a.2⟩)
theorem RR.zGt (hr : RR nf xs d c ini nL rt tab G r h' N (pc, ls, .int x :: st, m, g)) (t : xtb tab pc pc' q (.ifCond .gt off) off) : (0 < x.toInt ∧ RR nf xs d c ini nL rt tab G r h' N (q, ls, st, m, g)) ∨ (x.toInt ≤ 0 ∧ RR nf xs d c ini nL rt tab G r h' N (pc', ls, st, m, g)) := (hr.bz t).imp (fun a => ⟨x0 ▸ xc_gt (x := x) (y := 0) a.1, a.2⟩) (fun a => ⟨x0 ▸ xc_gt' (x := x) (y := 0) a.1, a.2⟩)
theorem RR.zLe (hr : RR nf xs d c ini nL rt tab G r h' N (pc, ls, .int x :: st, m, g)) (t : xtb tab pc pc' q (.ifCond .le off) off) : (x.toInt ≤ 0 ∧ RR nf xs d c ini nL rt tab G r h' N (q, ls, st, m, g)) ∨ (0 < x.toInt ∧ RR nf xs d c ini nL rt tab G r h' N (pc', ls, st, m, g)) := (hr.bz t).imp (fun a => ⟨x0 ▸ xc_le (x := x) (y := 0) a.1, a.2⟩) (fun a => ⟨x0 ▸ xc_le' (x := x) (y := 0) a.1, a.2⟩)
theorem RR.zEq (hr : RR nf xs d c ini nL rt tab G r h' N (pc, ls, .int x :: st, m, g)) (t : xtb tab pc pc' q (.ifCond .eq off) off) : (x = 0 ∧ RR nf xs d c ini nL rt tab G r h' N (q, ls, st, m, g)) ∨ (¬ x = 0 ∧ RR nf xs d c ini nL rt tab G r h' N (pc', ls, st, m, g)) := (hr.bz t).imp (fun a => ⟨xc_eq a.1, a.2⟩) (fun a => ⟨xc_eq' a.1, a.2⟩)
theorem RR.zNe (hr : RR nf xs d c ini nL rt tab G r h' N (pc, ls, .int x :: st, m, g)) (t : xtb tab pc pc' q (.ifCond .ne off) off) : (¬ x = 0 ∧ RR nf xs d c ini nL rt tab G r h' N (q, ls, st, m, g)) ∨ (x = 0 ∧ RR nf xs d c ini nL rt tab G r h' N (pc', ls, st, m, g)) := (hr.bz t).imp (fun a => ⟨xc_ne a.1, a.2⟩) (fun a => ⟨xc_ne' a.1, a.2⟩)
theorem s_lookup {df : Int} {ps : Array (Int × Int)} (t : tab pc = some (.lookupswitch df ps, len)) (e : (pc : Int) + Op.lookupswitch.offset ps.toList df x.toInt = (q : Int)) : XS nf xs d c ini nL rt tab G r h' (pc, ls, .int x :: st, m, g) (q, ls, st, m, g) := by
  exact xpure t rfl rfl (fun _ => rfl) (fun h s z => by
    unfold zstep zstI at z
    dsimp only at z
    split at z
    · next hz =>
      split at hz
      · unfold zjump at hz
        rw [e, if_pos (by omega)] at hz
        cases hz
        cases z
        rfl
      · cases hz
    · next hz =>
      cases z)
theorem s_tswitch {df lo hi : Int} {offs : Array Int} (t : tab pc = some (.tableswitch df lo hi offs, len)) (h0 : lo ≤ x.toInt) (h1 : x.toInt ≤ hi) (e : offs[(x.toInt - lo).toNat]? = some off) (e2 : (pc : Int) + off = (q : Int)) : XS nf xs d c ini nL rt tab G r h' (pc, ls, .int x :: st, m, g) (q, ls, st, m, g) := by
  exact xpure t rfl rfl (fun _ => rfl) (fun h s z => by
    unfold zstep zstI at z
    dsimp only at z
    rw [if_neg (by omega), e] at z
    dsimp only at z
    unfold zjump at z
    rw [e2, if_pos (by omega)] at z
    cases z
    rfl)
theorem s_tswitchD {df lo hi : Int} {offs : Array Int} (t : tab pc = some (.tableswitch df lo hi offs, len)) (h0 : x.toInt < lo ∨ hi < x.toInt) (e2 : (pc : Int) + df = (q : Int)) : XS nf xs d c ini nL rt tab G r h' (pc, ls, .int x :: st, m, g) (q, ls, st, m, g) := by
  exact xpure t rfl rfl (fun _ => rfl) (fun h s z => by
    unfold zstep zstI at z
    dsimp only at z
    rw [if_pos h0] at z
    unfold zjump at z
    rw [e2, if_pos (by omega)] at z
    cases z
    rfl)
/-- what a method does -/
def CT (nf : Bool) (xs : List Int32) (d mi : Nat) (as : List Value) (m : xM) (g : xL) (G : xG) (P : Option Value → xM → xL → Prop) : Prop := ∀ (h : zH) (r : Option Value) (h' : zH), HS h m g G → zEv (zXt nf xs) zIT zmcl zMt d mi as h r h' → ∃ (m' : xM) (g' : xL), HS h' m' g' G ∧ P r m' g'
theorem zinvC {i : Instr} {n : Nat} {h : zH} (t : tab pc = some (i, len)) (h1 : zret rt i st = none) (h2 : zobjI zIT c i st = none) (h3 : zstep (zXt nf xs) nL ini c i pc ls st h = none) (q : zRun (zXt nf xs) zIT zmcl (zEv (zXt nf xs) zIT zmcl zMt d) c ini nL rt tab n pc ls st h r h') : ∃ (n' mi : Nat) (as rest : List Value) (r1 : Option Value) (k1 : zH), n = n' + 1 ∧ zcall (zXt nf xs) zIT zmcl c i st h = some (mi, as, rest) ∧ zEv (zXt nf xs) zIT zmcl zMt d mi as h r1 k1 ∧ zRun (zXt nf xs) zIT zmcl (zEv (zXt nf xs) zIT zmcl zMt d) c ini nL rt tab n' (pc + 3) ls (r1.toList ++ rest) k1 r h' := by
  cases n with
  | zero => exact q.elim
  | succ n =>
    obtain ⟨i', len', t', q⟩ := q
    rw [t] at t'
    cases t'
    rcases q with ⟨q, -⟩ | ⟨pc1, ls1, st1, k1, q1, q2⟩ | ⟨rest, q, -⟩ | ⟨mi, as, rest, r1, k1, q, q1, q2⟩
    · rw [h1] at q; cases q
    · rw [h3] at q1; cases q1
    · rw [h2] at q; cases q
    · exact ⟨n, mi, as, rest, r1, k1, rfl, q, q1, q2⟩
theorem RR.callv {j mi n b : Nat} {vs rest : List Value} {P : Option Value → xM → xL → Prop} (hr : RR nf xs d c ini nL rt tab G r h' N (pc, ls, st, m, g)) (t : xtc tab c pc pc' (.invokevirtual j) j 1 mi n) (e1 : st.drop n = .ref b :: rest) (e2 : (st.take n).reverse = vs) (hc : CT nf xs d mi (.ref b :: vs) m g G P) : ∃ (r1 : Option Value) (m1 : xM) (g1 : xL), P r1 m1 g1 ∧ RR nf xs d c ini nL rt tab G r h' N (pc', ls, r1.toList ++ rest, m1, g1) := by
  obtain ⟨t, rfl, e⟩ := t
  obtain ⟨n0, hn, h, hs, q2⟩ := hr
  obtain ⟨n', mi', as, rest', r1, k1, en, z, q3, q⟩ := zinvC t rfl rfl rfl q2
  simp only [zcall, e, e1, e2] at z
  split at z
  · split at z
    · cases z
      obtain ⟨m1, g1, k2, k3⟩ := hc h r1 k1 hs q3
      exact ⟨r1, m1, g1, k3, n', by omega, k1, k2, q⟩
    · cases z
  · cases z
theorem RR.callX {j mi n b : Nat} {vs rest : List Value} {P : Option Value → xM → xL → Prop} (hr : RR nf xs d c ini nL rt tab G r h' N (pc, ls, st, m, g)) (t : xtc tab c pc pc' (.invokevirtual j) j 1 mi n) (e1 : st.drop n = .retAddr b :: rest) (e2 : (st.take n).reverse = vs) (hc : CT nf xs d mi (.retAddr b :: vs) m g G P) : ∃ (r1 : Option Value) (m1 : xM) (g1 : xL), P r1 m1 g1 ∧ RR nf xs d c ini nL rt tab G r h' N (pc', ls, r1.toList ++ rest, m1, g1) := by
  obtain ⟨t, rfl, e⟩ := t
  obtain ⟨n0, hn, h, hs, q2⟩ := hr
  obtain ⟨n', mi', as, rest', r1, k1, en, z, q3, q⟩ := zinvC t rfl rfl rfl q2
  simp only [zcall, e, e1, e2] at z
  split at z
  · cases z
    obtain ⟨m1, g1, k2, k3⟩ := hc h r1 k1 hs q3
    exact ⟨r1, m1, g1, k3, n', by omega, k1, k2, q⟩
  · cases z
theorem xno_static {j mi n kd : Nat} (e : zIT c j = some (kd, mi, n)) (hk : kd = 2) : zobjI zIT c (.invokestatic j) st = none := by
  subst hk
  simp only [zobjI, e]
theorem RR.calls {j mi n : Nat} {vs rest : List Value} {P : Option Value → xM → xL → Prop} (hr : RR nf xs d c ini nL rt tab G r h' N (pc, ls, st, m, g)) (t : xtc tab c pc pc' (.invokestatic j) j 2 mi n) (e1 : st.drop n = rest) (e2 : (st.take n).reverse = vs) (hc : CT nf xs d mi vs m g G P) : ∃ (r1 : Option Value) (m1 : xM) (g1 : xL), P r1 m1 g1 ∧ RR nf xs d c ini nL rt tab G r h' N (pc', ls, r1.toList ++ rest, m1, g1) := by
  obtain ⟨t, rfl, e⟩ := t
  obtain ⟨n0, hn, h, hs, q2⟩ := hr
  obtain ⟨n', mi', as, rest', r1, k1, en, z, q3, q⟩ := zinvC t rfl (xno_static e rfl) rfl q2
  simp only [zcall, e, e1, e2] at z
  split at z
  · cases z
    obtain ⟨m1, g1, k2, k3⟩ := hc h r1 k1 hs q3
    exact ⟨r1, m1, g1, k3, n', by omega, k1, k2, q⟩
  · cases z
theorem zinvR {i : Instr} {n : Nat} {h : zH} (t : tab pc = some (i, len)) (h2 : zobjI zIT c i st = none) (h3 : zcall (zXt nf xs) zIT zmcl c i st h = none) (h4 : zstep (zXt nf xs) nL ini c i pc ls st h = none) (q : zRun (zXt nf xs) zIT zmcl (zEv (zXt nf xs) zIT zmcl zMt d) c ini nL rt tab n pc ls st h r h') : zret rt i st = some r ∧ h' = h := by
  cases n with
  | zero => exact q.elim
  | succ n =>
    obtain ⟨i', len', t', q⟩ := q
    rw [t] at t'
    cases t'
    rcases q with q | ⟨pc1, ls1, st1, k1, q1, q2⟩ | ⟨rest, q, -⟩ | ⟨mi, as, rest, r1, k1, q, q1, q2⟩
    · exact q
    · rw [h4] at q1; cases q1
    · rw [h2] at q; cases q
    · rw [h3] at q; cases q
theorem zret_i {v : Option Value} (z : zret rt .ireturn [.int x] = some v) : v = some (.int x) := by
  cases rt with
  | none => cases z
  | some ty =>
    have z : (if narrow ty (.int x) = .int x then some (some (.int x)) else none) = some v := z
    split at z
    · cases z; rfl
    · cases z
theorem zret_v {v : Option Value} (z : zret rt .return_ [] = some v) : v = none := by
  cases rt with
  | none => cases z; rfl
  | some ty => cases z
theorem zret_a {v : Option Value} {a : Nat} (z : zret rt .areturn [.ref a] = some v) : v = some (.ref a) := by
  cases rt with
  | none => cases z
  | some ty => cases ty <;> first | (cases z; rfl) | cases z
theorem RR.iret (hr : RR nf xs d c ini nL rt tab G r h' N (pc, ls, [.int x], m, g)) (t : xt tab pc pc' .ireturn) : r = some (.int x) ∧ HS h' m g G := by
  obtain ⟨t, -⟩ := t
  obtain ⟨n, hn, h, hs, q2⟩ := hr
  obtain ⟨z, rfl⟩ := zinvR t rfl rfl rfl q2
  exact ⟨zret_i z, hs⟩
theorem RR.ret (hr : RR nf xs d c ini nL rt tab G r h' N (pc, ls, [], m, g)) (t : xt tab pc pc' .return_) : r = none ∧ HS h' m g G := by
  obtain ⟨t, -⟩ := t
  obtain ⟨n, hn, h, hs, q2⟩ := hr
  obtain ⟨z, rfl⟩ := zinvR t rfl rfl rfl q2
  exact ⟨zret_v z, hs⟩
theorem RR.aret {a : Nat} (hr : RR nf xs d c ini nL rt tab G r h' N (pc, ls, [.ref a], m, g)) (t : xt tab pc pc' .areturn) : r = some (.ref a) ∧ HS h' m g G := by
  obtain ⟨t, -⟩ := t
  obtain ⟨n, hn, h, hs, q2⟩ := hr
  obtain ⟨z, rfl⟩ := zinvR t rfl rfl rfl q2
  exact ⟨zret_a z, hs⟩
theorem CT.of {mi : Nat} {as : List Value} {P : Option Value → xM → xL → Prop} (mt : zMt mi = some (c, ini, nL, rt, tab)) (hb : ∀ (d' : Nat) (r : Option Value) (h' : zH) (N : Nat), d = d' + 1 → RR nf xs d' c ini nL rt tab G r h' N (0, lv_args 0 as, [], m, g) → ∃ (m' : xM) (g' : xL), HS h' m' g' G ∧ P r m' g') : CT nf xs d mi as m g G P := by
  intro h r h' hs q
  cases d with
  | zero => exact q.elim
  | succ d =>
    obtain ⟨c1, ini1, nL1, rt1, tab1, n, e, -, q⟩ := q
    rw [mt] at e
    cases e
    exact hb d r h' (n + 1) rfl ⟨n, by omega, h, hs, q⟩
theorem CT.mono {mi : Nat} {as : List Value} {P Q : Option Value → xM → xL → Prop} (hc : CT nf xs d mi as m g G P) (hq : ∀ r m' g', P r m' g' → Q r m' g') : CT nf xs d mi as m g G Q := by
  intro h r h' hs q
  obtain ⟨m', g', k1, k2⟩ := hc h r h' hs q
  exact ⟨m', g', k1, hq _ _ _ k2⟩
end XI
