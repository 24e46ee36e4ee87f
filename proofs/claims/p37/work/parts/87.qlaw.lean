/-! Joined: 87.qlaw, 87b.keep, 87c.pairs, 87e.notes, 87f0.going, 87fa.det, 87fb.mile, 87fc.goC, 87fd.goR. -/
section
/-! The law's own way: steps of its body. -/
abbrev zLaw (nf : Bool) (xs : List Int32) : Nat → zSt → zSt → Prop := zGo (zXt nf xs) zIT zmcl (zEv (zXt nf xs) zIT zmcl zMt 1000) 19 false 7 ztlaw
theorem zLaw_trans {nf : Bool} {xs : List Int32} {n m : Nat} {a b d : zSt} (h1 : zLaw nf xs n a b) (h2 : zLaw nf xs m b d) : zLaw nf xs (n + m) a d := zGo_trans _ _ _ _ _ h1 h2
theorem lsI {X : zX} {nL : Nat} {ini : Bool} {c : Nat} {i : Instr} {pc : Nat} {ls : zL} {st : List Value} {h : zH} {q : Nat × zL × List Value × zH} (hs : zstI X i pc ls st h = some q) : zstep X nL ini c i pc ls st h = some q := by
  unfold zstep
  rw [hs]
theorem lsL {X : zX} {nL : Nat} {ini : Bool} {c : Nat} {i : Instr} {pc : Nat} {ls : zL} {st : List Value} {h : zH} {q : Nat × zL × List Value × zH} (hs : zstL nL i pc ls st h = some q) : zstep X nL ini c i pc ls st h = some q := by
  unfold zstep
  rw [zIL hs, hs]
theorem lsH {X : zX} {nL : Nat} {ini : Bool} {c : Nat} {i : Instr} {pc : Nat} {ls : zL} {st : List Value} {h : zH} {q : Nat × zL × List Value × zH} (hs : zstH X ini c i pc ls st h = some q) : zstep X nL ini c i pc ls st h = some q := by
  unfold zstep
  rw [(zIH (nL := nL) hs).1, (zIH (nL := nL) hs).2, hs]
theorem lone {nf : Bool} {xs : List Int32} {a b : zSt} {i : Instr} {len : Nat} (ht : ztlaw a.1 = some (i, len)) (hs : zstep (zXt nf xs) 7 false 19 i a.1 a.2.1 a.2.2.1 a.2.2.2 = some b) : zLaw nf xs 1 a b := ⟨i, len, ht, Or.inl ⟨b, hs, rfl⟩⟩
theorem lcl {nf : Bool} {xs : List Int32} {a : zSt} {i : Instr} {len mi : Nat} {as rest : List Value} {r1 : Option Value} {h1 : zH} (ht : ztlaw a.1 = some (i, len)) (hc : zcall (zXt nf xs) zIT zmcl 19 i a.2.2.1 a.2.2.2 = some (mi, as, rest)) (hC : zEv (zXt nf xs) zIT zmcl zMt 1000 mi as a.2.2.2 r1 h1) : zLaw nf xs 1 a (a.1 + 3, a.2.1, r1.toList ++ rest, h1) := ⟨i, len, ht, Or.inr (Or.inr ⟨mi, as, rest, r1, h1, hc, hC, rfl⟩)⟩
/-- the law's locals -/
def lok (cl : zL) (i : Int32) : Prop := zget cl 0 = some (.retAddr 6) ∧ zget cl 1 = some (.ref 0) ∧ zget cl 2 = some (.ref 128) ∧ zget cl 3 = some (.ref 175) ∧ zget cl 4 = some (.int i)
/-- the script at i and j more -/
def lx (xs : List Int32) (i : Int32) (j : Int) : Int32 := xs.getD (i + Int32.ofInt j).toNatClampNeg 0
def lin (xs : List Int32) (i : Int32) : Prop := zidx i xs.length = true ∧ ∀ j : Int, 1 ≤ j → j ≤ 5 → zidx (i + Int32.ofInt j) xs.length = true
theorem la_r {nf : Bool} {xs : List Int32} {pc x : Nat} {k : Fin 4} {cl : zL} {st : List Value} {h : zH} (t : ztlaw pc = some (.aload_n k, 1)) (hv : zget cl k = some (.ref x)) : zLaw nf xs 1 (pc, cl, st, h) (pc + 1, cl, .ref x :: st, h) := lone t (lsL (by simp only [zstL, hv]))
theorem la_s {nf : Bool} {xs : List Int32} {pc : Nat} {cl : zL} {st : List Value} {h : zH} {i : Int32} {j : Int} (t0 : ztlaw pc = some (.aload_n 0, 1)) (t1 : ztlaw (pc + 1) = some (.iload 4, 2)) (t2 : ztlaw (pc + 3) = some (.iconst j, 1)) (t3 : ztlaw (pc + 4) = some (.iadd, 1)) (t4 : ztlaw (pc + 5) = some (.iaload, 1)) (hl : lok cl i) (hi : zidx (i + Int32.ofInt j) xs.length = true) : zLaw nf xs 5 (pc, cl, st, h) (pc + 6, cl, .int (lx xs i j) :: st, h) := by
  have s0 : zLaw nf xs 1 (pc, cl, st, h) (pc + 1, cl, .retAddr 6 :: st, h) := lone t0 (lsL (by simp only [zstL]; rw [show zget cl ((0 : Fin 4) : Nat) = some (.retAddr 6) from hl.1]))
  have s1 : zLaw nf xs 1 (pc + 1, cl, .retAddr 6 :: st, h) (pc + 3, cl, .int i :: .retAddr 6 :: st, h) := lone t1 (lsL (by simp only [zstL]; rw [hl.2.2.2.2]))
  have s2 : zLaw nf xs 1 (pc + 3, cl, .int i :: .retAddr 6 :: st, h) (pc + 4, cl, .int (Int32.ofInt j) :: .int i :: .retAddr 6 :: st, h) := lone t2 (lsL rfl)
  have s3 : zLaw nf xs 1 (pc + 4, cl, .int (Int32.ofInt j) :: .int i :: .retAddr 6 :: st, h) (pc + 5, cl, .int (i + Int32.ofInt j) :: .retAddr 6 :: st, h) := lone t3 (lsI rfl)
  have s4 : zLaw nf xs 1 (pc + 5, cl, .int (i + Int32.ofInt j) :: .retAddr 6 :: st, h) (pc + 6, cl, .int (lx xs i j) :: st, h) := lone t4 (lsH (by
    have hz : zxarr (zXt nf xs) 6 = some (false, xs) := rfl
    simp only [zstH, hz]
    rw [if_pos hi]
    rfl))
  exact zLaw_trans s0 (zLaw_trans s1 (zLaw_trans s2 (zLaw_trans s3 s4)))
theorem lpop {nf : Bool} {xs : List Int32} {pc : Nat} {cl : zL} {st : List Value} {h : zH} {x : Int32} (t : ztlaw pc = some (.pop, 1)) : zLaw nf xs 1 (pc, cl, .int x :: st, h) (pc + 1, cl, st, h) := lone t (lsI rfl)
theorem lgoto {nf : Bool} {xs : List Int32} {pc q : Nat} {off : Int} {cl : zL} {st : List Value} {h : zH} (t : ztlaw pc = some (.goto off, 3)) (ho : (pc : Int) + off = (q : Int)) : zLaw nf xs 1 (pc, cl, st, h) (q, cl, st, h) := lone t (lsI (by
  simp only [zstI, zjump]
  rw [ho, if_pos (Int.natCast_nonneg q)]
  rfl))
theorem lifeq {nf : Bool} {xs : List Int32} {pc q : Nat} {off : Int} {cl : zL} {x : Int32} {st : List Value} {h : zH} (t : ztlaw pc = some (.ifCond .eq off, 3)) (ho : (pc : Int) + off = (q : Int)) (hx : x = 0) : zLaw nf xs 1 (pc, cl, .int x :: st, h) (q, cl, st, h) := lone t (lsI (by
  show zbr (zicmp .eq x 0) pc off cl st h = some _
  rw [show zicmp .eq x 0 = true from decide_eq_true hx]
  unfold zbr
  rw [ho, if_pos (Int.natCast_nonneg q), if_pos rfl]
  rfl))
theorem lifne {nf : Bool} {xs : List Int32} {pc : Nat} {off : Int} {cl : zL} {x : Int32} {st : List Value} {h : zH} (t : ztlaw pc = some (.ifCond .eq off, 3)) (ho : 0 ≤ (pc : Int) + off) (hx : x ≠ 0) : zLaw nf xs 1 (pc, cl, .int x :: st, h) (pc + 3, cl, st, h) := lone t (lsI (by
  show zbr (zicmp .eq x 0) pc off cl st h = some _
  rw [show zicmp .eq x 0 = false from decide_eq_false hx]
  unfold zbr
  rw [if_pos ho, if_neg (by decide)]))
/-- 'is it other than 0' -/
def lnz (x : Int32) : Int32 := if x = 0 then 0 else 1
theorem lbool {nf : Bool} {xs : List Int32} {pc : Nat} {cl : zL} {x : Int32} {st : List Value} {h : zH} (t1 : ztlaw pc = some (.ifCond .eq 7, 3)) (t2 : ztlaw (pc + 3) = some (.iconst 1, 1)) (t3 : ztlaw (pc + 4) = some (.goto 4, 3)) (t4 : ztlaw (pc + 7) = some (.iconst 0, 1)) : ∃ n : Nat, zLaw nf xs n (pc, cl, .int x :: st, h) (pc + 8, cl, .int (lnz x) :: st, h) := by
  by_cases hx : x = 0
  · have s1 := lifeq (nf := nf) (xs := xs) (q := pc + 7) (cl := cl) (st := st) (h := h) t1 (by omega) hx
    have s2 : zLaw nf xs 1 (pc + 7, cl, st, h) (pc + 8, cl, .int (lnz x) :: st, h) := lone t4 (lsL (by unfold lnz; rw [if_pos hx]; rfl))
    exact ⟨_, zLaw_trans s1 s2⟩
  · have s1 := lifne (nf := nf) (xs := xs) (cl := cl) (st := st) (h := h) t1 (by omega) hx
    have s2 : zLaw nf xs 1 (pc + 3, cl, st, h) (pc + 4, cl, .int (lnz x) :: st, h) := lone t2 (lsL (by unfold lnz; rw [if_neg hx]; rfl))
    have s3 : zLaw nf xs 1 (pc + 4, cl, .int (lnz x) :: st, h) (pc + 8, cl, .int (lnz x) :: st, h) := lgoto t3 (by omega)
    exact ⟨_, zLaw_trans s1 (zLaw_trans s2 s3)⟩
/-! What holds between the passes. -/
def lJ (h : zH) : Prop := aH qW qG [0] [] h ∧ ∃ x : Int32, rd h 0 1 = some (.int x) ∧ rd h 128 2 = some (.int x)
theorem aH_nil {W : aW} {G : aG} {ρ ρ' : List Int} {h : zH} (hH : aH W G ρ [] h) : aH W G ρ' [] h := by
  refine ⟨hH.1, fun a k ha hk => ?_, fun e he => by cases he⟩
  obtain ⟨v, g1, g2⟩ := hH.2.1 a k ha hk
  refine ⟨v, g1, ?_⟩
  rcases g2 with g2 | ⟨e, he, -⟩
  · exact Or.inl g2
  · cases he
theorem lhd {h : zH} {a t n : Nat} (hH : aSh qW h) (ha : a < qW.1.length) (hf : (afm qW (asrt qW a)).1 = t) (hk : (afm qW (asrt qW a)).2.1 = 0) : ∃ fs : List Value, h[a]? = some (t, .inr (.inr (.inr fs))) := by
  obtain ⟨e, h1, h2⟩ := hH a ha
  obtain ⟨e1, e2⟩ := e
  obtain ⟨q1, q2⟩ := h2
  rw [hk] at q2
  rcases e2 with l | l | l | fs
  · exact q2.elim
  · exact q2.elim
  · exact q2.elim
  · exact ⟨fs, by rw [h1, ← hf]; exact congrArg (fun z => some (z, _)) q1⟩
/-! Two calls, by their contracts. -/
def lE (ts : List aY) : List aY := [(0, 0, 0), (2, 0, 0), (2, 49, 49), (0, 0, 700)] ++ ts
def lm : aM := [((2, 0, 2), .inl (3, 0)), ((1, 0, 1), .inl (3, 0))]
/-- this place is none of those written -/
def kf (M : List aD) (a k : Nat) : Bool := M.all (fun d => Nat.beq d.2.1 0 && !(Nat.beq (asrt qW a) d.1 && (ile d.2.2.2.1 (k : Int) && ile (k : Int) d.2.2.2.2)))
/-- nothing of this sort is written -/
def ks (M : List aD) (s : Nat) : Bool := M.all (fun d => Nat.beq d.2.1 0 && !Nat.beq d.1 s)
theorem ks_kf {M : List aD} {a k s : Nat} (h : ks M s = true) (ha : asrt qW a = s) : kf M a k = true := by
  unfold kf
  refine List.all_eq_true.mpr (fun d hd => ?_)
  have h1 := List.all_eq_true.mp h d hd
  rw [Bool.and_eq_true] at h1 ⊢
  refine ⟨h1.1, ?_⟩
  rw [ha]
  cases hb : Nat.beq s d.1 with
  | false => rfl
  | true =>
    have e := Nat.eq_of_beq_eq_true hb
    rw [← e] at h1
    have h2 := h1.2
    rw [Nat.beq_refl] at h2
    cases h2
/-- what isn't written stays -/
def KP (M : List aD) (h0 h : zH) : Prop := ∀ a k : Nat, a < qW.1.length → k < (afm qW (asrt qW a)).2.2.1 → kf M a k = true → rd h a k = rd h0 a k
theorem apn_chk : qW.2.all (fun t => Nat.ble t.2.2.1 (apn t)) = true := by decide +kernel
theorem apn_le (s : Nat) : (afm qW s).2.2.1 ≤ apn (afm qW s) := by
  unfold afm
  rw [List.getD_eq_getElem?_getD]
  cases hq : qW.2[s]? with
  | none => exact Nat.zero_le _
  | some t => exact Nat.le_of_ble_eq_true (List.all_eq_true.mp apn_chk t (List.mem_of_getElem? hq))
theorem KP_of {ρ : List Int} {M : List aD} {h0 h : zH} (hF : aF qW qG ρ M h0 h) : KP M h0 h := by
  intro a k ha hk hf
  have h1 := hF.2 a k ha (Nat.lt_of_lt_of_le hk (apn_le _)) (fun d hd q => by
    have h2 := List.all_eq_true.mp hf d hd
    rw [Bool.and_eq_true] at h2
    have e0 := Nat.eq_of_beq_eq_true h2.1
    obtain ⟨q1, q2⟩ := q
    rw [e0] at q2
    have q2 : d.2.2.2.1 ≤ (k : Int) ∧ (k : Int) ≤ d.2.2.2.2 := q2
    have h3 := h2.2
    rw [q1, Nat.beq_refl, ile_iff.mpr q2.1, ile_iff.mpr q2.2] at h3
    cases h3)
  rw [qrdx (qG_real ha hk), qrdx (qG_real ha hk)] at h1
  exact h1
def lA : Nat → Nat → List aV
  | _, 0 => []
  | k, n + 1 => .inl (k, 0) :: lA (k + 1) n
/-- rows that can't be -/
def lbad (E : List aY) : Bool := E.any (fun t => Nat.ble 4 t.1 && ale E 3 t.2.1.toNat (t.1 - 4) (1 - t.2.2))
theorem lbad_no {W : aW} {E : List aY} {ρ : List Int} (hE : aE W E ρ) (h : lbad E = true) : False := by
  obtain ⟨t, t1, t2⟩ := List.any_eq_true.mp h
  rw [Bool.and_eq_true] at t2
  obtain ⟨z, z', z1, z2, z3⟩ := acst_of hE t1 (Nat.le_of_ble_eq_true t2.1)
  have := ale_ok hE 3 _ _ _ _ _ t2.2 z2 z1
  omega
/-- the same int -/
def lsm (E : List aY) (a b : aV) : Bool := match a, b with
  | .inl v, .inl w => aveq (.inl v) (.inl w) || (match aiv E v.1 v.2, aiv E w.1 w.2 with
    | some p, some q => ieq p.1 p.2 && (ieq q.1 q.2 && ieq p.1 q.1)
    | _, _ => false)
  | _, _ => false
theorem lsm_ok {W : aW} {E : List aY} {ρ : List Int} {a b : aV} {v w : Value} (hE : aE W E ρ) (h : lsm E a b = true) (hv : av ρ a v) (hw : av ρ b w) : ∃ x : Int32, v = .int x ∧ w = .int x := by
  unfold lsm at h
  split at h
  · next p q =>
    obtain ⟨x, x1, rfl⟩ := hv
    obtain ⟨y, y1, rfl⟩ := hw
    refine ⟨x, rfl, ?_⟩
    rw [Bool.or_eq_true] at h
    rcases h with h | h
    · have e := aveq_ok h
      cases e
      rw [x1.inj y1]
    · split at h
      · next r s hr hs =>
        simp only [Bool.and_eq_true] at h
        have e1 := ieq_ok h.1
        have e2 := ieq_ok h.2.1
        have e3 := ieq_ok h.2.2
        have b1 := aiv_in hE hr x1
        have b2 := aiv_in hE hs y1
        have : y.toInt = x.toInt := by omega
        rw [Int32.toInt_inj.mp this]
      · cases h
  · cases h
def lint (a : Option aV) : Bool := match a with
  | some (.inl _) => true
  | _ => false
def llng (a : Option aV) : Bool := match a with
  | some (.inr (.inl _)) => true
  | _ => false
def lfin (p : aXt) : Bool := (akill qW p.1 (fun _ => false) p.2.2).isSome && (match amg p.2.2 (1, 0, 1), amg p.2.2 (2, 0, 2) with
  | some v, some w => lsm p.1 v w
  | _, _ => false)
/-- the check: both end; what holds between passes holds again; e: of the answers -/
def lck (q1 q2 : aQ) (ts : List aY) (e : Option aV → Option aV → List aY → Bool) : Bool := match acon qW q1.2.2.2.2.1 (lE ts) lm (.inr (.inr (.inl 1)) :: lA 4 ts.length) q1 with
  | some A => A.2.2.all (fun o => match acon qW q2.2.2.2.2.1 o.1 o.2.2 (.inr (.inr (.inl 2)) :: lA 4 ts.length) q2 with
    | some B => B.2.2.all (fun p => lbad p.1 || (lfin p && e o.2.1 p.2.1 p.1))
    | none => false)
  | none => false
theorem lA_st {ρ : List Int} : ∀ (ys : List Int32) (k : Nat), (∀ j : Nat, j < ys.length → ∃ z : Int, ρ[k + j]? = some z ∧ ys.getD j 0 = Int32.ofInt z) → aSt ρ (lA k ys.length) (ys.map Value.int)
  | [], _, _ => rfl
  | y :: r, k, h => by
    obtain ⟨z, z1, z2⟩ := h 0 (by simp)
    refine ⟨.int y, r.map Value.int, rfl, ⟨y, ⟨z, by simpa using z1, ?_⟩, rfl⟩, lA_st r (k + 1) (fun j hj => ?_)⟩
    · rw [Int.add_zero]
      simpa using z2
    · obtain ⟨z, z1, z2⟩ := h (j + 1) (by simpa using hj)
      exact ⟨z, by rw [show k + 1 + j = k + (j + 1) by omega]; exact z1, by simpa using z2⟩
theorem lE_ok {t : Int} (ht : 0 ≤ t ∧ t ≤ 700) : ∀ (ys : List Int32) (ts : List aY), ts.length = ys.length → (∀ j : Nat, ∀ y : aY, ts[j]? = some y → y.1 = 0 ∧ y.2.1 ≤ (ys.getD j 0).toInt ∧ (ys.getD j 0).toInt ≤ y.2.2) → aE qW (lE ts) ([0, 0, 128, t] ++ ys.map Int32.toInt) := fun ys ts hl hb => by
  have E0 : aE qW [(0, 0, 0), (2, 0, 0), (2, 49, 49), (0, 0, 700)] [0, 0, 128, t] := ((aE0.push (t := (2, 0, 0)) (z := 0) (asR (so := 0) (c := 0) (by decide +kernel) (by decide +kernel))).push (t := (2, 49, 49)) (z := 128) (asR (so := 49) (c := 128) (by decide +kernel) (by decide +kernel))).push (t := (0, 0, 700)) (z := t) ht
  refine ⟨by simp [lE, hl], rfl, fun k y z h1 h2 => ?_⟩
  unfold lE at h1
  by_cases hk : k < 4
  · rw [List.getElem?_append_left (by simpa using hk)] at h1
    rw [List.getElem?_append_left (by simpa using hk)] at h2
    exact (E0.2.2 k y z h1 h2).ext ⟨_, rfl⟩
  · rw [List.getElem?_append_right (by simp; omega)] at h1
    rw [List.getElem?_append_right (by simp; omega)] at h2
    have h1 : ts[k - 4]? = some y := h1
    have h2 : (ys.map Int32.toInt)[k - 4]? = some z := h2
    obtain ⟨b0, b1, b2⟩ := hb (k - 4) y h1
    rw [List.getElem?_map] at h2
    obtain ⟨w, w1, w2⟩ := Option.map_eq_some_iff.mp h2
    rw [List.getD_eq_getElem?_getD, w1] at b1 b2
    obtain ⟨y1, y2, y3⟩ := y
    have b0 : y1 = 0 := b0
    subst b0
    rw [← w2]
    exact ⟨b1, b2⟩
theorem ltwoB {nf : Bool} {xs : List Int32} {q1 q2 : aQ} {ts : List aY} {e : Option aV → Option aV → List aY → Bool} {ys : List Int32} {h : zH} (c1 : aCon qW qG (zEv (zXt nf xs) zIT zmcl zMt 952) q1 (fun _ => True)) (c2 : aCon qW qG (zEv (zXt nf xs) zIT zmcl zMt 952) q2 (fun _ => True)) (chk : lck q1 q2 ts e = true) (hI : lJ h) (hl : ts.length = ys.length) (hb : ∀ j : Nat, ∀ y : aY, ts[j]? = some y → y.1 = 0 ∧ y.2.1 ≤ (ys.getD j 0).toInt ∧ (ys.getD j 0).toInt ≤ y.2.2) : ∃ (r1 : Option Value) (h1 : zH) (r2 : Option Value) (h2 : zH), zEv (zXt nf xs) zIT zmcl zMt 952 q1.1 (.ref 0 :: ys.map Value.int) h r1 h1 ∧ zEv (zXt nf xs) zIT zmcl zMt 952 q2.1 (.ref 128 :: ys.map Value.int) h1 r2 h2 ∧ aSh qW h1 ∧ lJ h2 ∧ h1.length = h.length ∧ h2.length = h.length ∧ KP q1.2.2.2.2.1 h h1 ∧ KP q2.2.2.2.2.1 h1 h2 ∧ ∃ (E : List aY) (ρ : List Int) (a b : Option aV), aE qW E ρ ∧ arv ρ a r1 ∧ arv ρ b r2 ∧ e a b E = true := by
  obtain ⟨hH, x, x1, x2⟩ := hI
  unfold lck at chk
  split at chk
  · next A hA =>
    have hx : 0 ≤ x.toInt ∧ x.toInt ≤ 700 := by
      obtain ⟨v, g1, g2⟩ := hH.2.1 0 1 (by decide +kernel) (by decide +kernel)
      rw [qrdx (qG_off (by decide) (by decide)), x1] at g1
      cases g1
      rcases g2 with g2 | ⟨e, he, -⟩
      · have ht : apl (afm qW (asrt qW 0)) 1 = (0, 0, 700) := by decide +kernel
        rw [ht] at g2
        obtain ⟨y, y1, y2⟩ := g2
        cases y1
        exact y2
      · cases he
    have hE := lE_ok hx ys ts hl hb
    have hH1 : aH qW qG ([0, 0, 128, x.toInt] ++ ys.map Int32.toInt) lm h := by
      have m1 := aH_add (q := (1, 0, 1)) (b := .inl (3, 0)) (a := 0) (k := 1) (v := .int x) (aH_nil (ρ' := [0, 0, 128, x.toInt] ++ ys.map Int32.toInt) hH) (qden (k := 1) (c := 0) (r := 1) hE (by decide) rfl) (by decide +kernel) (by decide +kernel) (by rw [qrdx (qG_off (by decide) (by decide))]; exact x1) ⟨x, ⟨x.toInt, rfl, by rw [Int.add_zero, Int32.ofInt_toInt]⟩, rfl⟩
      exact aH_add (q := (2, 0, 2)) (b := .inl (3, 0)) (a := 128) (k := 2) (v := .int x) m1 (qden (k := 2) (c := 128) (r := 2) hE (by decide) rfl) (by decide +kernel) (by decide +kernel) (by rw [qrdx (qG_real (by decide +kernel) (by decide +kernel))]; exact x2) ⟨x, ⟨x.toInt, rfl, by rw [Int.add_zero, Int32.ofInt_toInt]⟩, rfl⟩
    have hst : aSt ([0, 0, 128, x.toInt] ++ ys.map Int32.toInt) (lA 4 ts.length) (ys.map Value.int) := by
      rw [hl]
      refine lA_st ys 4 (fun j hj => ⟨(ys.getD j 0).toInt, ?_, by rw [Int32.ofInt_toInt]⟩)
      rw [List.getElem?_append_right (by simp)]
      show (ys.map Int32.toInt)[4 + j - 4]? = _
      rw [show 4 + j - 4 = j by omega, List.getElem?_map, List.getElem?_eq_getElem hj, List.getD_eq_getElem?_getD, List.getElem?_eq_getElem hj]
      rfl
    have hs0 : aSt ([0, 0, 128, x.toInt] ++ ys.map Int32.toInt) (.inr (.inr (.inl 1)) :: lA 4 ts.length) (.ref 0 :: ys.map Value.int) := ⟨.ref 0, _, rfl, ⟨0, rfl, rfl⟩, hst⟩
    obtain ⟨r1, h1, g1, o, o1, ρ1, y1, y2, y3, y4, y5⟩ := acon_use (h0 := h) hA hE hH1 hs0 aF.rf c1 (fun _ _ _ _ _ => trivial)
    have chk := List.all_eq_true.mp chk o o1
    split at chk
    · next Bq hB =>
      have hs1 : aSt ρ1 (.inr (.inr (.inl 2)) :: lA 4 ts.length) (.ref 128 :: ys.map Value.int) := ⟨.ref 128, _, rfl, ⟨128, y1.get rfl, rfl⟩, hst.ext y1⟩
      obtain ⟨r2, h2, g2, p, p1, ρ2, z1, z2, z3, z4, z5⟩ := acon_use (h0 := h1) hB y2 y4 hs1 aF.rf c2 (fun _ _ _ _ _ => trivial)
      have chk := List.all_eq_true.mp chk p p1
      rw [Bool.or_eq_true] at chk
      rcases chk with chk | chk
      · exact (lbad_no z2 chk).elim
      · rw [Bool.and_eq_true] at chk
        obtain ⟨k1, k2⟩ := chk
        unfold lfin at k1
        rw [Bool.and_eq_true] at k1
        obtain ⟨k3, k4⟩ := k1
        obtain ⟨m', hm'⟩ := Option.isSome_iff_exists.mp k3
        obtain ⟨hK, hK2⟩ := akill_ok z2 hm' z4
        have e0 : m' = [] := by
          cases m' with
          | nil => rfl
          | cons a r => cases (hK2 a List.mem_cons_self).2
        subst e0
        refine ⟨r1, h1, r2, h2, g1, g2, y4.1, ⟨aH_nil hK, ?_⟩, y5.1, z5.1.trans y5.1, KP_of y5, KP_of z5, p.1, ρ2, o.2.1, p.2.1, z2, y3.ext z1, z3, k2⟩
        split at k4
        · next v w hv hw =>
          obtain ⟨wv, v1, v2⟩ := qamg (k := 1) (c := 0) (r := 1) z2 z4 (by decide) (z1.get (y1.get rfl)) hv
          obtain ⟨ww, w1, w2⟩ := qamg (k := 2) (c := 128) (r := 2) z2 z4 (by decide) (z1.get (y1.get rfl)) hw
          obtain ⟨u, rfl, rfl⟩ := lsm_ok z2 k4 v2 w2
          rw [qrdx (qG_off (by decide) (by decide))] at v1
          rw [qrdx (qG_real (by decide +kernel) (by decide +kernel))] at w1
          exact ⟨u, v1, w1⟩
        · cases k4
    · cases chk
  · cases chk
end
section
/-! What holds between the passes, besides: references, words, tapes alike. -/
/-- references that never change -/
def rfs : List (Nat × Nat × Nat) := [(0, 0, 1), (0, 4, 2), (0, 7, 55), (0, 8, 70), (0, 13, 116), (0, 14, 120), (2, 0, 3), (2, 1, 6), (3, 0, 4), (55, 0, 56), (55, 1, 57), (70, 0, 71), (70, 1, 72), (116, 0, 117), (116, 1, 118), (116, 2, 119), (120, 0, 121), (120, 1, 122), (120, 2, 123), (120, 3, 124), (128, 1, 129), (128, 69, 170), (128, 70, 171), (128, 71, 172), (128, 72, 173)] ++ [7, 31].flatMap (fun P => (List.range 8).map (fun w => (P, w, P + 1 + 2 * w)) ++ ((List.range 8).map (fun w => (P + 1 + 2 * w, 2, P + 2 + 2 * w)) ++ [(P, 8, P + 17), (P + 17, 0, P + 18), (P + 17, 1, P + 19), (P + 17, 2, P + 20), (P + 17, 3, P + 21), (P + 17, 5, P + 22), (P + 17, 6, P + 23)])) ++ ((List.range 6).map (fun k => (56, k, 58 + 2 * k)) ++ ((List.range 6).map (fun k => (58 + 2 * k, 9, 58 + 2 * k + 1)) ++ ((List.range 6).map (fun k => (71, k, 73 + 2 * k)) ++ ((List.range 6).map (fun k => (73 + 2 * k, 9, 73 + 2 * k + 1)) ++ ((List.range 18).map (fun k => (128, 3 + k, 130 + k)) ++ (List.range 15).map (fun k => (128, 37 + k, 150 + k)))))))
def lXb (h : zH) : Prop := KT h ∧ (∀ t ∈ rfs, rd h t.1 t.2.1 = some (.ref t.2.2)) ∧ (∃ P S : Nat, (P = 7 ∧ S = 31 ∨ P = 31 ∧ S = 7) ∧ rd h 0 5 = some (.ref P) ∧ rd h 0 6 = some (.ref S)) ∧ (∀ i : Nat, i < 22 → rd h 4 i = some (.int (wcs.getD i 0))) ∧ (∀ i : Nat, i < 700 → gi h 1 i = gi h 129 i) ∧ gi h 0 2 = gi h 128 30 ∧ gi h 0 3 = gi h 128 31
/-- the class's plan and the reference's first halves hold the same tables -/
def lT (h : zH) : Prop := (rd h 3 1 = some (.ref 1) ∨ rd h 3 1 = some (.ref 5)) ∧ ∃ (P : Nat) (T : Nat → List (List Int32)), (P = 7 ∨ P = 31) ∧ rd h 0 5 = some (.ref P) ∧ (∀ w : Nat, w < 8 → tbC (P + 1 + 2 * w) (P + 2 + 2 * w) (cN w) (mN w) (T w) (gi h)) ∧ TB T (gi h)
def lX (h : zH) : Prop := KT h ∧ lXb h ∧ lT h
def lInvX (h : zH) : Prop := lJ h ∧ lX h
/-- places that are there -/
def inW (a k : Nat) : Bool := Nat.blt a qW.1.length && Nat.blt k (afm qW (asrt qW a)).2.2.1
theorem inW_ok {a k : Nat} (h : inW a k = true) : a < qW.1.length ∧ k < (afm qW (asrt qW a)).2.2.1 := by
  unfold inW at h
  rw [Bool.and_eq_true] at h
  exact ⟨Nat.le_of_ble_eq_true h.1, Nat.le_of_ble_eq_true h.2⟩
theorem rfs_in : rfs.all (fun t => inW t.1 t.2.1) = true := by decide +kernel
theorem row_in : inW 0 5 = true ∧ inW 0 6 = true ∧ inW 4 21 = true ∧ inW 1 699 = true ∧ inW 129 699 = true := by decide +kernel
theorem inW_dn {a j k : Nat} (h : inW a k = true) (hj : j ≤ k) : inW a j = true := by
  obtain ⟨h1, h2⟩ := inW_ok h
  unfold inW
  rw [Bool.and_eq_true]
  exact ⟨Nat.ble_eq_true_of_le h1, Nat.ble_eq_true_of_le (by omega)⟩
/-- what a call may not write, that all this stays: the references, .. -/
def xk0 (M : List aD) : Bool := rfs.all (fun t => kf M t.1 t.2.1) && ks M 4
/-- .., plan and spare, .. -/
def xk1 (M : List aD) : Bool := kf M 0 5 && kf M 0 6
/-- .. the tapes -/
def xk2 (M : List aD) : Bool := ks M 1 && ks M 50
/-- .., the latest fault -/
def xk3 (M : List aD) : Bool := kf M 0 2 && (kf M 0 3 && (kf M 128 30 && kf M 128 31))
def xkb (M : List aD) : Bool := xk0 M && (xk1 M && (xk2 M && xk3 M))
theorem flt_in : inW 0 2 = true ∧ inW 0 3 = true ∧ inW 128 30 = true ∧ inW 128 31 = true := by decide +kernel
theorem KP.pl {M : List aD} {h0 h : zH} {a k : Nat} (hp : KP M h0 h) (hi : inW a k = true) (hk : kf M a k = true) : rd h a k = rd h0 a k := hp a k (inW_ok hi).1 (inW_ok hi).2 hk
theorem KP.rf {M : List aD} {h0 h : zH} (hp : KP M h0 h) (hk : xk0 M = true) (hr : ∀ t ∈ rfs, rd h0 t.1 t.2.1 = some (.ref t.2.2)) : ∀ t ∈ rfs, rd h t.1 t.2.1 = some (.ref t.2.2) := fun t ht => by
  unfold xk0 at hk
  rw [Bool.and_eq_true] at hk
  rw [hp.pl (List.all_eq_true.mp rfs_in t ht) (List.all_eq_true.mp hk.1 t ht)]
  exact hr t ht
theorem KP.wd {M : List aD} {h0 h : zH} (hp : KP M h0 h) (hk : xk0 M = true) (hr : ∀ i : Nat, i < 22 → rd h0 4 i = some (.int (wcs.getD i 0))) : ∀ i : Nat, i < 22 → rd h 4 i = some (.int (wcs.getD i 0)) := fun i hi => by
  unfold xk0 at hk
  rw [Bool.and_eq_true] at hk
  rw [hp.pl (inW_dn row_in.2.2.1 (by omega)) (ks_kf hk.2 (by decide +kernel))]
  exact hr i hi
theorem gi_rd {h h0 : zH} {a k : Nat} (e : rd h a k = rd h0 a k) : gi h a k = gi h0 a k := by
  show xi (rd h a k) = xi (rd h0 a k)
  rw [e]
theorem KP.tp {M : List aD} {h0 h : zH} (hp : KP M h0 h) (hk : xk2 M = true) {i : Nat} (hi : i < 700) : gi h 1 i = gi h0 1 i ∧ gi h 129 i = gi h0 129 i := by
  unfold xk2 at hk
  rw [Bool.and_eq_true] at hk
  exact ⟨gi_rd (hp.pl (inW_dn row_in.2.2.2.1 (by omega)) (ks_kf hk.1 (by decide +kernel))), gi_rd (hp.pl (inW_dn row_in.2.2.2.2 (by omega)) (ks_kf hk.2 (by decide +kernel)))⟩
theorem KP.ps {M : List aD} {h0 h : zH} (hp : KP M h0 h) (hk : xk1 M = true) : rd h 0 5 = rd h0 0 5 ∧ rd h 0 6 = rd h0 0 6 := by
  unfold xk1 at hk
  rw [Bool.and_eq_true] at hk
  exact ⟨hp.pl row_in.1 hk.1, hp.pl row_in.2.1 hk.2⟩
theorem KP.ft {M : List aD} {h0 h : zH} (hp : KP M h0 h) (hk : xk3 M = true) : gi h 0 2 = gi h0 0 2 ∧ gi h 0 3 = gi h0 0 3 ∧ gi h 128 30 = gi h0 128 30 ∧ gi h 128 31 = gi h0 128 31 := by
  unfold xk3 at hk
  simp only [Bool.and_eq_true] at hk
  exact ⟨gi_rd (hp.pl flt_in.1 hk.1), gi_rd (hp.pl flt_in.2.1 hk.2.1), gi_rd (hp.pl flt_in.2.2.1 hk.2.2.1), gi_rd (hp.pl flt_in.2.2.2 hk.2.2.2)⟩
theorem lXb_keep {M : List aD} {h0 h : zH} (hX : lXb h0) (hT : KT h) (hp : KP M h0 h) (hk : xkb M = true) : lXb h := by
  obtain ⟨x1, x2, ⟨P, S, x3, x4, x5⟩, x6, x7, x8, x9⟩ := hX
  unfold xkb at hk
  rw [Bool.and_eq_true, Bool.and_eq_true, Bool.and_eq_true] at hk
  obtain ⟨f1, f2, f3, f4⟩ := hp.ft hk.2.2.2
  refine ⟨hT, hp.rf hk.1 x2, ⟨P, S, x3, ?_, ?_⟩, hp.wd hk.1 x6, fun i hi => ?_, by rw [f1, f3]; exact x8, by rw [f2, f4]; exact x9⟩
  · rw [(hp.ps hk.2.1).1]; exact x4
  · rw [(hp.ps hk.2.1).2]; exact x5
  · rw [(hp.tp hk.2.2.1 hi).1, (hp.tp hk.2.2.1 hi).2]; exact x7 i hi
theorem lXb_junk {h : zH} (k : Nat) (hl : 176 ≤ h.length) (hX : lXb h) (hr : ∀ a j : Nat, a < h.length → rd (h ++ List.replicate k zjunk) a j = rd h a j) : lXb (h ++ List.replicate k zjunk) := by
  obtain ⟨x1, x2, ⟨P, S, x3, x4, x5⟩, x6, x7, x8, x9⟩ := hX
  have hW : qW.1.length = 176 := by decide +kernel
  refine ⟨KT_junk k x1, fun t ht => ?_, ⟨P, S, x3, ?_, ?_⟩, fun i hi => ?_, fun i hi => ?_, by rw [gi_rd (hr 0 2 (by omega)), gi_rd (hr 128 30 (by omega))]; exact x8, by rw [gi_rd (hr 0 3 (by omega)), gi_rd (hr 128 31 (by omega))]; exact x9⟩
  · have := (inW_ok (List.all_eq_true.mp rfs_in t ht)).1
    rw [hr _ _ (by omega)]; exact x2 t ht
  · rw [hr _ _ (by omega)]; exact x4
  · rw [hr _ _ (by omega)]; exact x5
  · rw [hr _ _ (by omega)]; exact x6 i hi
  · rw [gi_rd (hr 1 i (by omega)), gi_rd (hr 129 i (by omega))]; exact x7 i hi
/-- places of the reference's first halves -/
def fhL : List (Nat × Nat) := [(130, 9), (131, 6), (132, 6), (133, 6), (134, 6), (135, 6), (136, 6), (137, 6), (138, 6), (140, 5), (141, 5), (142, 3), (143, 3)]
def xkr (M : List aD) : Bool := fhL.all (fun q => (List.range q.2).all (fun k => kf M q.1 k))
/-- the class's tables at P -/
def xkp (M : List aD) (P : Nat) : Bool := (List.range 8).all (fun w => kf M (P + 1 + 2 * w) 0 && (kf M (P + 1 + 2 * w) 1 && (kf M (P + 1 + 2 * w) 3 && (List.range 40).all (fun k => !(inW (P + 2 + 2 * w) k) || kf M (P + 2 + 2 * w) k))))
def xkc (M : List aD) : Bool := kf M 0 5 && (kf M 3 1 && (xkp M 7 && xkp M 31))
def xkt (M : List aD) : Bool := xkr M && xkc M
theorem fhL_in : fhL.all (fun q => (List.range q.2).all (fun k => inW q.1 k)) = true := by decide +kernel
theorem fhL_of {a k : Nat} (h : fhp a k) : ∃ n : Nat, (a, n) ∈ fhL ∧ k < n := by
  rcases h with ⟨rfl, h⟩ | ⟨⟨h1, h2⟩, h⟩ | ⟨rfl | rfl, h⟩ | ⟨rfl | rfl, h⟩
  · exact ⟨9, by decide, h⟩
  · rcases (show a = 131 ∨ a = 132 ∨ a = 133 ∨ a = 134 ∨ a = 135 ∨ a = 136 ∨ a = 137 ∨ a = 138 by omega) with rfl | rfl | rfl | rfl | rfl | rfl | rfl | rfl
    all_goals exact ⟨6, by decide, h⟩
  · exact ⟨5, by decide, h⟩
  · exact ⟨5, by decide, h⟩
  · exact ⟨3, by decide, h⟩
  · exact ⟨3, by decide, h⟩
theorem KP.fm {M : List aD} {h0 h : zH} (hp : KP M h0 h) (hk : xkr M = true) : FM0 (gi h0) (gi h) := fun a k q => by
  obtain ⟨n, hn, hk2⟩ := fhL_of q
  exact gi_rd (hp.pl (List.all_eq_true.mp (List.all_eq_true.mp fhL_in _ hn) k (List.mem_range.mpr hk2)) (List.all_eq_true.mp (List.all_eq_true.mp hk _ hn) k (List.mem_range.mpr hk2)))
def tin (P w : Nat) : Bool := inW (P + 1 + 2 * w) 0 && (inW (P + 1 + 2 * w) 1 && (inW (P + 1 + 2 * w) 3 && (List.range (mN w * cN w)).all (fun k => inW (P + 2 + 2 * w) k)))
theorem tin_ok : (List.range 8).all (fun w => tin 7 w && tin 31 w) = true := by decide +kernel
theorem mc_le (w : Nat) : mN w * cN w ≤ 40 := by
  have h1 := (mN_b w).1
  have h2 := (cN_b w).1
  exact Nat.le_trans (Nat.mul_le_mul h1 h2) (by decide)
theorem mc_lt {r k a b : Nat} (hr : r < a) (hk : k < b) : r * b + k < a * b := by
  have := Nat.mul_le_mul_right b (show r + 1 ≤ a from hr)
  rw [Nat.add_mul, Nat.one_mul] at this
  omega
theorem tbC_pl {t c cols most : Nat} {rows : List (List Int32)} {m m' : xM} (h : tbC t c cols most rows m) (h0 : m' t 0 = m t 0) (h1 : m' t 1 = m t 1) (h3 : m' t 3 = m t 3) (hc : ∀ j : Nat, j < most * cols → m' c j = m c j) : tbC t c cols most rows m' :=
  ⟨h0.trans h.1, h1.trans h.2.1, h3.trans h.2.2.1, h.2.2.2.1, fun r hr k hk => (hc _ (mc_lt (Nat.lt_of_lt_of_le hr h.2.2.2.1) hk)).trans (h.2.2.2.2 r hr k hk)⟩
theorem KP.tc {M : List aD} {h0 h : zH} {P : Nat} {T : Nat → List (List Int32)} (hp : KP M h0 h) (hP : P = 7 ∨ P = 31) (hk : xkp M P = true) (ht : ∀ w : Nat, w < 8 → tbC (P + 1 + 2 * w) (P + 2 + 2 * w) (cN w) (mN w) (T w) (gi h0)) : ∀ w : Nat, w < 8 → tbC (P + 1 + 2 * w) (P + 2 + 2 * w) (cN w) (mN w) (T w) (gi h) := fun w hw => by
  have i1 := List.all_eq_true.mp tin_ok w (List.mem_range.mpr hw)
  rw [Bool.and_eq_true] at i1
  have i2 : tin P w = true := by
    rcases hP with rfl | rfl
    · exact i1.1
    · exact i1.2
  unfold tin at i2
  rw [Bool.and_eq_true, Bool.and_eq_true, Bool.and_eq_true] at i2
  have k1 := List.all_eq_true.mp hk w (List.mem_range.mpr hw)
  rw [Bool.and_eq_true, Bool.and_eq_true, Bool.and_eq_true] at k1
  refine tbC_pl (ht w hw) (gi_rd (hp.pl i2.1 k1.1)) (gi_rd (hp.pl i2.2.1 k1.2.1)) (gi_rd (hp.pl i2.2.2.1 k1.2.2.1)) (fun j hj => ?_)
  have i3 := List.all_eq_true.mp i2.2.2.2 j (List.mem_range.mpr hj)
  have k3 := List.all_eq_true.mp k1.2.2.2 j (List.mem_range.mpr (Nat.lt_of_lt_of_le hj (mc_le w)))
  try dsimp only at k3
  rw [i3] at k3
  exact gi_rd (hp.pl i3 k3)
theorem p31_in : inW 3 1 = true := by decide +kernel
theorem xkp_of {M : List aD} {P : Nat} (hP : P = 7 ∨ P = 31) (hk : xkc M = true) : xkp M P = true := by
  unfold xkc at hk
  rw [Bool.and_eq_true, Bool.and_eq_true, Bool.and_eq_true] at hk
  rcases hP with rfl | rfl
  · exact hk.2.2.1
  · exact hk.2.2.2
theorem lT_keep {M : List aD} {h0 h : zH} (hT : lT h0) (hp : KP M h0 h) (hk : xkt M = true) : lT h := by
  obtain ⟨t1, P, T, hP, t2, t3, t4⟩ := hT
  unfold xkt at hk
  rw [Bool.and_eq_true] at hk
  have k2 := hk.2
  unfold xkc at k2
  rw [Bool.and_eq_true, Bool.and_eq_true] at k2
  refine ⟨?_, P, T, hP, ?_, hp.tc hP (xkp_of hP hk.2) t3, t4.of (hp.fm hk.1)⟩
  · rw [hp.pl p31_in k2.2.1]; exact t1
  · rw [hp.pl row_in.1 k2.1]; exact t2
theorem lT_junk {h : zH} (k : Nat) (hl : 176 ≤ h.length) (hT : lT h) (hr : ∀ a j : Nat, a < h.length → rd (h ++ List.replicate k zjunk) a j = rd h a j) : lT (h ++ List.replicate k zjunk) := by
  obtain ⟨t1, P, T, hP, t2, t3, t4⟩ := hT
  have e : ∀ a : Nat, a < 176 → ∀ j : Nat, gi (h ++ List.replicate k zjunk) a j = gi h a j := fun a ha j => gi_rd (hr a j (by omega))
  refine ⟨by rw [hr 3 1 (by omega)]; exact t1, P, T, hP, by rw [hr 0 5 (by omega)]; exact t2, fun w hw => ?_, t4.of (fun a j q => ?_)⟩
  · exact tbC_row (t3 w hw) (funext (e _ (by omega))) (funext (e _ (by omega)))
  · exact e a (by have := fhp_b q; omega) j
def xk (M : List aD) : Bool := xkb M && xkt M
theorem xkr_of {M : List aD} (h : xk M = true) : xkr M = true := by
  unfold xk xkt at h
  rw [Bool.and_eq_true, Bool.and_eq_true] at h
  exact h.2.1
theorem lX_keep {M : List aD} {h0 h : zH} (hX : lX h0) (hT : KT h) (hp : KP M h0 h) (hk : xk M = true) : lX h := by
  unfold xk at hk
  rw [Bool.and_eq_true] at hk
  exact ⟨hT, lXb_keep hX.2.1 hT hp hk.1, lT_keep hX.2.2 hp hk.2⟩
theorem lX_junk {h : zH} (k : Nat) (hl : 176 ≤ h.length) (hX : lX h) (hr : ∀ a j : Nat, a < h.length → rd (h ++ List.replicate k zjunk) a j = rd h a j) : lX (h ++ List.replicate k zjunk) := ⟨KT_junk k hX.1, lXb_junk k hl hX.2.1 hr, lT_junk k hl hX.2.2 hr⟩
theorem zGo_KT {nf : Bool} {xs : List Int32} {I : zI} {mcl : Nat → Nat} {mt : zM} {d c : Nat} {ini : Bool} {nL : Nat} {tab : Nat → Option (Instr × Nat)} : ∀ (n : Nat) (a b : zSt), zGo (zXt nf xs) I mcl (zEv (zXt nf xs) I mcl mt d) c ini nL tab n a b → KT a.2.2.2 → KT b.2.2.2 := by
  intro n
  induction n with
  | zero =>
    intro a b q hK
    have q : a = b := q
    subst q
    exact hK
  | succ n ih =>
    intro a b q hK
    obtain ⟨i, len, -, q⟩ := q
    rcases q with ⟨s1, q1, q2⟩ | ⟨rest, -, q2⟩ | ⟨mi, as, rest, r1, h1, -, q1, q2⟩
    · obtain ⟨p1, l1, t1, h1⟩ := s1
      exact ih _ _ q2 (zstep_KT hK q1)
    · exact ih _ _ q2 hK
    · exact ih _ _ q2 (zEv_KT _ _ _ _ _ _ q1 hK)
end
section
/-! feed and text, of both sides, between the passes. -/
theorem xsh_of {f : aT} {e : zE} (h : ash f e) : xsh (some e) = (f.1, [0, 1, 1, 2, 3].getD f.2.1 9, f.2.2.1) := by
  obtain ⟨f1, f2, f3, f4⟩ := f
  obtain ⟨t, v⟩ := e
  obtain ⟨h1, h2⟩ := h
  have h1 : t = f1 := h1
  subst h1
  rcases f2 with _ | _ | _ | _ | _ | f2 <;> rcases v with l | l | l | fs
  all_goals first
    | exact h2.elim
    | (have h2 : _ = f3 := h2; subst h2; rfl)
theorem gs_of {h : zH} {a : Nat} (hS : aSh qW h) (ha : a < qW.1.length) : gs h a = ((afm qW (asrt qW a)).1, [0, 1, 1, 2, 3].getD (afm qW (asrt qW a)).2.1 9, (afm qW (asrt qW a)).2.2.1) := by
  obtain ⟨e, h1, h2⟩ := hS a ha
  show xsh h[a]? = _
  rw [h1]
  exact xsh_of h2
/-- an int within its type -/
theorem iv_of {h : zH} {a k : Nat} {l u : Int} (hH : aH qW qG [0] [] h) (hi : inW a k = true) (ht : apl (afm qW (asrt qW a)) k = (0, l, u)) : ∃ x : Int32, rd h a k = some (.int x) ∧ gi h a k = x ∧ l ≤ x.toInt ∧ x.toInt ≤ u := by
  obtain ⟨h1, h2⟩ := inW_ok hi
  obtain ⟨v, g1, g2⟩ := hH.2.1 a k h1 (Nat.lt_of_lt_of_le h2 (apn_le _))
  rw [qrdx (qG_real h1 h2)] at g1
  rcases g2 with g2 | ⟨e, he, -⟩
  · rw [ht] at g2
    obtain ⟨x, rfl, q1, q2⟩ := g2
    refine ⟨x, g1, ?_, q1, q2⟩
    show xi (rd h a k) = x
    rw [g1]
    rfl
  · cases he
theorem gr_of {h : zH} {a k b : Nat} (e : rd h a k = some (.ref b)) : gr h a k = some b := by
  show xr (rd h a k) = some b
  rw [e]
  rfl
theorem rd_of {h : zH} {a k b : Nat} (e : gr h a k = some b) : rd h a k = some (.ref b) := by
  have e : xr (rd h a k) = some b := e
  unfold xr at e
  split at e
  · next x hx => rw [hx, Option.some.inj e]
  · cases e
theorem rf_of {h : zH} (hr : ∀ t ∈ rfs, rd h t.1 t.2.1 = some (.ref t.2.2)) {a k b : Nat} (hm : (a, k, b) ∈ rfs) : gr h a k = some b := gr_of (hr _ hm)
/-- the row of a whole array stays -/
theorem row_eq {h h0 : zH} {a b L t t' : Nat} (e1 : gs h a = (t, 1, L)) (e2 : gs h0 b = (t', 1, L)) (h1 : ∀ i : Nat, i < L → gi h a i = gi h0 b i) : gi h a = gi h0 b := by
  have z : ∀ (h : zH) (a t : Nat), gs h a = (t, 1, L) → ∀ i : Nat, L ≤ i → gi h a i = 0 := by
    intro h a t e i hi
    show xi (rd h a i) = 0
    have e : xsh h[a]? = (t, 1, L) := e
    unfold rd
    cases hq : h[a]? with
    | none => rfl
    | some w =>
      obtain ⟨t, v⟩ := w
      rw [hq] at e
      rcases v with l | l | l | fs
      · cases e
        show xi (l[i]?.map Value.int) = 0
        rw [List.getElem?_eq_none hi]
        rfl
      · cases e
      · cases e
      · cases e
  funext i
  rcases Nat.lt_or_ge i L with q | q
  · exact h1 i q
  · rw [z h a t e1 i q, z h0 b t' e2 i q]
theorem gs_tp {h : zH} (hS : aSh qW h) : gs h 1 = (0, 1, 700) ∧ gs h 129 = (0, 1, 700) := ⟨(gs_of hS (by decide +kernel)).trans (by decide +kernel), (gs_of hS (by decide +kernel)).trans (by decide +kernel)⟩
theorem tp_eq {h : zH} (hS : aSh qW h) (hX : lXb h) : gi h 1 = gi h 129 := row_eq (gs_tp hS).1 (gs_tp hS).2 hX.2.2.2.2.1
theorem tp_keep {M : List aD} {h0 h : zH} (hS0 : aSh qW h0) (hS : aSh qW h) (hp : KP M h0 h) (a s : Nat) (ha : a = 1 ∧ s = 1 ∨ a = 129 ∧ s = 50) (hk : ks M s = true) : gi h a = gi h0 a := by
  rcases ha with ⟨rfl, rfl⟩ | ⟨rfl, rfl⟩
  · exact row_eq (gs_tp hS).1 (gs_tp hS0).1 (fun i hi => gi_rd (hp.pl (inW_dn row_in.2.2.2.1 (by omega)) (ks_kf hk (by decide +kernel))))
  · exact row_eq (gs_tp hS).2 (gs_tp hS0).2 (fun i hi => gi_rd (hp.pl (inW_dn row_in.2.2.2.2 (by omega)) (ks_kf hk (by decide +kernel))))
/-- the tape's length -/
theorem len_of {h : zH} (hJ : lJ h) : ∃ p : Nat, p ≤ 700 ∧ gi h 0 1 = Int32.ofNat p ∧ rd h 128 2 = some (.int (Int32.ofNat p)) := by
  obtain ⟨hH, v, v1, v2⟩ := hJ
  obtain ⟨x, g1, g2, g3, g4⟩ := iv_of (a := 0) (k := 1) (l := 0) (u := 700) hH (by decide +kernel) (by decide +kernel)
  rw [v1] at g1
  cases g1
  have e := xn_of g3
  refine ⟨v.toNatClampNeg, by rw [Int32.toNatClampNeg]; omega, by rw [g2]; exact e, by rw [v2, ← e]⟩
def fdM (M : List aD) : Bool := xk0 M && (xk1 M && kf M 128 2)
/-- feed -/
theorem feed_pair {nf : Bool} {xs : List Int32} {d : Nat} {h h1 h2 : zH} {r1 r2 : Option Value} {a b c e f : Int32} {M1 M2 : List aD} (hI : lInvX h) (e1 : zEv (zXt nf xs) zIT zmcl zMt d 98 [.ref 0, .int a, .int b, .int c, .int e, .int f] h r1 h1) (e2 : zEv (zXt nf xs) zIT zmcl zMt d 150 [.ref 128, .int a, .int b, .int c, .int e, .int f] h1 r2 h2) (S1 : aSh qW h1) (S2 : aSh qW h2) (k1 : KP M1 h h1) (k2 : KP M2 h1 h2) (q1 : fdM M1 = true) (q2 : xk0 M2 = true) (q3 : xk1 M2 = true) (q4 : ks M1 50 = true) (q5 : ks M2 1 = true) (q6 : xk3 M1 = true) (q7 : xk3 M2 = true) (q8 : xkt M1 = true) (q9 : xkt M2 = true) : lX h2 := by
  obtain ⟨hJ, -, hX, hT0⟩ := hI
  have hS := hJ.1.1
  obtain ⟨p, hp, p1, p2⟩ := len_of hJ
  have t1 := zEv_KT _ _ _ _ _ _ e1 hX.1
  have t2 := zEv_KT _ _ _ _ _ _ e2 t1
  unfold fdM at q1
  rw [Bool.and_eq_true, Bool.and_eq_true] at q1
  obtain ⟨x1, x2, ⟨P, S, x3, x4, x5⟩, x6, x7, x8, x9⟩ := hX
  have hr1 := k1.rf q1.1 x2
  have hT := tp_eq hS ⟨x1, x2, ⟨P, S, x3, x4, x5⟩, x6, x7, x8, x9⟩
  obtain ⟨f1, f2, f3, f4⟩ := k1.ft q6
  obtain ⟨f5, f6, f7, f8⟩ := k2.ft q7
  obtain ⟨m1, g1, hs1, c1⟩ := ct_feedC (rf_of x2 (by decide +kernel)) p1 hp h r1 h1 (HS_of x1) e1
  have em1 : gi h1 = m1 := hs1.2.1
  have p3 : gi h1 128 2 = Int32.ofNat p := by
    show xi (rd h1 128 2) = _
    rw [k1.pl (by decide +kernel) q1.2.2, p2]
    rfl
  obtain ⟨m2, g2, hs2, c2⟩ := ct_feedR (rf_of hr1 (by decide +kernel)) p3 hp h1 r2 h2 (HS_of t1) e2
  have em2 : gi h2 = m2 := hs2.2.1
  have u1 := tp_keep hS S1 k1 129 50 (Or.inr ⟨rfl, rfl⟩) q4
  have u2 := tp_keep S1 S2 k2 1 1 (Or.inl ⟨rfl, rfl⟩) q5
  have ht : gi h2 1 = gi h2 129 := by
    rw [u2, em1, em2]
    rcases c1 with ⟨c1, c1'⟩ | ⟨c1, c1'⟩
    · rcases c2 with ⟨c2, c2'⟩ | ⟨c2, c2'⟩
      · rw [c1', c2', u1, hT]
      · omega
    · rcases c2 with ⟨c2, c2'⟩ | ⟨c2, c2'⟩
      · omega
      · rw [c1', c2', u1, hT]
        exact fdN_eq 20 0 _ (fun j _ hj => by_same j (by omega))
  refine ⟨t2, ⟨t2, k2.rf q2 hr1, ⟨P, S, x3, ?_, ?_⟩, k2.wd q2 (k1.wd q1.1 x6), fun i _ => by rw [ht], by rw [f5, f7, f1, f3]; exact x8, by rw [f6, f8, f2, f4]; exact x9⟩, lT_keep (lT_keep hT0 k1 q8) k2 q9⟩
  · rw [(k2.ps q3).1, (k1.ps q1.2.1).1]; exact x4
  · rw [(k2.ps q3).2, (k1.ps q1.2.1).2]; exact x5
/-! text -/
theorem P_m1 {P : Nat} (hP : P = 7 ∨ P = 31) : ∀ w : Nat, w < 8 → (P, w, P + 1 + 2 * w) ∈ rfs := by
  rcases hP with rfl | rfl <;> decide +kernel
theorem P_m2 {P : Nat} (hP : P = 7 ∨ P = 31) : ∀ w : Nat, w < 8 → (P + 1 + 2 * w, 2, P + 2 + 2 * w) ∈ rfs := by
  rcases hP with rfl | rfl <;> decide +kernel
theorem P_m3 {P : Nat} (hP : P = 7 ∨ P = 31) : (P, 8, P + 17) ∈ rfs := by
  rcases hP with rfl | rfl <;> decide +kernel
theorem P_m4 {P : Nat} (hP : P = 7 ∨ P = 31) : ∀ w : Nat, w < 4 → (P + 17, w, P + 18 + w) ∈ rfs := by
  rcases hP with rfl | rfl <;> decide +kernel
theorem P_m {P : Nat} (hP : P = 7 ∨ P = 31) : (∀ w : Nat, w < 8 → (P, w, P + 1 + 2 * w) ∈ rfs ∧ (P + 1 + 2 * w, 2, P + 2 + 2 * w) ∈ rfs) ∧ (P, 8, P + 17) ∈ rfs ∧ (P + 17, 0, P + 18) ∈ rfs ∧ (P + 17, 1, P + 19) ∈ rfs ∧ (P + 17, 2, P + 20) ∈ rfs ∧ (P + 17, 3, P + 21) ∈ rfs := ⟨fun w hw => ⟨P_m1 hP w hw, P_m2 hP w hw⟩, P_m3 hP, P_m4 hP 0 (by decide), P_m4 hP 1 (by decide), P_m4 hP 2 (by decide), P_m4 hP 3 (by decide)⟩
def psB (P w : Nat) : Bool := Nat.blt (P + 2 + 2 * w) qW.1.length && (Nat.beq (afm qW (asrt qW (P + 2 + 2 * w))).1 0 && (Nat.beq (afm qW (asrt qW (P + 2 + 2 * w))).2.1 1 && (inW (P + 1 + 2 * w) 0 && (inW (P + 1 + 2 * w) 1 && (decide (apl (afm qW (asrt qW (P + 1 + 2 * w))) 0 = (0, (cN w : Int), (cN w : Int))) && decide (apl (afm qW (asrt qW (P + 1 + 2 * w))) 1 = (0, (mN w : Int), (mN w : Int))))))))
theorem psB_ok : (List.range 8).all (psB 7) = true ∧ (List.range 8).all (psB 31) = true := ⟨by decide +kernel, by decide +kernel⟩
theorem P_s {P : Nat} (hP : P = 7 ∨ P = 31) : (∀ w : Nat, w < 8 → P + 2 + 2 * w < qW.1.length ∧ (afm qW (asrt qW (P + 2 + 2 * w))).1 = 0 ∧ (afm qW (asrt qW (P + 2 + 2 * w))).2.1 = 1 ∧ inW (P + 1 + 2 * w) 0 = true ∧ inW (P + 1 + 2 * w) 1 = true ∧ apl (afm qW (asrt qW (P + 1 + 2 * w))) 0 = (0, (cN w : Int), (cN w : Int)) ∧ apl (afm qW (asrt qW (P + 1 + 2 * w))) 1 = (0, (mN w : Int), (mN w : Int))) ∧ P + 21 < qW.1.length ∧ afm qW (asrt qW (P + 21)) = (0, 1, 3, [(0, -1, 64)]) := by
  refine ⟨fun w hw => ?_, by rcases hP with rfl | rfl <;> decide +kernel, by rcases hP with rfl | rfl <;> decide +kernel⟩
  have h1 : psB P w = true := by
    rcases hP with rfl | rfl
    · exact List.all_eq_true.mp psB_ok.1 w (List.mem_range.mpr hw)
    · exact List.all_eq_true.mp psB_ok.2 w (List.mem_range.mpr hw)
  unfold psB at h1
  simp only [Bool.and_eq_true] at h1
  obtain ⟨a1, a2, a3, a4, a5, a6, a7⟩ := h1
  exact ⟨Nat.le_of_ble_eq_true a1, Nat.eq_of_beq_eq_true a2, Nat.eq_of_beq_eq_true a3, a4, a5, of_decide_eq_true a6, of_decide_eq_true a7⟩
theorem gc_of {h : zH} {P S : Nat} (hS : aSh qW h) (hr : ∀ t ∈ rfs, rd h t.1 t.2.1 = some (.ref t.2.2)) (hP : P = 7 ∨ P = 31) (h5 : rd h 0 5 = some (.ref S)) (h6 : rd h 0 6 = some (.ref P)) : GC (gr h, gs h) P S := by
  have hb : 7 ≤ P ∧ P ≤ 31 := by omega
  obtain ⟨m1, m2, m3, m4, m5, m6⟩ := P_m hP
  obtain ⟨s1, s2, s3⟩ := P_s hP
  have sh : ∀ w : Nat, w < 8 → ∃ len : Nat, gs h (P + 2 + 2 * w) = (0, 1, len) := fun w hw => by
    obtain ⟨a1, a2, a3, -⟩ := s1 w hw
    exact ⟨_, by rw [gs_of hS a1, a2, a3]; rfl⟩
  have o : ∀ {a k b : Nat}, (a, k, b) ∈ rfs → ¬ a = 3 → (xgu (gr h, gs h) 3 1 1).1 a k = some b := fun hm ha => (xgu_oth (fun q => ha q.1)).trans (rf_of hr hm)
  refine ⟨⟨⟨?_, xgu_same, (gs_tp hS).1, ?_⟩, o (by decide +kernel) (by decide), o (by decide +kernel) (by decide), ?_, hb.1, fun w hw => ⟨o (m1 w hw).1 (by omega), o (m1 w hw).2 (by omega), sh w hw⟩, o m2 (by omega), o m3 (by omega), o m4 (by omega), o m5 (by omega), o m6 (by omega), ?_⟩, ⟨rf_of hr (by decide +kernel), rf_of hr (by decide +kernel), fun k hk => ⟨rf_of hr ?_, rf_of hr ?_⟩, rf_of hr (m1 1 (by decide)).1, rf_of hr (m1 3 (by decide)).1, rf_of hr (m1 1 (by decide)).2, rf_of hr (m1 3 (by decide)).2, sh 1 (by decide), sh 3 (by decide), hb.2⟩, rf_of hr (by decide +kernel), rf_of hr (by decide +kernel), gr_of h5, gr_of h6, rf_of hr (by decide +kernel), rf_of hr (by decide +kernel), rf_of hr (by decide +kernel)⟩
  · exact (xgu_oth (by decide)).trans (rf_of hr (by decide +kernel))
  · exact (gs_of hS (by decide +kernel)).trans (by decide +kernel)
  · exact (gs_of hS (by decide +kernel)).trans (by decide +kernel)
  · exact (gs_of hS s2).trans (by rw [s3]; rfl)
  · exact (by decide +kernel : ∀ k : Nat, k < 6 → (56, k, 58 + 2 * k) ∈ rfs) k hk
  · exact (by decide +kernel : ∀ k : Nat, k < 6 → (58 + 2 * k, 9, 58 + 2 * k + 1) ∈ rfs) k hk
/-- refs come only from places that hold refs -/
theorem ref_at {h : zH} {a k b t n : Nat} {kd : Nat} (hK : KT h) (hs : gs h a = (t, kd, n)) (hr : gr h a k = some b) : kd = 3 ∨ (kd = 0 ∧ k < n ∧ xty (ztyT t k) = 3) := by
  have hr := rd_of hr
  have hs : xsh h[a]? = (t, kd, n) := hs
  unfold rd at hr
  cases hq : h[a]? with
  | none => rw [hq] at hr; cases hr
  | some w =>
    obtain ⟨t', v⟩ := w
    rw [hq] at hr hs
    rcases v with l | l | l | fs
    · have hr : l[k]?.map Value.int = some (.ref b) := hr
      cases hz : l[k]? <;> (rw [hz] at hr; cases hr)
    · have hr : l[k]?.map Value.long = some (.ref b) := hr
      cases hz : l[k]? <;> (rw [hz] at hr; cases hr)
    · cases hs; exact Or.inl rfl
    · cases hs
      refine Or.inr ⟨rfl, (List.getElem?_eq_some_iff.mp hr).1, ?_⟩
      rw [← hK _ _ _ _ _ hq hr]
      rfl
theorem no_at {h : zH} {a k b : Nat} (hs : gs h a = (0, 9, 0)) (hr : gr h a k = some b) : False := by
  have hr := rd_of hr
  have hs : xsh h[a]? = (0, 9, 0) := hs
  unfold rd at hr
  cases hq : h[a]? with
  | none => rw [hq] at hr; cases hr
  | some w =>
    obtain ⟨t', v⟩ := w
    rw [hq] at hs
    rcases v with l | l | l | fs <;> cases hs
/-- shapes of the cells that reading reaches: class, kind (0 an object), length -/
def shL : List (Nat × Nat × Nat) := [(4, 0, 7), (6, 0, 7)]
def shB (P : Nat) (a : Nat) : Nat × Nat × Nat := ((afm qW (asrt qW a)).1, [0, 1, 1, 2, 3].getD (afm qW (asrt qW a)).2.1 9, (afm qW (asrt qW a)).2.2.1)
/-- every place of a cell that can hold a reference is known -/
def rcB (P a : Nat) : Bool := Nat.blt a qW.1.length && (!(Nat.beq (shB P a).2.1 3) && (!(Nat.beq (shB P a).2.1 0) || (List.range (shB P a).2.2).all (fun k => !(Nat.beq (xty (ztyT (shB P a).1 k)) 3) || ((Nat.beq a 3 && Nat.beq k 1) || rfs.any (fun t => Nat.beq t.1 a && (Nat.beq t.2.1 k && ((Nat.ble 1 t.2.2 && Nat.ble t.2.2 6) || (Nat.ble P t.2.2 && Nat.blt t.2.2 (P + 24)))))))))
theorem rcB_ok : ((List.range 6).all (fun a => rcB 7 (a + 1) && rcB 31 (a + 1)) && ((List.range 24).all (fun j => rcB 7 (7 + j)) && (List.range 24).all (fun j => rcB 31 (31 + j)))) = true := by decide +kernel
theorem rc_of {h : zH} {P : Nat} (hS : aSh qW h) (hK : KT h) (hr : ∀ t ∈ rfs, rd h t.1 t.2.1 = some (.ref t.2.2)) (h31 : rd h 3 1 = some (.ref 1) ∨ rd h 3 1 = some (.ref 5)) (hP : P = 7 ∨ P = 31) : RC (gr h, gs h) P := by
  have ok := rcB_ok
  rw [Bool.and_eq_true, Bool.and_eq_true] at ok
  have cell : ∀ a : Nat, (1 ≤ a ∧ a ≤ 6) ∨ (P ≤ a ∧ a < P + 24) → rcB P a = true := by
    intro a ha
    rcases ha with ⟨a1, a2⟩ | ⟨a1, a2⟩
    · have q := List.all_eq_true.mp ok.1 (a - 1) (List.mem_range.mpr (by omega))
      rw [Bool.and_eq_true, show a - 1 + 1 = a by omega] at q
      rcases hP with rfl | rfl
      · exact q.1
      · exact q.2
    · rcases hP with rfl | rfl
      · have q := List.all_eq_true.mp ok.2.1 (a - 7) (List.mem_range.mpr (by omega))
        rwa [show 7 + (a - 7) = a by omega] at q
      · have q := List.all_eq_true.mp ok.2.2 (a - 31) (List.mem_range.mpr (by omega))
        rwa [show 31 + (a - 31) = a by omega] at q
  intro a k b ha hb
  have hb : gr h a k = some b := hb
  have main : rcB P a = true → RA (gr h, gs h) P b := by
    intro q
    unfold rcB at q
    rw [Bool.and_eq_true, Bool.and_eq_true] at q
    obtain ⟨q1, q2, q3⟩ := q
    have hs := gs_of hS (Nat.le_of_ble_eq_true q1 : a < qW.1.length)
    rcases ref_at hK hs hb with e | ⟨e1, e2, e3⟩
    · have q2 : (!(Nat.beq ([0, 1, 1, 2, 3].getD (afm qW (asrt qW a)).2.1 9) 3)) = true := q2
      rw [e] at q2
      exact absurd q2 (by decide)
    · have q3 : (!(Nat.beq ([0, 1, 1, 2, 3].getD (afm qW (asrt qW a)).2.1 9) 0) || (List.range (afm qW (asrt qW a)).2.2.1).all (fun k => !(Nat.beq (xty (ztyT (afm qW (asrt qW a)).1 k)) 3) || ((Nat.beq a 3 && Nat.beq k 1) || rfs.any (fun t => Nat.beq t.1 a && (Nat.beq t.2.1 k && ((Nat.ble 1 t.2.2 && Nat.ble t.2.2 6) || (Nat.ble P t.2.2 && Nat.blt t.2.2 (P + 24)))))))) = true := q3
      rw [e1] at q3
      have q4 := List.all_eq_true.mp q3 k (List.mem_range.mpr e2)

      rw [e3] at q4
      have q4 : ((Nat.beq a 3 && Nat.beq k 1) || rfs.any (fun t => Nat.beq t.1 a && (Nat.beq t.2.1 k && ((Nat.ble 1 t.2.2 && Nat.ble t.2.2 6) || (Nat.ble P t.2.2 && Nat.blt t.2.2 (P + 24)))))) = true := q4
      rw [Bool.or_eq_true] at q4
      rcases q4 with q4 | q4
      · rw [Bool.and_eq_true] at q4
        have ea := Nat.eq_of_beq_eq_true q4.1
        have ek := Nat.eq_of_beq_eq_true q4.2
        subst ea
        subst ek
        rcases h31 with z | z
        · rw [gr_of z] at hb
          cases hb
          exact Or.inl ⟨by decide, by decide⟩
        · rw [gr_of z] at hb
          cases hb
          exact Or.inl ⟨by decide, by decide⟩
      · obtain ⟨t, ht, q5⟩ := List.any_eq_true.mp q4
        rw [Bool.and_eq_true, Bool.and_eq_true, Bool.or_eq_true, Bool.and_eq_true, Bool.and_eq_true] at q5
        have ea := Nat.eq_of_beq_eq_true q5.1
        have ek := Nat.eq_of_beq_eq_true q5.2.1
        have ht2 := hr t ht
        rw [ea, ek] at ht2
        rw [gr_of ht2] at hb
        cases hb
        rcases q5.2.2 with ⟨u1, u2⟩ | ⟨u1, u2⟩
        · exact Or.inl ⟨Nat.le_of_ble_eq_true u1, Nat.le_of_ble_eq_true u2⟩
        · exact Or.inr (Or.inl ⟨Nat.le_of_ble_eq_true u1, Nat.le_of_ble_eq_true u2⟩)
  rcases ha with ha | ha | ha
  · exact main (cell a (Or.inl ha))
  · exact main (cell a (Or.inr ha))
  · exact (no_at ha hb).elim
/-- cells of a plan are there -/
theorem pl_there : (List.range 24).all (fun j => !(Nat.beq (shB 7 (7 + j)).2.1 9) && (Nat.blt (7 + j) qW.1.length && (!(Nat.beq (shB 7 (31 + j)).2.1 9) && Nat.blt (31 + j) qW.1.length))) = true := by decide +kernel
theorem pl_nRA {h : zH} {P P0 a : Nat} (hS : aSh qW h) (hP : P0 = 7 ∧ P = 31 ∨ P0 = 31 ∧ P = 7) (ha : P0 ≤ a) (ha2 : a < P0 + 24) : ¬ RA (gr h, gs h) P a := by
  have q := List.all_eq_true.mp pl_there (a - P0) (List.mem_range.mpr (by omega))
  rw [Bool.and_eq_true, Bool.and_eq_true, Bool.and_eq_true] at q
  have hz : ¬ gs h a = (0, 9, 0) := by
    intro z
    rcases hP with ⟨rfl, rfl⟩ | ⟨rfl, rfl⟩
    · rw [show 7 + (a - 7) = a by omega] at q
      have z2 := (gs_of hS (Nat.le_of_ble_eq_true q.2.1 : a < qW.1.length)).symm.trans z
      have z3 : (shB 7 a).2.1 = 9 := congrArg (fun w : Nat × Nat × Nat => w.2.1) z2
      rw [z3] at q
      exact absurd q.1 (by decide)
    · rw [show 31 + (a - 31) = a by omega] at q
      have z2 := (gs_of hS (Nat.le_of_ble_eq_true q.2.2.2 : a < qW.1.length)).symm.trans z
      have z3 : (shB 7 a).2.1 = 9 := congrArg (fun w : Nat × Nat × Nat => w.2.1) z2
      rw [z3] at q
      exact absurd q.2.2.1 (by decide)
  rintro (u | u | u)
  · omega
  · omega
  · exact hz u
theorem gt_of {h : zH} (hS : aSh qW h) (hr : ∀ t ∈ rfs, rd h t.1 t.2.1 = some (.ref t.2.2)) : GT (gr h, gs h) := by
  have s : ∀ a L : Nat, (a, L) ∈ ([(130, 18), (131, 12), (132, 12), (133, 12), (134, 12), (135, 12), (136, 12), (137, 12), (138, 12), (140, 10), (141, 10), (142, 6), (143, 6), (144, 6), (145, 6), (146, 128), (147, 128)] : List (Nat × Nat)) → gs h a = (0, 1, L) := by
    intro a L hm
    have hc : ([(130, 18), (131, 12), (132, 12), (133, 12), (134, 12), (135, 12), (136, 12), (137, 12), (138, 12), (140, 10), (141, 10), (142, 6), (143, 6), (144, 6), (145, 6), (146, 128), (147, 128)] : List (Nat × Nat)).all (fun q => Nat.blt q.1 qW.1.length && decide (((afm qW (asrt qW q.1)).1, [0, 1, 1, 2, 3].getD (afm qW (asrt qW q.1)).2.1 9, (afm qW (asrt qW q.1)).2.2.1) = (0, 1, q.2))) = true := by decide +kernel
    have h1 := List.all_eq_true.mp hc _ hm
    dsimp only at h1
    rw [Bool.and_eq_true] at h1
    obtain ⟨h2, h3⟩ := h1
    have h4 : a < qW.1.length := Nat.le_of_ble_eq_true h2
    rw [gs_of hS h4]
    exact of_decide_eq_true h3
  have k4 : ∀ k : Nat, 4 ≤ k → k ≤ 20 → gr h 128 k = some (127 + k) := fun k k1 k2 => by
    have := (by decide +kernel : ∀ j : Nat, j < 18 → (128, 3 + j, 130 + j) ∈ rfs) (k - 3) (by omega)
    rw [show 3 + (k - 3) = k by omega, show 130 + (k - 3) = 127 + k by omega] at this
    exact rf_of hr this
  have k37 : ∀ k : Nat, 37 ≤ k → k ≤ 51 → gr h 128 k = some (113 + k) := fun k k1 k2 => by
    have := (by decide +kernel : ∀ j : Nat, j < 15 → (128, 37 + j, 150 + j) ∈ rfs) (k - 37) (by omega)
    rw [show 37 + (k - 37) = k by omega, show 150 + (k - 37) = 113 + k by omega] at this
    exact rf_of hr this
  exact ⟨⟨⟨rf_of hr (by decide +kernel), (gs_tp hS).2⟩, ⟨rf_of hr (by decide +kernel), s 130 18 (by decide), k4 19 (by decide) (by decide), k4 20 (by decide) (by decide)⟩, k4, s 131 12 (by decide), s 136 12 (by decide), s 142 6 (by decide)⟩, k37, s, rf_of hr (by decide +kernel)⟩
theorem ofN_of {x : Int32} {c : Nat} (h1 : (c : Int) ≤ x.toInt) (h2 : x.toInt ≤ (c : Int)) (hc : c < 2147483648) : x = Int32.ofNat c := Int32.toInt_inj.mp (by rw [xn_int hc]; omega)
theorem byt_of {h : zH} (hH : aH qW qG [0] [] h) {i : Nat} (hi : i < 700) : 0 ≤ (gi h 1 i).toInt ∧ (gi h 1 i).toInt < 256 := by
  have e : afm qW (asrt qW 1) = (0, 1, 700, [(0, 0, 255)]) := by decide +kernel
  obtain ⟨x, -, g2, g3, g4⟩ := iv_of (a := 1) (k := i) (l := 0) (u := 255) hH (inW_dn row_in.2.2.2.1 (by omega)) (by rw [e]; rfl)
  rw [g2]
  omega
def txM (M : List aD) : Bool := xk0 M && (xk2 M && (kf M 128 2 && (kf M 128 30 && kf M 128 31)))
def tyM (M : List aD) : Bool := xk0 M && (xk1 M && (xk2 M && (kf M 0 2 && kf M 0 3)))
def tzM (M : List aD) : Bool := xkc M
/-- sizes, how many notes, the image's size where one is kept: the same on both sides -/
def lNs (h : zH) : Prop := gi h 55 3 = gi h 130 1 ∧ (gi h 0 11 = 0 ∨ gi h 70 3 = gi h 55 3) ∧ gi h 120 5 = gi h 128 67
def nkR (M : List aD) : Bool := kf M 130 1 && kf M 128 67
def nkC (M : List aD) : Bool := kf M 55 3 && (kf M 0 11 && (kf M 70 3 && kf M 120 5))
theorem nk_in : inW 130 1 = true ∧ inW 128 67 = true ∧ inW 55 3 = true ∧ inW 0 11 = true ∧ inW 70 3 = true ∧ inW 120 5 = true := by decide +kernel
theorem KP.nr {M : List aD} {h0 h : zH} (hp : KP M h0 h) (hk : nkR M = true) : gi h 130 1 = gi h0 130 1 ∧ gi h 128 67 = gi h0 128 67 := by
  unfold nkR at hk
  rw [Bool.and_eq_true] at hk
  exact ⟨gi_rd (hp.pl nk_in.1 hk.1), gi_rd (hp.pl nk_in.2.1 hk.2)⟩
theorem KP.nc {M : List aD} {h0 h : zH} (hp : KP M h0 h) (hk : nkC M = true) : gi h 55 3 = gi h0 55 3 ∧ gi h 0 11 = gi h0 0 11 ∧ gi h 70 3 = gi h0 70 3 ∧ gi h 120 5 = gi h0 120 5 := by
  unfold nkC at hk
  simp only [Bool.and_eq_true] at hk
  obtain ⟨z1, z2, z3, z4, z5, z6⟩ := nk_in
  exact ⟨gi_rd (hp.pl z3 hk.1), gi_rd (hp.pl z4 hk.2.1), gi_rd (hp.pl z5 hk.2.2.1), gi_rd (hp.pl z6 hk.2.2.2)⟩
theorem lNs_keep {M : List aD} {h0 h : zH} (hN : lNs h0) (hp : KP M h0 h) (hk : (nkR M && nkC M) = true) : lNs h := by
  rw [Bool.and_eq_true] at hk
  obtain ⟨a1, a2⟩ := hp.nr hk.1
  obtain ⟨b1, b2, b3, b4⟩ := hp.nc hk.2
  exact ⟨by rw [b1, a1]; exact hN.1, by rw [b2, b3, b1]; exact hN.2.1, by rw [b4, a2]; exact hN.2.2⟩
/-- a cell that is there -/
def csh (a : Nat) : Bool := Nat.blt a qW.1.length && !(Nat.beq (shB 7 a).2.1 9)
theorem nsh {h : zH} {a : Nat} (hS : aSh qW h) (hc : csh a = true) : ¬ gs h a = (0, 9, 0) := fun z => by
  unfold csh at hc
  rw [Bool.and_eq_true] at hc
  have z2 := (gs_of hS (Nat.le_of_ble_eq_true hc.1 : a < qW.1.length)).symm.trans z
  have z3 : (shB 7 a).2.1 = 9 := congrArg (fun w : Nat × Nat × Nat => w.2.1) z2
  rw [z3] at hc
  exact absurd hc.2 (by decide)
theorem nRA {h : zH} {P a : Nat} (hS : aSh qW h) (hP : P = 7 ∨ P = 31) (ha : 55 ≤ a) (hc : csh a = true) : ¬ RA (gr h, gs h) P a := by
  rintro (u | u | u)
  · omega
  · omega
  · exact nsh hS hc u
theorem text_pair {nf : Bool} {xs : List Int32} {d : Nat} {h h1 h2 : zH} {r1 r2 : Option Value} {x : Int32} {M1 M2 : List aD} (hI : lInvX h) (e1 : zEv (zXt nf xs) zIT zmcl zMt d 100 [.ref 0, .int x] h r1 h1) (e2 : zEv (zXt nf xs) zIT zmcl zMt d 181 [.ref 128, .int x] h1 r2 h2) (S1 : aSh qW h1) (S2 : aSh qW h2) (k1 : KP M1 h h1) (k2 : KP M2 h1 h2) (q1 : txM M1 = true) (q2 : tyM M2 = true) (q3 : xkr M1 = true) (q4 : tzM M2 = true) (hN : lNs h) (q5 : nkR M1 = true) (q6 : nkC M2 = true) : r1 = r2 ∧ lX h2 ∧ lNs h2 := by
  obtain ⟨hJ, -, ⟨x1, x2, ⟨P0, P, x3, x4, x5⟩, x6, x7, x8, x9⟩, y31, Pz, T, hPz, y5, yc, yr⟩ := hI
  obtain ⟨n1, n2⟩ := k1.nr q5
  have hn2 := k2.nc q6
  have fin : gi h1 55 3 = gi h2 130 1 → (gi h1 0 11 = 0 ∨ gi h1 70 3 = gi h1 55 3) → gi h1 120 5 = gi h2 128 67 → lNs h2 := fun y1 y2 y3 => ⟨by rw [hn2.1]; exact y1, by rw [hn2.2.1, hn2.2.2.1, hn2.1]; exact y2, by rw [hn2.2.2.2]; exact y3⟩
  have hPP : P0 = Pz := by
    rw [x4] at y5
    cases y5
    rfl
  subst hPP
  have hRC : RC (gr h, gs h) P := rc_of hJ.1.1 x1 x2 y31 (by omega)
  have yr1 : TB T (gi h1) := yr.of (k1.fm q3)
  have hS := hJ.1.1
  obtain ⟨p, hp, p1, p2⟩ := len_of hJ
  have t1 := zEv_KT _ _ _ _ _ _ e1 x1
  have t2 := zEv_KT _ _ _ _ _ _ e2 t1
  unfold txM at q1
  rw [Bool.and_eq_true, Bool.and_eq_true, Bool.and_eq_true, Bool.and_eq_true] at q1
  unfold tyM at q2
  rw [Bool.and_eq_true, Bool.and_eq_true, Bool.and_eq_true, Bool.and_eq_true] at q2
  have w1 : gi h2 0 2 = gi h1 0 2 := gi_rd (k2.pl flt_in.1 q2.2.2.2.1)
  have w2 : gi h2 0 3 = gi h1 0 3 := gi_rd (k2.pl flt_in.2.1 q2.2.2.2.2)
  have w3 : gi h1 128 30 = gi h 128 30 := gi_rd (k1.pl flt_in.2.2.1 q1.2.2.2.1)
  have w4 : gi h1 128 31 = gi h 128 31 := gi_rd (k1.pl flt_in.2.2.2 q1.2.2.2.2)
  have hr1 := k1.rf q1.1 x2
  have hT := tp_eq hS ⟨x1, x2, ⟨P0, P, x3, x4, x5⟩, x6, x7, x8, x9⟩
  have qk := q1.2.1
  unfold xk2 at qk
  rw [Bool.and_eq_true] at qk
  have u1 := tp_keep hS S1 k1 1 1 (Or.inl ⟨rfl, rfl⟩) qk.1
  have u2 := tp_keep hS S1 k1 129 50 (Or.inr ⟨rfl, rfl⟩) qk.2
  have hw : WD (gi h 4) := fun i hi => by
    show xi (rd h 4 i) = _
    rw [x6 i hi]
    rfl
  have hP : P = 7 ∨ P = 31 := by omega
  have hG := gc_of hS x2 hP x4 x5
  have hb := fun i hi => byt_of hJ.1 (i := i) hi
  have hTb : ∀ w : Nat, w < 8 → gi h (P + 1 + 2 * w) 0 = Int32.ofNat (cN w) ∧ gi h (P + 1 + 2 * w) 1 = Int32.ofNat (mN w) := fun w hw8 => by
    obtain ⟨-, -, -, i0, i1, a0, a1⟩ := (P_s hP).1 w hw8
    obtain ⟨y0, -, y1, y2, y3⟩ := iv_of hJ.1 i0 a0
    obtain ⟨z0, -, z1, z2, z3⟩ := iv_of hJ.1 i1 a1
    have c1 := cN_b w
    have c2 := mN_b w
    rw [y1, z1]
    exact ⟨ofN_of y2 y3 (by omega), ofN_of z2 z3 (by omega)⟩
  obtain ⟨m1, g1, G1, hs1, c1⟩ := cg_text hG hRC (nsh hJ.1.1 (by decide +kernel)) p1 hp (fun i hi => (hb i hi).1) (fun i hi => (hb i hi).2) hw hTb h r1 h1 (HS_of x1) e1
  have p3 : gi h1 128 2 = Int32.ofNat p := by
    show xi (rd h1 128 2) = _
    rw [k1.pl (by decide +kernel) q1.2.2.1, p2]
    rfl
  have e9 : gi h1 129 = gi h 1 := by rw [u2, hT]
  obtain ⟨m2, g2, hs2, c2⟩ := ct_textR (wd := gi h 4) (gt_of S1 hr1) hw p3 hp (fun i hi => by rw [e9]; exact (hb i hi).1) (fun i hi => by rw [e9]; exact (hb i hi).2) h1 r2 h2 (HS_of t1) e2
  rw [e9] at c2
  have hx2 : ∀ P' S' : Nat, (P' = 7 ∧ S' = 31 ∨ P' = 31 ∧ S' = 7) → rd h1 0 5 = some (.ref P') → rd h1 0 6 = some (.ref S') → gi h1 0 2 = gi h2 128 30 → gi h1 0 3 = gi h2 128 31 → (rd h1 3 1 = some (.ref 1) ∨ rd h1 3 1 = some (.ref 5)) → (∃ T : Nat → List (List Int32), (∀ w : Nat, w < 8 → tbC (P' + 1 + 2 * w) (P' + 2 + 2 * w) (cN w) (mN w) (T w) (gi h1)) ∧ TB T (gi h2)) → lX h2 := fun P' S' y3 y4 y5 y6 y7 z31 zT => by
    have zt : lT h2 := by
      obtain ⟨T', zc, zr⟩ := zT
      have q5 := q4
      unfold tzM xkc at q5
      rw [Bool.and_eq_true, Bool.and_eq_true] at q5
      refine ⟨?_, P', T', by omega, ?_, k2.tc (by omega) (xkp_of (by omega) q4) zc, zr⟩
      · rw [k2.pl p31_in q5.2.1]; exact z31
      · rw [(k2.ps q2.2.1).1]; exact y4
    refine ⟨t2, ?_, zt⟩
    refine ⟨t2, k2.rf q2.1 hr1, ⟨P', S', y3, ?_, ?_⟩, k2.wd q2.1 (k1.wd q1.1 x6), fun i hi => ?_, by rw [w1]; exact y6, by rw [w2]; exact y7⟩
    · rw [(k2.ps q2.2.1).1]; exact y4
    · rw [(k2.ps q2.2.1).2]; exact y5
    · rw [(k2.tp q2.2.2.1 hi).1, (k2.tp q2.2.2.1 hi).2, u1, e9]
  have eg : ∀ a k b : Nat, G1.1 a k = some b → rd h1 a k = some (.ref b) := fun a k b q => rd_of (by have := hs1.2.2.2.1; rw [this]; exact q)
  have g5 : (gr h, gs h).1 0 5 = some P0 := gr_of x4
  have g6 : (gr h, gs h).1 0 6 = some P := gr_of x5
  have em1 : gi h1 = m1 := hs1.2.1
  have em2 : gi h2 = m2 := hs2.2.1
  rcases c1 with ⟨c1, rfl, em, -, rfl⟩ | ⟨n, c1, hn, f, o, ho, c1'⟩
  · rcases c2 with ⟨-, rfl, c3, c4, cF, -⟩ | ⟨n, c2, hn, -⟩
    · refine ⟨rfl, hx2 _ P x3 (eg _ _ _ g5) (eg _ _ _ g6) ?_ ?_ ?_ ?_, fin ?_ ?_ ?_⟩
      · rw [em2, c3, w3, em1, em]; exact x8
      · rw [em2, c4, w4, em1, em]; exact x9
      · have z := y31; rw [show rd h1 3 1 = rd h 3 1 from by rcases y31 with z | z <;> (rw [z]; exact eg _ _ _ (gr_of z))]; exact y31
      · exact ⟨T, fun w hw8 => by rw [em1, em]; exact yc w hw8, by rw [em2]; exact yr1.of cF.to0⟩
      · rw [em2, cF 130 1 (Or.inl (Or.inl ⟨rfl, by decide⟩)), n1, em1, em]; exact hN.1
      · rw [em1, em]; exact hN.2.1
      · rw [em2, cF 128 67 (Or.inr (Or.inr ⟨rfl, by decide⟩)), n2, em1, em]; exact hN.2.2
    · rw [c2, xn_int (by omega)] at c1
      omega
  · rcases c2 with ⟨c2, -⟩ | ⟨n', c2, hn', f', o', ho', c2'⟩
    · rw [c1, xn_int (by omega)] at c2
      omega
    · have en : n = n' := xn_inj (by omega) (by omega) (c1.symm.trans c2)
      subst en
      have eo := lns_det ho ho'
      subst eo
      cases o with
      | inl e =>
        obtain ⟨c3, c3a, c3b, c4, c4g, c4x⟩ := c1'
        have c4f : ∀ a : Nat, ¬ RA (gr h, gs h) P a → ¬ a = 0 → m1 a = gi h a := fun a z1 z2 => (c4x a z1 z2).1
        obtain ⟨c5, c5a, c5b, c5f, -⟩ := c2'
        subst c4
        refine ⟨c3.trans c5.symm, hx2 _ P x3 (eg _ _ _ ((xgu_oth (by decide)).trans g5)) (eg _ _ _ ((xgu_oth (by decide)).trans g6)) (by rw [em1, em2, c3a, c5a]) (by rw [em1, em2, c3b, c5b]) (Or.inl (eg _ _ _ xgu_same)) ⟨T, fun w hw8 => ?_, by rw [em2]; exact yr1.of c5f.to0⟩, fin ?_ ?_ ?_⟩
        · have zz : ∀ a : Nat, P0 ≤ a → a < P0 + 24 → gi h1 a = gi h a := fun a a1 a2 => by
            rw [em1]
            exact c4f a (pl_nRA hS x3 a1 a2) (by omega)
          exact tbC_row (yc w hw8) (zz _ (by omega) (by omega)) (zz _ (by omega) (by omega))
        · rw [em2, c5f 130 1 (Or.inl (Or.inl ⟨rfl, by decide⟩)), n1, em1, c4f 55 (nRA hS hP (by decide) (by decide +kernel)) (by decide)]; exact hN.1
        · rw [em1, c4g, c4f 55 (nRA hS hP (by decide) (by decide +kernel)) (by decide), c4f 70 (nRA hS hP (by decide) (by decide +kernel)) (by decide)]; exact hN.2.1
        · rw [em2, c5f 128 67 (Or.inr (Or.inr ⟨rfl, by decide⟩)), n2, em1, c4f 120 (nRA hS hP (by decide) (by decide +kernel)) (by decide)]; exact hN.2.2
      | inr q =>
        obtain ⟨c3, c3a, c3b, c4, ⟨c41, -, -, c44, -, c46, -⟩, c4t⟩ := c1'
        obtain ⟨c5, c5a, c5b, c5t, ⟨-, -, c53, -⟩, -⟩ := c2'
        subst c4
        refine ⟨c3.trans c5.symm, hx2 P P0 (by omega) (eg _ _ _ ?_) (eg _ _ _ ?_) (by rw [em1, em2, c3a, c5a]) (by rw [em1, em2, c3b, c5b]) (Or.inl (eg _ _ _ ?_)) ⟨q.1.1, by rw [em1]; exact c4t, by rw [em2]; exact c5t⟩, fin (by rw [em1, em2, c41, c5t.2.1 1 (by decide) (by decide)]) (Or.inl (by rw [em1]; exact c44)) (by rw [em1, em2, c46, c53])⟩
        · exact (xgu_oth (by decide)).trans ((xgu_oth (by decide)).trans xgu_same)
        · exact (xgu_oth (by decide)).trans xgu_same
        · exact (xgu_oth (by decide)).trans ((xgu_oth (by decide)).trans ((xgu_oth (by decide)).trans xgu_same))
end
section
/-! Between the passes, with sizes and notes; pairs of calls that touch them. -/
def lZ (h : zH) : Prop := lX h ∧ lNs h
def lInv (h : zH) : Prop := lJ h ∧ lZ h
def xkz (M : List aD) : Bool := xk M && (nkR M && nkC M)
theorem lZ_keep {M : List aD} {h0 h : zH} (hX : lZ h0) (hT : KT h) (hp : KP M h0 h) (hk : xkz M = true) : lZ h := by
  unfold xkz at hk
  rw [Bool.and_eq_true] at hk
  exact ⟨lX_keep hX.1 hT hp hk.1, lNs_keep hX.2 hp hk.2⟩
theorem lZ_junk {h : zH} (k : Nat) (hl : 176 ≤ h.length) (hX : lZ h) (hr : ∀ a j : Nat, a < h.length → rd (h ++ List.replicate k zjunk) a j = rd h a j) : lZ (h ++ List.replicate k zjunk) := by
  refine ⟨lX_junk k hl hX.1 hr, ?_⟩
  obtain ⟨a1, a2, a3⟩ := hX.2
  refine ⟨?_, ?_, ?_⟩
  · rw [gi_rd (hr 55 3 (by omega)), gi_rd (hr 130 1 (by omega))]; exact a1
  · rw [gi_rd (hr 0 11 (by omega)), gi_rd (hr 70 3 (by omega)), gi_rd (hr 55 3 (by omega))]; exact a2
  · rw [gi_rd (hr 120 5 (by omega)), gi_rd (hr 128 67 (by omega))]; exact a3
def lck3 (q1 q2 : aQ) (ts : List aY) (e : Option aV → Option aV → List aY → Bool) : Bool := lck q1 q2 ts e && (xkz q1.2.2.2.2.1 && xkz q2.2.2.2.2.1)
theorem xk_z {M : List aD} (h : xkz M = true) : xk M = true := by
  unfold xkz at h
  rw [Bool.and_eq_true] at h
  exact h.1
theorem ltwo {nf : Bool} {xs : List Int32} {q1 q2 : aQ} {ts : List aY} {e : Option aV → Option aV → List aY → Bool} {ys : List Int32} {h : zH} (c1 : aCon qW qG (zEv (zXt nf xs) zIT zmcl zMt 952) q1 (fun _ => True)) (c2 : aCon qW qG (zEv (zXt nf xs) zIT zmcl zMt 952) q2 (fun _ => True)) (chk : lck3 q1 q2 ts e = true) (hI : lInv h) (hl : ts.length = ys.length) (hb : ∀ j : Nat, ∀ y : aY, ts[j]? = some y → y.1 = 0 ∧ y.2.1 ≤ (ys.getD j 0).toInt ∧ (ys.getD j 0).toInt ≤ y.2.2) : ∃ (r1 : Option Value) (h1 : zH) (r2 : Option Value) (h2 : zH), zEv (zXt nf xs) zIT zmcl zMt 952 q1.1 (.ref 0 :: ys.map Value.int) h r1 h1 ∧ zEv (zXt nf xs) zIT zmcl zMt 952 q2.1 (.ref 128 :: ys.map Value.int) h1 r2 h2 ∧ aSh qW h1 ∧ (lZ h1 ∧ FM0 (gi h) (gi h1)) ∧ lInv h2 ∧ h1.length = h.length ∧ h2.length = h.length ∧ ∃ (E : List aY) (ρ : List Int) (a b : Option aV), aE qW E ρ ∧ arv ρ a r1 ∧ arv ρ b r2 ∧ e a b E = true := by
  unfold lck3 at chk
  rw [Bool.and_eq_true, Bool.and_eq_true] at chk
  obtain ⟨r1, h1, r2, h2, e1, e2, s1, j2, l1, l2, k1, k2, w⟩ := ltwoB c1 c2 chk.1 hI.1 hl hb
  have t1 := zEv_KT _ _ _ _ _ _ e1 hI.2.1.1
  have t2 := zEv_KT _ _ _ _ _ _ e2 t1
  have y1 := lZ_keep hI.2 t1 k1 chk.2.1
  exact ⟨r1, h1, r2, h2, e1, e2, s1, ⟨y1, k1.fm (xkr_of (xk_z chk.2.1))⟩, ⟨j2, lZ_keep y1 t2 k2 chk.2.2⟩, l1, l2, w⟩
/-- an int within its type, as a number -/
theorem nv_of {h : zH} {a k n : Nat} (hH : aH qW qG [0] [] h) (hi : inW a k = true) (ht : apl (afm qW (asrt qW a)) k = (0, 0, (n : Int))) : ∃ v : Nat, v ≤ n ∧ gi h a k = Int32.ofNat v := by
  obtain ⟨x, -, g2, g3, g4⟩ := iv_of hH hi ht
  exact ⟨x.toNatClampNeg, by rw [Int32.toNatClampNeg]; omega, by rw [g2]; exact xn_of g3⟩
theorem rv_of {h : zH} {a k : Nat} {s s' : Int} (hH : aH qW qG [0] [] h) (hi : inW a k = true) (ht : apl (afm qW (asrt qW a)) k = (2, s, s')) : ∃ b : Nat, rd h a k = some (.ref b) := by
  obtain ⟨h1, h2⟩ := inW_ok hi
  obtain ⟨v, g1, g2⟩ := hH.2.1 a k h1 (Nat.lt_of_lt_of_le h2 (apn_le _))
  rw [qrdx (qG_real h1 h2)] at g1
  rcases g2 with g2 | ⟨e, he, -⟩
  · rw [ht] at g2
    obtain ⟨b, rfl, -⟩ := g2
    exact ⟨b, g1⟩
  · cases he
theorem gsR {h : zH} {a t kd n : Nat} (hS : aSh qW h) (hc : (Nat.blt a qW.1.length && decide (((afm qW (asrt qW a)).1, [0, 1, 1, 2, 3].getD (afm qW (asrt qW a)).2.1 9, (afm qW (asrt qW a)).2.2.1) = (t, kd, n))) = true) : gs h a = (t, kd, n) := by
  rw [Bool.and_eq_true] at hc
  rw [gs_of hS (Nat.le_of_ble_eq_true hc.1 : a < qW.1.length)]
  exact of_decide_eq_true hc.2
theorem gq_of {h : zH} {a : Nat} (ha : a = 55 ∨ a = 70) (hS : aSh qW h) (hr : ∀ t ∈ rfs, rd h t.1 t.2.1 = some (.ref t.2.2)) : GQ (gr h, gs h) a := by
  have m : ([55, 70] : List Nat).all (fun a => decide ((a, 0, a + 1) ∈ rfs) && (decide ((a, 1, a + 2) ∈ rfs) && (List.range 6).all (fun k => decide ((a + 1, k, a + 3 + 2 * k) ∈ rfs) && (decide ((a + 3 + 2 * k, 9, a + 3 + 2 * k + 1) ∈ rfs) && (Nat.blt (a + 3 + 2 * k + 1) qW.1.length && decide (((afm qW (asrt qW (a + 3 + 2 * k + 1))).1, [0, 1, 1, 2, 3].getD (afm qW (asrt qW (a + 3 + 2 * k + 1))).2.1 9, (afm qW (asrt qW (a + 3 + 2 * k + 1))).2.2.1) = (0, 1, 6))))))) = true := by decide +kernel
  have q := List.all_eq_true.mp m a (by rcases ha with rfl | rfl <;> decide)
  rw [Bool.and_eq_true, Bool.and_eq_true] at q
  refine ⟨rf_of hr (of_decide_eq_true q.1), rf_of hr (of_decide_eq_true q.2.1), fun k hk => ?_⟩
  have z := List.all_eq_true.mp q.2.2 k (List.mem_range.mpr hk)
  rw [Bool.and_eq_true, Bool.and_eq_true] at z
  exact ⟨rf_of hr (of_decide_eq_true z.1), rf_of hr (of_decide_eq_true z.2.1), 6, gsR hS z.2.2⟩
def nk3 (M : List aD) : Bool := kf M 55 3 && (kf M 0 11 && kf M 70 3)
theorem note_pair {nf : Bool} {xs : List Int32} {d : Nat} {h h1 h2 : zH} {r1 r2 : Option Value} {x y z : Int32} {M1 M2 : List aD} (hI : lInv h) (e1 : zEv (zXt nf xs) zIT zmcl zMt d 145 [.ref 0, .int x, .int y, .int z] h r1 h1) (e2 : zEv (zXt nf xs) zIT zmcl zMt d 249 [.ref 128, .int x, .int y, .int z] h1 r2 h2) (S1 : aSh qW h1) (k1 : KP M1 h h1) (k2 : KP M2 h1 h2) (q1 : xk M1 = true) (q2 : xk M2 = true) (q3 : nkR M1 = true) (q4 : nk3 M1 = true) (q5 : kf M2 130 1 = true) (q6 : nk3 M2 = true) (q7 : kf M2 120 5 = true) : r1 = r2 ∧ lZ h2 := by
  obtain ⟨hJ, hX, hN⟩ := hI
  have t1 := zEv_KT _ _ _ _ _ _ e1 hX.1
  have t2 := zEv_KT _ _ _ _ _ _ e2 t1
  have y1 := lX_keep hX t1 k1 q1
  have y2 := lX_keep y1 t2 k2 q2
  have x2 := hX.2.1.2.1
  have hr1 := y1.2.1.2.1
  obtain ⟨v, hv, v5⟩ := nv_of (a := 120) (k := 5) (n := 24) hJ.1 (by decide +kernel) (by decide +kernel)
  obtain ⟨a1, a2⟩ := k1.nr q3
  have h67 : gi h1 128 67 = Int32.ofNat v := by rw [a2, ← hN.2.2, v5]
  have b3 : gi h2 55 3 = gi h 55 3 ∧ gi h2 0 11 = gi h 0 11 ∧ gi h2 70 3 = gi h 70 3 := by
    unfold nk3 at q4 q6
    simp only [Bool.and_eq_true] at q4 q6
    obtain ⟨z1, z2, z3, z4, z5, z6⟩ := nk_in
    exact ⟨(gi_rd (k2.pl z3 q6.1)).trans (gi_rd (k1.pl z3 q4.1)), (gi_rd (k2.pl z4 q6.2.1)).trans (gi_rd (k1.pl z4 q4.2.1)), (gi_rd (k2.pl z5 q6.2.2)).trans (gi_rd (k1.pl z5 q4.2.2))⟩
  have b5 : gi h2 120 5 = gi h1 120 5 := gi_rd (k2.pl nk_in.2.2.2.2.2 q7)
  have b1 : gi h2 130 1 = gi h1 130 1 := gi_rd (k2.pl nk_in.1 q5)
  obtain ⟨n1, g1, hs1, c1, c3⟩ := ct_noteC (v := v) (rf_of x2 (by decide +kernel)) (rf_of x2 (by decide +kernel)) (rf_of x2 (by decide +kernel)) (rf_of x2 (by decide +kernel)) (rf_of x2 (by decide +kernel)) (rf_of x2 (by decide +kernel)) v5 hv h r1 h1 (HS_of hX.1) e1
  obtain ⟨n2, g2, hs2, c2, c4⟩ := ct_noteR (v := v) (rf_of hr1 (by decide +kernel)) (gsR S1 (by decide +kernel)) (rf_of hr1 (by decide +kernel)) (rf_of hr1 (by decide +kernel)) (rf_of hr1 (by decide +kernel)) (rf_of hr1 (by decide +kernel)) h67 hv h1 r2 h2 (HS_of t1) e2
  have em1 : gi h1 = n1 := hs1.2.1
  have em2 : gi h2 = n2 := hs2.2.1
  refine ⟨by rw [c1, c2, a1, hN.1], y2, by rw [b3.1, b1, a1]; exact hN.1, by rw [b3.2.1, b3.2.2, b3.1]; exact hN.2.1, ?_⟩
  rw [b5, em1, em2, c3, c4, a1, hN.1]
theorem out_pair {nf : Bool} {xs : List Int32} {d : Nat} {h h1 h2 : zH} {r1 r2 : Option Value} {x : Int32} {M1 M2 : List aD} (hI : lInv h) (e1 : zEv (zXt nf xs) zIT zmcl zMt d 146 [.ref 0, .int x] h r1 h1) (e2 : zEv (zXt nf xs) zIT zmcl zMt d 250 [.ref 128, .int x] h1 r2 h2) (S1 : aSh qW h1) (k1 : KP M1 h h1) (k2 : KP M2 h1 h2) (q1 : xk M1 = true) (q2 : xk M2 = true) (q3 : nkR M1 = true) (q4 : nk3 M1 = true) (q5 : kf M2 130 1 = true) (q6 : nk3 M2 = true) (q7 : kf M2 120 5 = true) : r1 = r2 ∧ lZ h2 := by
  obtain ⟨hJ, hX, hN⟩ := hI
  have t1 := zEv_KT _ _ _ _ _ _ e1 hX.1
  have t2 := zEv_KT _ _ _ _ _ _ e2 t1
  have y1 := lX_keep hX t1 k1 q1
  have y2 := lX_keep y1 t2 k2 q2
  have x2 := hX.2.1.2.1
  have hr1 := y1.2.1.2.1
  obtain ⟨v, hv, v5⟩ := nv_of (a := 120) (k := 5) (n := 24) hJ.1 (by decide +kernel) (by decide +kernel)
  obtain ⟨a1, a2⟩ := k1.nr q3
  have h67 : gi h1 128 67 = Int32.ofNat v := by rw [a2, ← hN.2.2, v5]
  have b3 : gi h2 55 3 = gi h 55 3 ∧ gi h2 0 11 = gi h 0 11 ∧ gi h2 70 3 = gi h 70 3 := by
    unfold nk3 at q4 q6
    simp only [Bool.and_eq_true] at q4 q6
    obtain ⟨z1, z2, z3, z4, z5, z6⟩ := nk_in
    exact ⟨(gi_rd (k2.pl z3 q6.1)).trans (gi_rd (k1.pl z3 q4.1)), (gi_rd (k2.pl z4 q6.2.1)).trans (gi_rd (k1.pl z4 q4.2.1)), (gi_rd (k2.pl z5 q6.2.2)).trans (gi_rd (k1.pl z5 q4.2.2))⟩
  have b5 : gi h2 120 5 = gi h1 120 5 := gi_rd (k2.pl nk_in.2.2.2.2.2 q7)
  have b1 : gi h2 130 1 = gi h1 130 1 := gi_rd (k2.pl nk_in.1 q5)
  obtain ⟨n1, g1, hs1, c1, c3⟩ := ct_outC (v := v) (rf_of x2 (by decide +kernel)) (rf_of x2 (by decide +kernel)) v5 hv h r1 h1 (HS_of hX.1) e1
  obtain ⟨n2, g2, hs2, c2, c4⟩ := ct_outR (v := v) (rf_of hr1 (by decide +kernel)) h67 hv h1 r2 h2 (HS_of t1) e2
  have em1 : gi h1 = n1 := hs1.2.1
  have em2 : gi h2 = n2 := hs2.2.1
  refine ⟨by rw [c1, c2], y2, by rw [b3.1, b1, a1]; exact hN.1, by rw [b3.2.1, b3.2.2, b3.1]; exact hN.2.1, ?_⟩
  rw [b5, em1, em2, c3, c4]
theorem known_pair {nf : Bool} {xs : List Int32} {d : Nat} {h h1 h2 : zH} {r1 r2 : Option Value} {x : Int32} {M1 M2 : List aD} (hI : lInv h) (e1 : zEv (zXt nf xs) zIT zmcl zMt d 147 [.ref 0, .int x] h r1 h1) (e2 : zEv (zXt nf xs) zIT zmcl zMt d 251 [.ref 128, .int x] h1 r2 h2) (S1 : aSh qW h1) (k1 : KP M1 h h1) (k2 : KP M2 h1 h2) (q1 : xk M1 = true) (q2 : xk M2 = true) (q3 : nkR M1 = true) (q4 : nk3 M1 = true) (q5 : kf M2 130 1 = true) (q6 : nk3 M2 = true) (q7 : kf M2 120 5 = true) : r1 = r2 ∧ lZ h2 := by
  obtain ⟨hJ, hX, hN⟩ := hI
  have t1 := zEv_KT _ _ _ _ _ _ e1 hX.1
  have t2 := zEv_KT _ _ _ _ _ _ e2 t1
  have y1 := lX_keep hX t1 k1 q1
  have y2 := lX_keep y1 t2 k2 q2
  have x2 := hX.2.1.2.1
  have hr1 := y1.2.1.2.1
  obtain ⟨v, hv, v5⟩ := nv_of (a := 120) (k := 5) (n := 24) hJ.1 (by decide +kernel) (by decide +kernel)
  obtain ⟨a1, a2⟩ := k1.nr q3
  have h67 : gi h1 128 67 = Int32.ofNat v := by rw [a2, ← hN.2.2, v5]
  have b3 : gi h2 55 3 = gi h 55 3 ∧ gi h2 0 11 = gi h 0 11 ∧ gi h2 70 3 = gi h 70 3 := by
    unfold nk3 at q4 q6
    simp only [Bool.and_eq_true] at q4 q6
    obtain ⟨z1, z2, z3, z4, z5, z6⟩ := nk_in
    exact ⟨(gi_rd (k2.pl z3 q6.1)).trans (gi_rd (k1.pl z3 q4.1)), (gi_rd (k2.pl z4 q6.2.1)).trans (gi_rd (k1.pl z4 q4.2.1)), (gi_rd (k2.pl z5 q6.2.2)).trans (gi_rd (k1.pl z5 q4.2.2))⟩
  have b5 : gi h2 120 5 = gi h1 120 5 := gi_rd (k2.pl nk_in.2.2.2.2.2 q7)
  have b1 : gi h2 130 1 = gi h1 130 1 := gi_rd (k2.pl nk_in.1 q5)
  obtain ⟨n1, g1, hs1, c1, c3⟩ := ct_knownC (v := v) (rf_of x2 (by decide +kernel)) v5 hv h r1 h1 (HS_of hX.1) e1
  obtain ⟨n2, g2, hs2, c2, c4⟩ := ct_knownR (v := v) h67 hv h1 r2 h2 (HS_of t1) e2
  have em1 : gi h1 = n1 := hs1.2.1
  have em2 : gi h2 = n2 := hs2.2.1
  refine ⟨by rw [c1, c2], y2, by rw [b3.1, b1, a1]; exact hN.1, by rw [b3.2.1, b3.2.2, b3.1]; exact hN.2.1, ?_⟩
  rw [b5, em1, em2, c3, c4, h67, v5]
theorem keep_pair {nf : Bool} {xs : List Int32} {d : Nat} {h h1 h2 : zH} {r1 r2 : Option Value} {M1 M2 : List aD} (hI : lInv h) (e1 : zEv (zXt nf xs) zIT zmcl zMt d 118 [.ref 0] h r1 h1) (e2 : zEv (zXt nf xs) zIT zmcl zMt d 258 [.ref 128] h1 r2 h2) (S1 : aSh qW h1) (k1 : KP M1 h h1) (k2 : KP M2 h1 h2) (q1 : xk M1 = true) (q2 : xk M2 = true) (q3 : nkR M1 = true) (q4 : kf M1 55 3 = true) (q5 : kf M1 120 5 = true) (q6 : (nkR M2 && nkC M2) = true) : lZ h2 := by
  obtain ⟨hJ, hX, hN⟩ := hI
  have t1 := zEv_KT _ _ _ _ _ _ e1 hX.1
  have t2 := zEv_KT _ _ _ _ _ _ e2 t1
  have y1 := lX_keep hX t1 k1 q1
  have y2 := lX_keep y1 t2 k2 q2
  have x2 := hX.2.1.2.1
  have hr1 := y1.2.1.2.1
  obtain ⟨a1, a2⟩ := k1.nr q3
  obtain ⟨n, hn, n3⟩ := nv_of (a := 55) (k := 3) (n := 6) hJ.1 (by decide +kernel) (by decide +kernel)
  obtain ⟨x, hx⟩ := rv_of (a := 55) (k := 2) (s := 7) (s' := 7) hJ.1 (by decide +kernel) (by decide +kernel)
  obtain ⟨n1, g1, G1, hs1, -, -, m1, c2, c3⟩ := cg_keep (n := n) (x := x) (rf_of x2 (by decide +kernel)) (rf_of x2 (by decide +kernel)) (gq_of (Or.inl rfl) hJ.1.1 x2) (gq_of (Or.inr rfl) hJ.1.1 x2) hn n3 (gr_of hx) h r1 h1 (HS_of hX.1) e1
  have em1 : gi h1 = n1 := hs1.2.1
  have w3 : gi h1 55 3 = gi h 55 3 := gi_rd (k1.pl nk_in.2.2.1 q4)
  refine ⟨y2, lNs_keep ⟨?_, Or.inr ?_, ?_⟩ k2 q6⟩
  · rw [w3, a1]; exact hN.1
  · rw [w3, em1, c3, xu_row (by decide)]; exact c2.2.1 3 (by decide) (by decide)
  · rw [a2, gi_rd (k1.pl nk_in.2.2.2.2.2 q5)]; exact hN.2.2
theorem back_pair {nf : Bool} {xs : List Int32} {d : Nat} {h h1 h2 : zH} {r1 r2 : Option Value} {M1 M2 : List aD} (hI : lInv h) (e1 : zEv (zXt nf xs) zIT zmcl zMt d 119 [.ref 0] h r1 h1) (e2 : zEv (zXt nf xs) zIT zmcl zMt d 259 [.ref 128] h1 r2 h2) (S1 : aSh qW h1) (k1 : KP M1 h h1) (k2 : KP M2 h1 h2) (q1 : xk M1 = true) (q2 : xk M2 = true) (q3 : nkR M1 = true) (q4 : kf M1 0 11 = true) (q5 : kf M1 120 5 = true) (q7 : kf M1 70 3 = true) (q6 : (nkR M2 && nkC M2) = true) : lZ h2 := by
  obtain ⟨hJ, hX, hN⟩ := hI
  have t1 := zEv_KT _ _ _ _ _ _ e1 hX.1
  have t2 := zEv_KT _ _ _ _ _ _ e2 t1
  have y1 := lX_keep hX t1 k1 q1
  have y2 := lX_keep y1 t2 k2 q2
  have x2 := hX.2.1.2.1
  have hr1 := y1.2.1.2.1
  obtain ⟨a1, a2⟩ := k1.nr q3
  obtain ⟨n, hn, n3⟩ := nv_of (a := 70) (k := 3) (n := 6) hJ.1 (by decide +kernel) (by decide +kernel)
  obtain ⟨x, hx⟩ := rv_of (a := 70) (k := 2) (s := 7) (s' := 7) hJ.1 (by decide +kernel) (by decide +kernel)
  obtain ⟨n1, g1, G1, hs1, c1⟩ := cg_back (n := n) (x := x) (rf_of x2 (by decide +kernel)) (rf_of x2 (by decide +kernel)) (rf_of x2 (by decide +kernel)) (gq_of (Or.inl rfl) hJ.1.1 x2) (gq_of (Or.inr rfl) hJ.1.1 x2) hn n3 (gr_of hx) h r1 h1 (HS_of hX.1) e1
  have em1 : gi h1 = n1 := hs1.2.1
  have w11 : gi h1 0 11 = gi h 0 11 := gi_rd (k1.pl nk_in.2.2.2.1 q4)
  have w70 : gi h1 70 3 = gi h 70 3 := gi_rd (k1.pl nk_in.2.2.2.2.1 q7)
  have w3 : gi h1 55 3 = gi h 55 3 := by
    rcases c1 with ⟨-, -, c2, -⟩ | ⟨c0, -, -, m1, c2, c3⟩
    · rw [em1, c2]
    · rw [em1, c3, xu_row (by decide), c2.2.1 3 (by decide) (by decide)]
      rcases hN.2.1 with z | z
      · exact absurd z c0
      · exact z
  refine ⟨y2, lNs_keep ⟨?_, ?_, ?_⟩ k2 q6⟩
  · rw [w3, a1]; exact hN.1
  · rw [w11, w70, w3]; exact hN.2.1
  · rw [a2, gi_rd (k1.pl nk_in.2.2.2.2.2 q5)]; exact hN.2.2
end
section
/-! A run to marked places as a way, again: it is wanted ahead of go. -/
theorem arun_gq {W : aW} {G : aG} {Pt : aPt} {D : List aD} {h0 : zH} {Y X : zX} {I : zI} {mcl : Nat → Nat} {C : zC} {Q : List Int → Prop} {cal : Nat → List aY → List aV → aM → Option (List aXt)} {nt : Nat → aS → Bool} {c nL : Nat} {ini : Bool} {rt : Option FieldType} {tab : Nat → Option (Instr × Nat)} (hX : aXX Y X) (hG : aGok W G Pt) (hL : ∀ s : Nat, (afm W s).2.2.1 < 1000000) (hQ : ∀ ρ ρ' : List Int, Q ρ → aext ρ ρ' → Q ρ') (hc : aCal W G D h0 C Q cal) : ∀ (n : Nat) (sk : Bool) (pc : Nat) (S : aS) (ρ : List Int) (cl : zL) (cst : List Value) (h : zH), arun (Y, I, mcl, W, Pt, D) cal nt c nL rt tab n sk pc S = some [] → Q ρ → aRel W G D h0 ρ S cl cst h → ∃ (k pc' : Nat) (S' : aS) (ρ' : List Int) (cl' : zL) (cst' : List Value) (h' : zH), zGo X I mcl C c ini nL tab k (pc, cl, cst, h) (pc', cl', cst', h') ∧ nt pc' S' = true ∧ Q ρ' ∧ aext ρ ρ' ∧ aRel W G D h0 ρ' S' cl' cst' h' := by
  intro n
  induction n with
  | zero => intro sk pc S ρ cl cst h hs; cases hs
  | succ n ih =>
    intro sk pc S ρ cl cst h hs hq hR
    unfold arun at hs
    cases hb : (!sk && nt pc S) with
    | true =>
      rw [Bool.and_eq_true] at hb
      exact ⟨0, pc, S, ρ, cl, cst, h, rfl, hb.2, hq, aext.rf, hR⟩
    | false =>
      rw [hb] at hs
      dsimp only [cond_false] at hs
      split at hs
      · cases hs
      · next q ht =>
        obtain ⟨i, len⟩ := q
        split at hs
        · next r hr => cases hs
        · split at hs
          · next os ho =>
            obtain ⟨pc', cl', cst', h1, g1, S', g2, ρ', g3, g4⟩ := astp_ok (ini := ini) hX hG hL ho hR
            obtain ⟨ys, k1, k2⟩ := aseq_ok hs _ g2
            have e0 : ys = [] := by
              cases ys with
              | nil => rfl
              | cons a r => cases k2 a List.mem_cons_self
            rw [e0] at k1
            obtain ⟨k, p2, S2, ρ2, cl2, cst2, h2, e1, e2, e3, e4, e5⟩ := ih false pc' S' ρ' cl' cst' h1 k1 (hQ _ _ hq g3) g4
            exact ⟨k + 1, p2, S2, ρ2, cl2, cst2, h2, ⟨i, len, ht, Or.inl ⟨_, g1, e1⟩⟩, e2, e3, g3.trans e4, e5⟩
          · split at hs
            · next os ho =>
              obtain ⟨cst', g1, o, g2, ρ', g3, g4, g5⟩ := amath_ok ho hR.1 hR.2.2.1
              obtain ⟨ys, k1, k2⟩ := aseq_ok hs _ g2
              have e0 : ys = [] := by
                cases ys with
                | nil => rfl
                | cons a r => cases k2 a List.mem_cons_self
              rw [e0] at k1
              obtain ⟨k, p2, S2, ρ2, cl2, cst2, h2, e1, e2, e3, e4, e5⟩ := ih false (pc + 3) _ ρ' cl cst' h k1 (hQ _ _ hq g3) ⟨g4, hR.2.1.ext g3, g5, hR.2.2.2.1.ext g3, hR.2.2.2.2.ext g3⟩
              exact ⟨k + 1, p2, S2, ρ2, cl2, cst2, h2, ⟨i, len, ht, Or.inr (Or.inl ⟨cst', g1, e1⟩)⟩, e2, e3, g3.trans e4, e5⟩
            · split at hs
              · next w hw =>
                obtain ⟨mi, as, rest⟩ := w
                split at hs
                · next ys hy =>
                  obtain ⟨vs, cr, g1, g2, g3⟩ := acal_ok (h := h) hX hw hR.1 hR.2.2.2.1.1 hR.2.2.1
                  obtain ⟨r1, h1, c1, x, x1, ρ', x2, x3, x4, x5, x6⟩ := hc mi S.1 as S.2.2.2 ys ρ vs h hy hq hR.1 hR.2.2.2.1 g2 hR.2.2.2.2
                  obtain ⟨zs, k1, k2⟩ := aseq_ok hs _ x1
                  have e0 : zs = [] := by
                    cases zs with
                    | nil => rfl
                    | cons a r => cases k2 a List.mem_cons_self
                  rw [e0] at k1
                  have hst' : aSt ρ' (x.2.1.toList ++ rest) (r1.toList ++ cr) := by
                    cases hx : x.2.1 with
                    | none =>
                      rw [hx] at x4
                      rw [show r1 = none from x4]
                      exact g3.ext x2
                    | some a =>
                      rw [hx] at x4
                      obtain ⟨v, e1, e2⟩ := x4
                      rw [e1]
                      exact ⟨v, cr, rfl, e2, g3.ext x2⟩
                  obtain ⟨k, p2, S2, ρ2, cl2, cst2, h2, e1, e2, e3, e4, e5⟩ := ih false (pc + 3) _ ρ' cl _ h1 k1 (hQ _ _ hq x2) ⟨x3, hR.2.1.ext x2, hst', x5, x6⟩
                  exact ⟨k + 1, p2, S2, ρ2, cl2, cst2, h2, ⟨i, len, ht, Or.inr (Or.inr ⟨mi, vs, cr, r1, h1, g1, c1, e1⟩)⟩, e2, e3, x2.trans e4, e5⟩
                · cases hs
              · cases hs
/-! The class's rider: it comes to one of its throws, or to a return with an int; nothing is written. -/
theorem anil_nq {α : Type} {l : List α} (h : anil l = true) : l = [] := by
  cases l with
  | nil => rfl
  | cons a r => cases h
end
section
/-! Runs are alike: from the same state our machine goes one way. -/
def zk (i : Instr) : Nat := match i with
  | .ireturn => 0
  | .lreturn => 0
  | .areturn => 0
  | .return_ => 0
  | .invokevirtual _ => 1
  | .invokestatic _ => 2
  | .invokespecial _ => 3
  | _ => 4
theorem zret_k {rt : Option FieldType} {i : Instr} {st : List Value} {r : Option Value} (h : zret rt i st = some r) : zk i = 0 := by
  unfold zret at h
  split at h
  all_goals first | rfl | cases h
set_option maxHeartbeats 8000000 in
theorem zstep_k {X : zX} {nL : Nat} {ini : Bool} {c : Nat} {i : Instr} {pc : Nat} {ls : zL} {st : List Value} {h : zH} {s : Nat × zL × List Value × zH} (q : zstep X nL ini c i pc ls st h = some s) : zk i = 4 := by
  unfold zstep at q
  split at q
  · next z =>
    unfold zstI at z
    split at z
    all_goals first | rfl | cases z
  · split at q
    · next z =>
      unfold zstL at z
      split at z
      all_goals first | rfl | cases z
    · unfold zstH at q
      split at q
      all_goals first | rfl | cases q
theorem zobj_k {I : zI} {c : Nat} {i : Instr} {st rest : List Value} (h : zobjI I c i st = some rest) : (∃ j a b : Nat, i = .invokespecial j ∧ I c j = some (0, a, b)) ∨ ∃ j k a b : Nat, i = .invokestatic j ∧ I c j = some (k, a, b) ∧ 5 ≤ k := by
  unfold zobjI at h
  split at h
  · split at h
    · next e => exact Or.inl ⟨_, _, _, rfl, e⟩
    · cases h
  · split at h
    · next e => exact Or.inr ⟨_, 5, _, _, rfl, e, by decide⟩
    · next e => exact Or.inr ⟨_, 6, _, _, rfl, e, by decide⟩
    · next e => exact Or.inr ⟨_, 7, _, _, rfl, e, by decide⟩
    · next e => exact Or.inr ⟨_, 8, _, _, rfl, e, by decide⟩
    · next e => exact Or.inr ⟨_, 9, _, _, rfl, e, by decide⟩
    · next e => exact Or.inr ⟨_, 10, _, _, rfl, e, by decide⟩
    · cases h
  · cases h
theorem zcall_k {X : zX} {I : zI} {mcl : Nat → Nat} {c : Nat} {i : Instr} {st : List Value} {h : zH} {w : Nat × List Value × List Value} (q : zcall X I mcl c i st h = some w) : (∃ j : Nat, i = .invokevirtual j) ∨ (∃ j a b : Nat, i = .invokestatic j ∧ I c j = some (2, a, b)) ∨ ∃ j k a b : Nat, i = .invokespecial j ∧ I c j = some (k, a, b) ∧ 3 ≤ k := by
  unfold zcall at q
  split at q
  · exact Or.inl ⟨_, rfl⟩
  · split at q
    · next e => exact Or.inr (Or.inl ⟨_, _, _, rfl, e⟩)
    · cases q
  · split at q
    · next e => exact Or.inr (Or.inr ⟨_, 3, _, _, rfl, e, by decide⟩)
    · next e => exact Or.inr (Or.inr ⟨_, 4, _, _, rfl, e, by decide⟩)
    · cases q
  · cases q
theorem zobj_kk {I : zI} {c : Nat} {i : Instr} {st rest : List Value} (h : zobjI I c i st = some rest) : zk i = 2 ∨ zk i = 3 := by
  rcases zobj_k h with ⟨j, a, b, rfl, -⟩ | ⟨j, k, a, b, rfl, -, -⟩
  · exact Or.inr rfl
  · exact Or.inl rfl
theorem zcall_kk {X : zX} {I : zI} {mcl : Nat → Nat} {c : Nat} {i : Instr} {st : List Value} {h : zH} {w : Nat × List Value × List Value} (q : zcall X I mcl c i st h = some w) : 1 ≤ zk i ∧ zk i ≤ 3 := by
  rcases zcall_k q with ⟨j, rfl⟩ | ⟨j, a, b, rfl, -⟩ | ⟨j, k, a, b, rfl, -, -⟩
  · exact ⟨by show 1 ≤ 1; omega, by show 1 ≤ 3; omega⟩
  · exact ⟨by show 1 ≤ 2; omega, by show 2 ≤ 3; omega⟩
  · exact ⟨by show 1 ≤ 3; omega, by show 3 ≤ 3; omega⟩
theorem zoc {X : zX} {I : zI} {mcl : Nat → Nat} {c : Nat} {i : Instr} {st rest : List Value} {h : zH} {w : Nat × List Value × List Value} (q1 : zobjI I c i st = some rest) (q2 : zcall X I mcl c i st h = some w) : False := by
  rcases zobj_k q1 with ⟨j, a, b, rfl, e⟩ | ⟨j, k, a, b, rfl, e, hk⟩
  · rcases zcall_k q2 with ⟨j2, z⟩ | ⟨j2, a2, b2, z, -⟩ | ⟨j2, k2, a2, b2, z, e2, hk2⟩
    · cases z
    · cases z
    · cases z
      rw [e] at e2
      cases e2
      omega
  · rcases zcall_k q2 with ⟨j2, z⟩ | ⟨j2, a2, b2, z, e2⟩ | ⟨j2, k2, a2, b2, z, -, -⟩
    · cases z
    · cases z
      rw [e] at e2
      cases e2
      omega
    · cases z
def zdet (C : zC) : Prop := ∀ (mi : Nat) (as : List Value) (h : zH) (r : Option Value) (h' : zH) (r2 : Option Value) (h2 : zH), C mi as h r h' → C mi as h r2 h2 → r = r2 ∧ h' = h2
theorem zRun_det {X : zX} {I : zI} {mcl : Nat → Nat} {C : zC} {c : Nat} {ini : Bool} {nL : Nat} {rt : Option FieldType} {tab : Nat → Option (Instr × Nat)} (hC : zdet C) : ∀ (n m pc : Nat) (ls : zL) (st : List Value) (h : zH) (r : Option Value) (h' : zH) (r2 : Option Value) (h2 : zH), zRun X I mcl C c ini nL rt tab n pc ls st h r h' → zRun X I mcl C c ini nL rt tab m pc ls st h r2 h2 → r = r2 ∧ h' = h2 := by
  intro n
  induction n with
  | zero => intro m pc ls st h r h' r2 h2 q; exact q.elim
  | succ n ih =>
    intro m pc ls st h r h' r2 h2 q q2
    cases m with
    | zero => exact q2.elim
    | succ m =>
      obtain ⟨i, len, t, q⟩ := q
      obtain ⟨i2, len2, t2, q2⟩ := q2
      rw [t] at t2
      cases t2
      rcases q with ⟨a1, a2⟩ | ⟨pc1, ls1, st1, k1, a1, a2⟩ | ⟨rs1, a1, a2⟩ | ⟨mi1, as1, rs1, v1, k1, a1, a2, a3⟩
      · have e := zret_k a1
        rcases q2 with ⟨b1, b2⟩ | ⟨pc2, ls2, st2, k2, b1, b2⟩ | ⟨rs2, b1, b2⟩ | ⟨mi2, as2, rs2, v2, k2, b1, b2, b3⟩
        · rw [a1] at b1
          cases b1
          exact ⟨rfl, a2.trans b2.symm⟩
        · have := zstep_k b1; omega
        · have := zobj_kk b1; omega
        · have := zcall_kk b1; omega
      · have e := zstep_k a1
        rcases q2 with ⟨b1, b2⟩ | ⟨pc2, ls2, st2, k2, b1, b2⟩ | ⟨rs2, b1, b2⟩ | ⟨mi2, as2, rs2, v2, k2, b1, b2, b3⟩
        · have := zret_k b1; omega
        · rw [a1] at b1
          cases b1
          exact ih _ _ _ _ _ _ _ _ _ a2 b2
        · have := zobj_kk b1; omega
        · have := zcall_kk b1; omega
      · have e := zobj_kk a1
        rcases q2 with ⟨b1, b2⟩ | ⟨pc2, ls2, st2, k2, b1, b2⟩ | ⟨rs2, b1, b2⟩ | ⟨mi2, as2, rs2, v2, k2, b1, b2, b3⟩
        · have := zret_k b1; omega
        · have := zstep_k b1; omega
        · rw [a1] at b1
          cases b1
          exact ih _ _ _ _ _ _ _ _ _ a2 b2
        · exact (zoc a1 b1).elim
      · have e := zcall_kk a1
        rcases q2 with ⟨b1, b2⟩ | ⟨pc2, ls2, st2, k2, b1, b2⟩ | ⟨rs2, b1, b2⟩ | ⟨mi2, as2, rs2, v2, k2, b1, b2, b3⟩
        · have := zret_k b1; omega
        · have := zstep_k b1; omega
        · exact (zoc b1 a1).elim
        · rw [a1] at b1
          cases b1
          obtain ⟨e1, e2⟩ := hC _ _ _ _ _ _ _ a2 b2
          subst e1
          subst e2
          exact ih _ _ _ _ _ _ _ _ _ a3 b3
theorem zEv_det {X : zX} {I : zI} {mcl : Nat → Nat} {mt : zM} : ∀ d : Nat, zdet (zEv X I mcl mt d) := by
  intro d
  induction d with
  | zero => intro mi as h r h' r2 h2 q; exact q.elim
  | succ d ih =>
    intro mi as h r h' r2 h2 q q2
    obtain ⟨c, ini, nL, rt, tab, n, e, -, q⟩ := q
    obtain ⟨c2, ini2, nL2, rt2, tab2, n2, e2, -, q2⟩ := q2
    rw [e] at e2
    cases e2
    exact zRun_det ih _ _ _ _ _ _ _ _ _ _ q q2
theorem zEv_same {X : zX} {I : zI} {mcl : Nat → Nat} {mt : zM} {d e mi : Nat} {as : List Value} {h : zH} {r r2 : Option Value} {h' h2 : zH} (q : zEv X I mcl mt d mi as h r h') (q2 : zEv X I mcl mt e mi as h r2 h2) : r = r2 ∧ h' = h2 := zEv_det (max d e) _ _ _ _ _ _ _ (zEv_le (Nat.le_max_left _ _) q) (zEv_le (Nat.le_max_right _ _) q2)
/-- what is left of a run behind a stretch -/
theorem zRun_after {X : zX} {I : zI} {mcl : Nat → Nat} {C : zC} {c : Nat} {ini : Bool} {nL : Nat} {rt : Option FieldType} {tab : Nat → Option (Instr × Nat)} (hC : zdet C) : ∀ (k : Nat) (a b : zSt), zGo X I mcl C c ini nL tab k a b → ∀ (n : Nat) (r : Option Value) (h' : zH), zRun X I mcl C c ini nL rt tab n a.1 a.2.1 a.2.2.1 a.2.2.2 r h' → ∃ n' : Nat, zRun X I mcl C c ini nL rt tab n' b.1 b.2.1 b.2.2.1 b.2.2.2 r h' := by
  intro k
  induction k with
  | zero =>
    intro a b q n r h' g
    have q : a = b := q
    subst q
    exact ⟨n, g⟩
  | succ k ih =>
    intro a b q n r h' g
    cases n with
    | zero => exact g.elim
    | succ n =>
      obtain ⟨i, len, t, q⟩ := q
      obtain ⟨i2, len2, t2, g⟩ := g
      rw [t] at t2
      cases t2
      rcases q with ⟨s1, a1, a2⟩ | ⟨rs1, a1, a2⟩ | ⟨mi1, as1, rs1, v1, k1, a1, a2, a3⟩
      · have e := zstep_k a1
        rcases g with ⟨b1, b2⟩ | ⟨pc2, ls2, st2, k2, b1, b2⟩ | ⟨rs2, b1, b2⟩ | ⟨mi2, as2, rs2, v2, k2, b1, b2, b3⟩
        · have := zret_k b1; omega
        · rw [a1] at b1
          cases b1
          exact ih _ _ a2 _ _ _ b2
        · have := zobj_kk b1; omega
        · have := zcall_kk b1; omega
      · have e := zobj_kk a1
        rcases g with ⟨b1, b2⟩ | ⟨pc2, ls2, st2, k2, b1, b2⟩ | ⟨rs2, b1, b2⟩ | ⟨mi2, as2, rs2, v2, k2, b1, b2, b3⟩
        · have := zret_k b1; omega
        · have := zstep_k b1; omega
        · rw [a1] at b1
          cases b1
          exact ih _ _ a2 _ _ _ b2
        · exact (zoc a1 b1).elim
      · have e := zcall_kk a1
        rcases g with ⟨b1, b2⟩ | ⟨pc2, ls2, st2, k2, b1, b2⟩ | ⟨rs2, b1, b2⟩ | ⟨mi2, as2, rs2, v2, k2, b1, b2, b3⟩
        · have := zret_k b1; omega
        · have := zstep_k b1; omega
        · exact (zoc b1 a1).elim
        · rw [a1] at b1
          cases b1
          obtain ⟨e1, e2⟩ := hC _ _ _ _ _ _ _ a2 b2
          subst e1
          subst e2
          exact ih _ _ a3 _ _ _ b3
/-! One step, one call, an end of a run. -/
section ZR
variable {nf : Bool} {xs : List Int32} {d c : Nat} {ini : Bool} {nL : Nat} {rt : Option FieldType} {tab : Nat → Option (Instr × Nat)} {r : Option Value} {h h' : zH} {n pc len : Nat} {ls : zL} {st : List Value} {i : Instr}
theorem zR1 {s : Nat × zL × List Value × zH} (q : zRun (zXt nf xs) zIT zmcl (zEv (zXt nf xs) zIT zmcl zMt d) c ini nL rt tab n pc ls st h r h') (t : tab pc = some (i, len)) (hs : zstep (zXt nf xs) nL ini c i pc ls st h = some s) : ∃ n' : Nat, n = n' + 1 ∧ zRun (zXt nf xs) zIT zmcl (zEv (zXt nf xs) zIT zmcl zMt d) c ini nL rt tab n' s.1 s.2.1 s.2.2.1 s.2.2.2 r h' := by
  cases n with
  | zero => exact q.elim
  | succ n =>
    obtain ⟨i2, len2, t2, q⟩ := q
    rw [t] at t2
    cases t2
    have e := zstep_k hs
    rcases q with ⟨b1, b2⟩ | ⟨pc2, ls2, st2, k2, b1, b2⟩ | ⟨rs2, b1, b2⟩ | ⟨mi2, as2, rs2, v2, k2, b1, b2, b3⟩
    · have := zret_k b1; omega
    · rw [hs] at b1
      cases b1
      exact ⟨n, rfl, b2⟩
    · have := zobj_kk b1; omega
    · have := zcall_kk b1; omega
theorem zRc {mi : Nat} {as rest : List Value} (q : zRun (zXt nf xs) zIT zmcl (zEv (zXt nf xs) zIT zmcl zMt d) c ini nL rt tab n pc ls st h r h') (t : tab pc = some (i, len)) (hc : zcall (zXt nf xs) zIT zmcl c i st h = some (mi, as, rest)) : ∃ (n' : Nat) (r1 : Option Value) (h1 : zH), n = n' + 1 ∧ zEv (zXt nf xs) zIT zmcl zMt d mi as h r1 h1 ∧ zRun (zXt nf xs) zIT zmcl (zEv (zXt nf xs) zIT zmcl zMt d) c ini nL rt tab n' (pc + 3) ls (r1.toList ++ rest) h1 r h' := by
  cases n with
  | zero => exact q.elim
  | succ n =>
    obtain ⟨i2, len2, t2, q⟩ := q
    rw [t] at t2
    cases t2
    have e := zcall_kk hc
    rcases q with ⟨b1, b2⟩ | ⟨pc2, ls2, st2, k2, b1, b2⟩ | ⟨rs2, b1, b2⟩ | ⟨mi2, as2, rs2, v2, k2, b1, b2, b3⟩
    · have := zret_k b1; omega
    · have := zstep_k b1; omega
    · exact (zoc b1 hc).elim
    · rw [hc] at b1
      cases b1
      exact ⟨n, v2, k2, rfl, b2, b3⟩
theorem zRe {v : Option Value} (q : zRun (zXt nf xs) zIT zmcl (zEv (zXt nf xs) zIT zmcl zMt d) c ini nL rt tab n pc ls st h r h') (t : tab pc = some (i, len)) (hr : zret rt i st = some v) : r = v ∧ h' = h := by
  cases n with
  | zero => exact q.elim
  | succ n =>
    obtain ⟨i2, len2, t2, q⟩ := q
    rw [t] at t2
    cases t2
    have e := zret_k hr
    rcases q with ⟨b1, b2⟩ | ⟨pc2, ls2, st2, k2, b1, b2⟩ | ⟨rs2, b1, b2⟩ | ⟨mi2, as2, rs2, v2, k2, b1, b2, b3⟩
    · rw [hr] at b1
      cases b1
      exact ⟨rfl, b2⟩
    · have := zstep_k b1; omega
    · have := zobj_kk b1; omega
    · have := zcall_kk b1; omega
end ZR
end
section
/-! One mile, of both sides, exactly. -/
theorem kill_nil {E : List aY} {ρ : List Int} {m : aM} {h : zH} (hE : aE qW E ρ) (hH : aH qW qG ρ m h) (hk : (akill qW E (fun _ => false) m).isSome = true) : aH qW qG [0] [] h := by
  obtain ⟨m', hm'⟩ := Option.isSome_iff_exists.mp hk
  obtain ⟨hK, hK2⟩ := akill_ok hE hm' hH
  have e0 : m' = [] := by
    cases m' with
    | nil => rfl
    | cons a r => cases (hK2 a List.mem_cons_self).2
  subst e0
  exact aH_nil hK
/-- a place that the engine tells at an end -/
theorem mg_int {E : List aY} {ρ : List Int} {m : aM} {h : zH} {r c k s : Nat} {z d : Int} (hE : aE qW E ρ) (hH : aH qW qG ρ m h) (hk : k < 1000) (hr : ρ[r]? = some (c : Int)) (ho : ∀ g : zH, qG c k g = none) (hm : amg m (r, 0, (k : Int)) = some (.inl (s, d))) (hs : ρ[s]? = some z) : gi h c k = Int32.ofInt (z + d) := by
  obtain ⟨w, w1, w2⟩ := qamg hE hH hk hr hm
  rw [qrdx (ho h)] at w1
  obtain ⟨x, ⟨z2, z3, z4⟩, rfl⟩ := w2
  rw [hs] at z3
  cases z3
  show xi (rd h c k) = _
  rw [w1, ← z4]
  rfl
theorem off_ge {c k : Nat} (h2 : ¬ c = 2) (h3 : ¬ c = 128) : ∀ g : zH, qG c k g = none := fun _ => qG_off h2 h3
theorem i32i {x : Int32} : Int32.ofInt (x.toInt + 0) = x := by rw [Int.add_zero, Int32.ofInt_toInt]
theorem i32s {x : Int32} : Int32.ofInt (x.toInt + 1) = x + 1 := by rw [Int32.ofInt_add, Int32.ofInt_toInt]; rfl
theorem mile_C {nf : Bool} {xs : List Int32} {d P : Nat} {h h' : zH} {r : Option Value} (hH : aH qW qG [0] [] h) (hP : P = 7 ∨ P = 31) (h2 : rd h 55 2 = some (.ref P)) (e : zEv (zXt nf xs) zIT zmcl zMt d 59 [.ref 55, .ref 115] h r h') : r = none ∧ aH qW qG [0] [] h' ∧ (KP qcx0.2.2.2.2.1 h h' ∧ h'.length = h.length) ∧ ((gi h 55 5).toInt + 1 ≤ (gi h P 10).toInt ∧ gi h' 55 4 = gi h 55 4 ∧ gi h' 55 5 = gi h 55 5 + 1 ∨ (gi h P 10).toInt ≤ (gi h 55 5).toInt ∧ gi h' 55 4 = gi h 55 4 + 1 ∧ gi h' 55 5 = 0) := by
  have hi10 : inW P 10 = true ∧ apl (afm qW (asrt qW P)) 10 = (0, 0, 60) ∧ (asrt qW P : Int) = ((7 : Nat) : Int) ∧ P < qW.1.length := by rcases hP with rfl | rfl <;> decide +kernel
  obtain ⟨D, d1, d2, -, -⟩ := iv_of (a := 55) (k := 4) (l := -2147483648) (u := 2147483647) hH (by decide +kernel) (by decide +kernel)
  obtain ⟨M, m1, m2, m3, m4⟩ := iv_of (a := 55) (k := 5) (l := 0) (u := 60) hH (by decide +kernel) (by decide +kernel)
  obtain ⟨L, l1, l2, l3, l4⟩ := iv_of (a := P) (k := 10) (l := 0) (u := 60) hH hi10.1 hi10.2.1
  have E1 := (((((aE0.push (t := (2, 31, 31)) (z := 55) (asR (so := 31) (c := 55) (by decide +kernel) (by decide +kernel))).push (t := (2, 36, 36)) (z := 115) (asR (so := 36) (c := 115) (by decide +kernel) (by decide +kernel))).push (t := (2, 7, 7)) (z := (P : Int)) (asR (so := 7) (c := P) hi10.2.2.2 hi10.2.2.1)).push (t := (0, 0, 60)) (z := L.toInt) ⟨l3, l4⟩).push (t := (0, -2147483648, 2147483647)) (z := D.toInt) (ab D)).push (t := (0, 0, 60)) (z := M.toInt) ⟨m3, m4⟩
  have hE : aE qW (aent qcx0) [0, 55, 115, (P : Int), L.toInt, D.toInt, M.toInt] := E1
  have hv : aSt [0, 55, 115, (P : Int), L.toInt, D.toInt, M.toInt] (aarg qcx0) [.ref 55, .ref 115] := ⟨_, _, rfl, ⟨55, rfl, rfl⟩, _, _, rfl, ⟨115, rfl, rfl⟩, rfl⟩
  have a1 := aH_add (q := (1, 0, 5)) (b := .inl (6, 0)) (a := 55) (k := 5) (v := .int M) (aH_nil (ρ' := [0, 55, 115, (P : Int), L.toInt, D.toInt, M.toInt]) hH) (qden (k := 5) (c := 55) (r := 1) hE (by decide) rfl) (by decide +kernel) (by decide +kernel) (by rw [qrdx (qG_off (by decide) (by decide))]; exact m1) ⟨M, ⟨M.toInt, rfl, i32i.symm⟩, rfl⟩
  have a2 := aH_add (q := (1, 0, 4)) (b := .inl (5, 0)) (a := 55) (k := 4) (v := .int D) a1 (qden (k := 4) (c := 55) (r := 1) hE (by decide) rfl) (by decide +kernel) (by decide +kernel) (by rw [qrdx (qG_off (by decide) (by decide))]; exact d1) ⟨D, ⟨D.toInt, rfl, i32i.symm⟩, rfl⟩
  have a3 := aH_add (q := (3, 0, 10)) (b := .inl (4, 0)) (a := P) (k := 10) (v := .int L) a2 (qden (k := 10) (c := P) (r := 3) hE (by decide) rfl) hi10.2.2.2 (Nat.lt_of_lt_of_le (inW_ok hi10.1).2 (apn_le _)) (by rw [qrdx (qG_off (by omega) (by omega))]; exact l1) ⟨L, ⟨L.toInt, rfl, i32i.symm⟩, rfl⟩
  have a4 := aH_add (q := (1, 0, 2)) (b := .inr (.inr (.inl 3))) (a := 55) (k := 2) (v := .ref P) a3 (qden (k := 2) (c := 55) (r := 1) hE (by decide) rfl) (by decide +kernel) (by decide +kernel) (by rw [qrdx (qG_off (by decide) (by decide))]; exact h2) ⟨P, rfl, rfl⟩
  obtain ⟨r1, h1, g1, o, o1, ρ1, y2, -, y4, y5, y6, y7⟩ := qX_ok nf xs 59 qcx0 (List.Mem.head _) _ h [.ref 55, .ref 115] trivial hE hv a4
  obtain ⟨rfl, rfl⟩ := zEv_same e g1
  rw [d2, m2, l2]
  have s4 : ρ1[4]? = some L.toInt := y2.get rfl
  have s5 : ρ1[5]? = some D.toInt := y2.get rfl
  have s6 : ρ1[6]? = some M.toInt := y2.get rfl
  have s1 : ρ1[1]? = some ((55 : Nat) : Int) := y2.get rfl
  unfold qcx0 at o1
  dsimp only at o1
  rcases List.mem_cons.mp o1 with rfl | o1
  · obtain ⟨z, z', z1, z2, z3⟩ := acst_of y4 (t := (10, 4, 1)) (by decide) (by decide)
    have z1 : ρ1[6]? = some z := z1
    have z2 : ρ1[4]? = some z' := z2
    rw [s6] at z1
    rw [s4] at z2
    cases z1
    cases z2
    refine ⟨y5, kill_nil y4 y6 (by decide +kernel), ⟨KP_of y7, y7.1⟩, Or.inl ⟨z3, ?_, ?_⟩⟩
    · rw [mg_int (k := 4) (s := 5) (d := 0) y4 y6 (by decide) s1 (off_ge (by decide) (by decide)) rfl s5]; exact i32i
    · rw [mg_int (k := 5) (s := 6) (d := 1) y4 y6 (by decide) s1 (off_ge (by decide) (by decide)) rfl s6]; exact i32s
  · rcases List.mem_cons.mp o1 with rfl | o1
    · obtain ⟨z, z', z1, z2, z3⟩ := acst_of y4 (t := (8, 6, 0)) (by decide) (by decide)
      have z1 : ρ1[4]? = some z := z1
      have z2 : ρ1[6]? = some z' := z2
      rw [s4] at z1
      rw [s6] at z2
      cases z1
      cases z2
      obtain ⟨w, w1, w2⟩ := y4.has (k := 7) rfl
      have w2 : 0 ≤ w ∧ w ≤ 0 := w2
      have w0 : w = 0 := by omega
      subst w0
      refine ⟨y5, kill_nil y4 y6 (by decide +kernel), ⟨KP_of y7, y7.1⟩, Or.inr ⟨by dsimp only at z3; omega, ?_, ?_⟩⟩
      · rw [mg_int (k := 4) (s := 5) (d := 1) y4 y6 (by decide) s1 (off_ge (by decide) (by decide)) rfl s5]; exact i32s
      · rw [mg_int (k := 5) (s := 7) (d := 0) y4 y6 (by decide) s1 (off_ge (by decide) (by decide)) rfl w1]; rfl
    · cases o1
theorem mile_R {nf : Bool} {xs : List Int32} {d : Nat} {h h' : zH} {r : Option Value} (hH : aH qW qG [0] [] h) (h3 : rd h 128 3 = some (.ref 130)) (h37 : rd h 128 37 = some (.ref 150)) (h38 : rd h 128 38 = some (.ref 151)) (e : zEv (zXt nf xs) zIT zmcl zMt d 210 [.ref 128, .int 0] h r h') : r = none ∧ aH qW qG [0] [] h' ∧ (KP qcx1.2.2.2.2.1 h h' ∧ h'.length = h.length) ∧ ((gi h 151 0).toInt + 1 ≤ (gi h 130 0).toInt ∧ gi h' 150 0 = gi h 150 0 ∧ gi h' 151 0 = gi h 151 0 + 1 ∨ (gi h 130 0).toInt ≤ (gi h 151 0).toInt ∧ gi h' 150 0 = gi h 150 0 + 1 ∧ gi h' 151 0 = 0) := by
  obtain ⟨D, d1, d2, -, -⟩ := iv_of (a := 150) (k := 0) (l := -2147483648) (u := 2147483647) hH (by decide +kernel) (by decide +kernel)
  obtain ⟨M, m1, m2, m3, m4⟩ := iv_of (a := 151) (k := 0) (l := 0) (u := 60) hH (by decide +kernel) (by decide +kernel)
  obtain ⟨L, l1, l2, l3, l4⟩ := iv_of (a := 130) (k := 0) (l := 1) (u := 60) hH (by decide +kernel) (by decide +kernel)
  have E1 := (((((((aE0.push (t := (2, 49, 49)) (z := 128) (asR (so := 49) (c := 128) (by decide +kernel) (by decide +kernel))).push (t := (0, 0, 0)) (z := 0) ⟨by omega, by omega⟩).push (t := (2, 72, 72)) (z := 151) (asR (so := 72) (c := 151) (by decide +kernel) (by decide +kernel))).push (t := (2, 71, 71)) (z := 150) (asR (so := 71) (c := 150) (by decide +kernel) (by decide +kernel))).push (t := (0, 0, 60)) (z := M.toInt) ⟨m3, m4⟩).push (t := (0, -2147483648, 2147483647)) (z := D.toInt) (ab D)).push (t := (2, 51, 51)) (z := 130) (asR (so := 51) (c := 130) (by decide +kernel) (by decide +kernel))).push (t := (0, 1, 60)) (z := L.toInt) ⟨l3, l4⟩
  have hE : aE qW (aent qcx1) [0, 128, 0, 151, 150, M.toInt, D.toInt, 130, L.toInt] := E1
  have hv : aSt [0, 128, 0, 151, 150, M.toInt, D.toInt, 130, L.toInt] (aarg qcx1) [.ref 128, .int 0] := ⟨_, _, rfl, ⟨128, rfl, rfl⟩, _, _, rfl, ⟨0, ⟨0, rfl, rfl⟩, rfl⟩, rfl⟩
  have a1 := aH_add (q := (7, 0, 0)) (b := .inl (8, 0)) (a := 130) (k := 0) (v := .int L) (aH_nil (ρ' := [0, 128, 0, 151, 150, M.toInt, D.toInt, 130, L.toInt]) hH) (qden (k := 0) (c := 130) (r := 7) hE (by decide) rfl) (by decide +kernel) (by decide +kernel) (by rw [qrdx (qG_off (by decide) (by decide))]; exact l1) ⟨L, ⟨L.toInt, rfl, i32i.symm⟩, rfl⟩
  have a2 := aH_add (q := (1, 0, 3)) (b := .inr (.inr (.inl 7))) (a := 128) (k := 3) (v := .ref 130) a1 (qden (k := 3) (c := 128) (r := 1) hE (by decide) rfl) (by decide +kernel) (by decide +kernel) (by rw [qrdx (qG_real (by decide +kernel) (by decide +kernel))]; exact h3) ⟨130, rfl, rfl⟩
  have a3 := aH_add (q := (4, 0, 0)) (b := .inl (6, 0)) (a := 150) (k := 0) (v := .int D) a2 (qden (k := 0) (c := 150) (r := 4) hE (by decide) rfl) (by decide +kernel) (by decide +kernel) (by rw [qrdx (qG_off (by decide) (by decide))]; exact d1) ⟨D, ⟨D.toInt, rfl, i32i.symm⟩, rfl⟩
  have a4 := aH_add (q := (3, 0, 0)) (b := .inl (5, 0)) (a := 151) (k := 0) (v := .int M) a3 (qden (k := 0) (c := 151) (r := 3) hE (by decide) rfl) (by decide +kernel) (by decide +kernel) (by rw [qrdx (qG_off (by decide) (by decide))]; exact m1) ⟨M, ⟨M.toInt, rfl, i32i.symm⟩, rfl⟩
  have a5 := aH_add (q := (1, 0, 37)) (b := .inr (.inr (.inl 4))) (a := 128) (k := 37) (v := .ref 150) a4 (qden (k := 37) (c := 128) (r := 1) hE (by decide) rfl) (by decide +kernel) (by decide +kernel) (by rw [qrdx (qG_real (by decide +kernel) (by decide +kernel))]; exact h37) ⟨150, rfl, rfl⟩
  have a6 := aH_add (q := (1, 0, 38)) (b := .inr (.inr (.inl 3))) (a := 128) (k := 38) (v := .ref 151) a5 (qden (k := 38) (c := 128) (r := 1) hE (by decide) rfl) (by decide +kernel) (by decide +kernel) (by rw [qrdx (qG_real (by decide +kernel) (by decide +kernel))]; exact h38) ⟨151, rfl, rfl⟩
  obtain ⟨r1, h1, g1, o, o1, ρ1, y2, -, y4, y5, y6, y7⟩ := qX_ok nf xs 210 qcx1 (List.Mem.head _) _ h [.ref 128, .int 0] trivial hE hv a6
  obtain ⟨rfl, rfl⟩ := zEv_same e g1
  rw [d2, m2, l2]
  have s8 : ρ1[8]? = some L.toInt := y2.get rfl
  have s6 : ρ1[6]? = some D.toInt := y2.get rfl
  have s5 : ρ1[5]? = some M.toInt := y2.get rfl
  have s3 : ρ1[3]? = some ((151 : Nat) : Int) := y2.get rfl
  have s4 : ρ1[4]? = some ((150 : Nat) : Int) := y2.get rfl
  unfold qcx1 at o1
  dsimp only at o1
  rcases List.mem_cons.mp o1 with rfl | o1
  · obtain ⟨z, z', z1, z2, z3⟩ := acst_of y4 (t := (12, 5, 0)) (by decide) (by decide)
    have z1 : ρ1[8]? = some z := z1
    have z2 : ρ1[5]? = some z' := z2
    rw [s8] at z1
    rw [s5] at z2
    cases z1
    cases z2
    obtain ⟨w, w1, w2⟩ := y4.has (k := 9) rfl
    have w2 : 0 ≤ w ∧ w ≤ 0 := w2
    have w0 : w = 0 := by omega
    subst w0
    refine ⟨y5, kill_nil y4 y6 (by decide +kernel), ⟨KP_of y7, y7.1⟩, Or.inr ⟨by dsimp only at z3; omega, ?_, ?_⟩⟩
    · rw [mg_int (k := 0) (s := 6) (d := 1) y4 y6 (by decide) s4 (off_ge (by decide) (by decide)) rfl s6]; exact i32s
    · rw [mg_int (k := 0) (s := 9) (d := 0) y4 y6 (by decide) s3 (off_ge (by decide) (by decide)) rfl w1]; rfl
  · rcases List.mem_cons.mp o1 with rfl | o1
    · obtain ⟨z, z', z1, z2, z3⟩ := acst_of y4 (t := (9, 8, 1)) (by decide) (by decide)
      have z1 : ρ1[5]? = some z := z1
      have z2 : ρ1[8]? = some z' := z2
      rw [s5] at z1
      rw [s8] at z2
      cases z1
      cases z2
      refine ⟨y5, kill_nil y4 y6 (by decide +kernel), ⟨KP_of y7, y7.1⟩, Or.inl ⟨z3, ?_, ?_⟩⟩
      · rw [mg_int (k := 0) (s := 6) (d := 0) y4 y6 (by decide) s4 (off_ge (by decide) (by decide)) rfl s6]; exact i32i
      · rw [mg_int (k := 0) (s := 5) (d := 1) y4 y6 (by decide) s3 (off_ge (by decide) (by decide)) rfl s5]; exact i32s
    · cases o1
end
section
/-! go, of both sides, exactly (rows by program: wip/x/gG2.py). -/
theorem t56_0 : xtk zt56 0 1 (0) := Or.inl ⟨0, ⟨rfl, rfl⟩, by decide⟩
theorem t56_1 : xt zt56 1 2 (.istore_n 3) := ⟨rfl, rfl⟩
theorem t56_2 : xt zt56 2 3 (.iload_n 3) := ⟨rfl, rfl⟩
theorem t56_3 : xt zt56 3 4 (.iload_n 1) := ⟨rfl, rfl⟩
theorem t56_4 : xtb zt56 4 7 18 (.if_icmp .ge 14) (14) := ⟨rfl, rfl, rfl⟩
theorem t56_7 : xt zt56 7 8 (.aload_n 0) := ⟨rfl, rfl⟩
theorem t56_8 : xt zt56 8 9 (.aload_n 2) := ⟨rfl, rfl⟩
theorem t56_9 : xtc zt56 5 9 12 (.invokevirtual 103) 103 1 59 1 := ⟨rfl, rfl, rfl⟩
theorem t56_12 : xt zt56 12 15 (.iinc 3 1) := ⟨rfl, rfl⟩
theorem t56_15 : xtb zt56 15 18 2 (.goto (-13)) (-13) := ⟨rfl, rfl, rfl⟩
theorem t56_18 : xt zt56 18 19 .return_ := ⟨rfl, rfl⟩
theorem t120_0 : xt zt120 0 1 (.iload_n 1) := ⟨rfl, rfl⟩
theorem t120_1 : xtb zt120 1 4 23 (.ifCond .lt 22) (22) := ⟨rfl, rfl, rfl⟩
theorem t120_4 : xt zt120 4 5 (.iload_n 1) := ⟨rfl, rfl⟩
theorem t120_5 : xtk zt120 5 7 (99) := Or.inr (Or.inl ⟨99, ⟨rfl, rfl⟩, by decide⟩)
theorem t120_7 : xtb zt120 7 10 23 (.if_icmp .gt 16) (16) := ⟨rfl, rfl, rfl⟩
theorem t120_10 : xt zt120 10 11 (.aload_n 0) := ⟨rfl, rfl⟩
theorem t120_11 : xtf zt120 10 11 14 (.getfield 45) 45 10 7 3 := ⟨rfl, rfl, rfl, rfl⟩
theorem t120_14 : xtf zt120 10 14 17 (.getfield 248) 248 5 4 1 := ⟨rfl, rfl, rfl, rfl⟩
theorem t120_17 : xtk zt120 17 20 (900) := Or.inr (Or.inr ⟨900, ⟨rfl, rfl⟩, by decide⟩)
theorem t120_20 : xtb zt120 20 23 25 (.if_icmp .le 5) (5) := ⟨rfl, rfl, rfl⟩
theorem t120_23 : xtk zt120 23 24 (-1) := Or.inl ⟨-1, ⟨rfl, rfl⟩, by decide⟩
theorem t120_24 : xt zt120 24 25 .ireturn := ⟨rfl, rfl⟩
theorem t120_25 : xt zt120 25 26 (.iload_n 1) := ⟨rfl, rfl⟩
theorem t120_26 : xtb zt120 26 29 36 (.ifCond .le 10) (10) := ⟨rfl, rfl, rfl⟩
theorem t120_29 : xt zt120 29 30 (.aload_n 0) := ⟨rfl, rfl⟩
theorem t120_30 : xtf zt120 10 30 33 (.getfield 72) 72 10 13 3 := ⟨rfl, rfl, rfl, rfl⟩
theorem t120_33 : xtc zt120 10 33 36 (.invokevirtual 106) 106 1 93 0 := ⟨rfl, rfl, rfl⟩
theorem t120_36 : xt zt120 36 37 (.aload_n 0) := ⟨rfl, rfl⟩
theorem t120_37 : xtf zt120 10 37 40 (.getfield 45) 45 10 7 3 := ⟨rfl, rfl, rfl, rfl⟩
theorem t120_40 : xt zt120 40 41 (.iload_n 1) := ⟨rfl, rfl⟩
theorem t120_41 : xt zt120 41 42 (.aload_n 0) := ⟨rfl, rfl⟩
theorem t120_42 : xtf zt120 10 42 45 (.getfield 65) 65 10 12 3 := ⟨rfl, rfl, rfl, rfl⟩
theorem t120_45 : xtc zt120 10 45 48 (.invokevirtual 215) 215 1 89 0 := ⟨rfl, rfl, rfl⟩
theorem t120_48 : xtc zt120 10 48 51 (.invokevirtual 298) 298 1 56 2 := ⟨rfl, rfl, rfl⟩
theorem t120_51 : xt zt120 51 52 (.aload_n 0) := ⟨rfl, rfl⟩
theorem t120_52 : xtf zt120 10 52 55 (.getfield 45) 45 10 7 3 := ⟨rfl, rfl, rfl, rfl⟩
theorem t120_55 : xtf zt120 10 55 58 (.getfield 251) 251 5 5 1 := ⟨rfl, rfl, rfl, rfl⟩
theorem t120_58 : xt zt120 58 59 .ireturn := ⟨rfl, rfl⟩
theorem t228_0 : xt zt228 0 1 (.aload_n 0) := ⟨rfl, rfl⟩
theorem t228_1 : xtk zt228 1 2 (0) := Or.inl ⟨0, ⟨rfl, rfl⟩, by decide⟩
theorem t228_2 : xtf zt228 11 2 5 (.putfield 166) 166 11 0 1 := ⟨rfl, rfl, rfl, rfl⟩
theorem t228_5 : xt zt228 5 6 (.iload_n 1) := ⟨rfl, rfl⟩
theorem t228_6 : xtb zt228 6 9 27 (.ifCond .lt 21) (21) := ⟨rfl, rfl, rfl⟩
theorem t228_9 : xt zt228 9 10 (.iload_n 1) := ⟨rfl, rfl⟩
theorem t228_10 : xtk zt228 10 12 (99) := Or.inr (Or.inl ⟨99, ⟨rfl, rfl⟩, by decide⟩)
theorem t228_12 : xtb zt228 12 15 27 (.if_icmp .gt 15) (15) := ⟨rfl, rfl, rfl⟩
theorem t228_15 : xt zt228 15 16 (.aload_n 0) := ⟨rfl, rfl⟩
theorem t228_16 : xtf zt228 11 16 19 (.getfield 78) 78 11 37 3 := ⟨rfl, rfl, rfl, rfl⟩
theorem t228_19 : xtk zt228 19 20 (0) := Or.inl ⟨0, ⟨rfl, rfl⟩, by decide⟩
theorem t228_20 : xt zt228 20 21 .iaload := ⟨rfl, rfl⟩
theorem t228_21 : xtk zt228 21 24 (900) := Or.inr (Or.inr ⟨900, ⟨rfl, rfl⟩, by decide⟩)
theorem t228_24 : xtb zt228 24 27 29 (.if_icmp .le 5) (5) := ⟨rfl, rfl, rfl⟩
theorem t228_27 : xtk zt228 27 28 (-1) := Or.inl ⟨-1, ⟨rfl, rfl⟩, by decide⟩
theorem t228_28 : xt zt228 28 29 .ireturn := ⟨rfl, rfl⟩
theorem t228_29 : xt zt228 29 30 (.iload_n 1) := ⟨rfl, rfl⟩
theorem t228_30 : xtb zt228 30 33 38 (.ifCond .le 8) (8) := ⟨rfl, rfl, rfl⟩
theorem t228_33 : xt zt228 33 34 (.aload_n 0) := ⟨rfl, rfl⟩
theorem t228_34 : xtk zt228 34 35 (0) := Or.inl ⟨0, ⟨rfl, rfl⟩, by decide⟩
theorem t228_35 : xtf zt228 11 35 38 (.putfield 326) 326 11 54 1 := ⟨rfl, rfl, rfl, rfl⟩
theorem t228_38 : xtk zt228 38 39 (0) := Or.inl ⟨0, ⟨rfl, rfl⟩, by decide⟩
theorem t228_39 : xt zt228 39 40 (.istore_n 2) := ⟨rfl, rfl⟩
theorem t228_40 : xt zt228 40 41 (.iload_n 2) := ⟨rfl, rfl⟩
theorem t228_41 : xt zt228 41 42 (.iload_n 1) := ⟨rfl, rfl⟩
theorem t228_42 : xtb zt228 42 45 56 (.if_icmp .ge 14) (14) := ⟨rfl, rfl, rfl⟩
theorem t228_45 : xt zt228 45 46 (.aload_n 0) := ⟨rfl, rfl⟩
theorem t228_46 : xtk zt228 46 47 (0) := Or.inl ⟨0, ⟨rfl, rfl⟩, by decide⟩
theorem t228_47 : xtc zt228 11 47 50 (.invokevirtual 446) 446 1 210 1 := ⟨rfl, rfl, rfl⟩
theorem t228_50 : xt zt228 50 53 (.iinc 2 1) := ⟨rfl, rfl⟩
theorem t228_53 : xtb zt228 53 56 40 (.goto (-13)) (-13) := ⟨rfl, rfl, rfl⟩
theorem t228_56 : xt zt228 56 57 (.aload_n 0) := ⟨rfl, rfl⟩
theorem t228_57 : xtf zt228 11 57 60 (.getfield 81) 81 11 38 3 := ⟨rfl, rfl, rfl, rfl⟩
theorem t228_60 : xtk zt228 60 61 (0) := Or.inl ⟨0, ⟨rfl, rfl⟩, by decide⟩
theorem t228_61 : xt zt228 61 62 .iaload := ⟨rfl, rfl⟩
theorem t228_62 : xt zt228 62 63 .ireturn := ⟨rfl, rfl⟩
/-- a day and a mile, one mile on: L is the last -/
def dmS (L : Int32) (p : Int32 × Int32) : Int32 × Int32 := if p.2.toInt + 1 ≤ L.toInt then (p.1, p.2 + 1) else (p.1 + 1, 0)
def dmN (L : Int32) : Nat → Int32 × Int32 → Int32 × Int32
  | 0, p => p
  | n + 1, p => dmN L n (dmS L p)
section ZR
variable {nf : Bool} {xs : List Int32} {d c : Nat} {ini : Bool} {nL : Nat} {rt : Option FieldType} {tab : Nat → Option (Instr × Nat)} {r : Option Value} {h h' : zH} {N pc len : Nat} {ls : zL} {st : List Value} {i : Instr}
def RH (nf : Bool) (xs : List Int32) (d c : Nat) (ini : Bool) (nL : Nat) (rt : Option FieldType) (tab : Nat → Option (Instr × Nat)) (r : Option Value) (h' : zH) (N : Nat) (a : zSt) : Prop := ∃ n : Nat, n < N ∧ zRun (zXt nf xs) zIT zmcl (zEv (zXt nf xs) zIT zmcl zMt d) c ini nL rt tab n a.1 a.2.1 a.2.2.1 a.2.2.2 r h'
theorem RH.go1 {s : zSt} (hr : RH nf xs d c ini nL rt tab r h' (N + 1) (pc, ls, st, h)) (t : tab pc = some (i, len)) (hs : zstep (zXt nf xs) nL ini c i pc ls st h = some s) : RH nf xs d c ini nL rt tab r h' N s := by
  obtain ⟨n, h1, h2⟩ := hr
  obtain ⟨n', e, h3⟩ := zR1 h2 t hs
  exact ⟨n', by omega, h3⟩
theorem RH.go {s : zSt} (hr : RH nf xs d c ini nL rt tab r h' N (pc, ls, st, h)) (t : tab pc = some (i, len)) (hs : zstep (zXt nf xs) nL ini c i pc ls st h = some s) : RH nf xs d c ini nL rt tab r h' N s := by
  obtain ⟨n, h1, h2⟩ := hr
  obtain ⟨n', e, h3⟩ := zR1 h2 t hs
  exact ⟨n', by omega, h3⟩
theorem RH.call {mi : Nat} {as rest : List Value} (hr : RH nf xs d c ini nL rt tab r h' N (pc, ls, st, h)) (t : tab pc = some (i, len)) (hc : zcall (zXt nf xs) zIT zmcl c i st h = some (mi, as, rest)) : ∃ (r1 : Option Value) (h1 : zH), zEv (zXt nf xs) zIT zmcl zMt d mi as h r1 h1 ∧ RH nf xs d c ini nL rt tab r h' N (pc + 3, ls, r1.toList ++ rest, h1) := by
  obtain ⟨n, h1, h2⟩ := hr
  obtain ⟨n', r1, k1, e, h3, h4⟩ := zRc h2 t hc
  exact ⟨r1, k1, h3, n', by omega, h4⟩
theorem RH.ret {v : Option Value} (hr : RH nf xs d c ini nL rt tab r h' N (pc, ls, st, h)) (t : tab pc = some (i, len)) (hv : zret rt i st = some v) : r = v ∧ h' = h := by
  obtain ⟨n, h1, h2⟩ := hr
  exact zRe h2 t hv
theorem RH.no {a : zSt} (hr : RH nf xs d c ini nL rt tab r h' 0 a) : False := by
  obtain ⟨n, h1, -⟩ := hr
  omega
theorem RH.after {a b : zSt} {k : Nat} (hr : RH nf xs d c ini nL rt tab r h' N a) (hg : zGo (zXt nf xs) zIT zmcl (zEv (zXt nf xs) zIT zmcl zMt d) c ini nL tab k a b) : ∃ N : Nat, RH nf xs d c ini nL rt tab r h' N b := by
  obtain ⟨n, h1, h2⟩ := hr
  obtain ⟨n', h3⟩ := zRun_after (zEv_det d) k a b hg n r h' h2
  exact ⟨n' + 1, n', by omega, h3⟩
theorem zb_ge {X : zX} {x y : Int32} {off : Int} {q : Nat} {b : Bool} (hb : zicmp .ge x y = b) (ho : (pc : Int) + off = (q : Int)) : zstep X nL ini c (.if_icmp .ge off) pc ls (.int y :: .int x :: st) h = some (if b = true then q else pc + 3, ls, st, h) := lsI (by
  show zbr (zicmp .ge x y) pc off ls st h = some _
  rw [hb]
  unfold zbr
  rw [ho, if_pos (Int.natCast_nonneg q)]
  cases b <;> rfl)
theorem zg_to {X : zX} {off : Int} {q : Nat} (ho : (pc : Int) + off = (q : Int)) : zstep X nL ini c (.goto off) pc ls st h = some (q, ls, st, h) := lsI (by
  simp only [zstI, zjump]
  rw [ho, if_pos (Int.natCast_nonneg q)]
  rfl)
theorem zgetf {j a ci k : Nat} {v : Value} {fs : List Value} (e : zfldT c j = some (ci, k)) (hh : h[a]? = some (ci, .inr (.inr (.inr fs)))) (hv : rd h a k = some v) : zstep (zXt nf xs) nL ini c (.getfield j) pc ls (.ref a :: st) h = some (pc + 3, ls, v :: st, h) := lsH (by
  have e' : zfld (zXt nf xs) c j = some (ci, k) := e
  have hv : fs[k]? = some v := by
    unfold rd at hv
    rw [hh] at hv
    exact hv
  simp only [zstH, e', hh, hv]
  first | rfl | rw [if_pos rfl] | rw [if_pos trivial])
theorem zial {a : Nat} {x : Int32} {l : List Int32} (hh : h[a]? = some (0, .inl l)) (hl : l.length = 24) (hv : rd h a 0 = some (.int x)) : zstep (zXt nf xs) nL ini c .iaload pc ls (.int 0 :: .ref a :: st) h = some (pc + 1, ls, .int x :: st, h) := lsH (by
  have hv : l[0]?.map Value.int = some (.int x) := by
    unfold rd at hv
    rw [hh] at hv
    exact hv
  have hx : l.getD (Int32.toNatClampNeg 0) 0 = x := by
    show l.getD 0 0 = x
    rw [List.getD_eq_getElem?_getD]
    cases hq : l[0]? with
    | none => rw [hq] at hv; cases hv
    | some w => rw [hq] at hv; cases hv; rfl
  simp only [zstH, hh]
  rw [if_pos (by unfold zidx; rw [hl]; decide), hx])
theorem zri {v : Int32} : zret (some .int) .ireturn [.int v] = some (some (.int v)) := by
  unfold zret
  dsimp only
  exact if_pos rfl
theorem zg_iinc {X : zX} {k : Nat} {n : Int} {x y : Int32} (hg : zget ls k = some (.int x)) (hk : k < nL) (he : x + Int32.ofInt n = y) : zstep X nL ini c (.iinc k n) pc ls st h = some (pc + 3, zset1 ls k (.int y), st, h) := lsL (by
  subst he
  simp only [zstL, hg]
  rw [if_pos hk])
theorem zcl1 {X : zX} {I : zI} {mcl : Nat → Nat} {j n mi b ci : Nat} {st r as fs : List Value} (hI : I c j = some (1, mi, n)) (e1 : st.drop n = .ref b :: r) (g1 : h[b]? = some (ci, .inr (.inr (.inr fs)))) (hc : ci = mcl mi) (hn : n ≤ st.length) (hw : zw8 r = true) (ha : (st.take n).reverse = as) : zcall X I mcl c (.invokevirtual j) st h = some (mi, .ref b :: as, r) := by
  subst ha
  simp only [zcall, hI, e1, g1]
  rw [if_pos ⟨hc, hn, hw⟩]
end ZR
theorem zset_same {ls : zL} {k : Nat} {v : Value} : zget (zset1 ls k v) k = some v := zget_hd
theorem zset_oth {ls : zL} {k j : Nat} {v w : Value} (hj : ¬ j = k) (hg : zget ls j = some w) (hw : w.category = 1) : zget (zset1 ls k v) j = some w := by
  unfold zset1
  rw [zget_tl hj]
  refine zget_flt hg ?_
  dsimp only
  rw [hw]
  simp [hj]
theorem lA1 {h : zH} {a n : Nat} (hS : aSh qW h) (hc : (Nat.blt a qW.1.length && decide (((afm qW (asrt qW a)).1, (afm qW (asrt qW a)).2.1, (afm qW (asrt qW a)).2.2.1) = (0, 1, n))) = true) : ∃ l : List Int32, h[a]? = some (0, .inl l) ∧ l.length = n := by
  rw [Bool.and_eq_true] at hc
  obtain ⟨⟨e1, e2⟩, h1, h2⟩ := hS a (Nat.le_of_ble_eq_true hc.1)
  have q := of_decide_eq_true hc.2
  obtain ⟨z1, z2⟩ := h2
  have q1 : (afm qW (asrt qW a)).1 = 0 := congrArg (fun w : Nat × Nat × Nat => w.1) q
  have q2 : (afm qW (asrt qW a)).2.1 = 1 := congrArg (fun w : Nat × Nat × Nat => w.2.1) q
  have q3 : (afm qW (asrt qW a)).2.2.1 = n := congrArg (fun w : Nat × Nat × Nat => w.2.2) q
  rw [q2] at z2
  rcases e2 with l | l | l | fs
  · refine ⟨l, ?_, z2.trans q3⟩
    have z1 : e1 = (afm qW (asrt qW a)).1 := z1
    rw [h1, z1, q1]
  · exact z2.elim
  · exact z2.elim
  · exact z2.elim
/-- frames one behind another -/
theorem KP.tr {M : List aD} {h0 h1 h2 : zH} (a : KP M h0 h1) (b : KP M h1 h2) : KP M h0 h2 := fun x k hx hk hf => (b x k hx hk hf).trans (a x k hx hk hf)
theorem KP.rf0 {M : List aD} {h : zH} : KP M h h := fun _ _ _ _ _ => rfl
theorem KP.le {M M2 : List aD} {h0 h1 : zH} (a : KP M h0 h1) (hm : M.all (fun d => M2.any (fun e => Nat.beq e.1 d.1 && (Nat.beq e.2.1 0 && (ile e.2.2.2.1 d.2.2.2.1 && ile d.2.2.2.2 e.2.2.2.2)) && Nat.beq d.2.1 0)) = true) : KP M2 h0 h1 := fun x k hx hk hf => a x k hx hk (by
  unfold kf at hf ⊢
  refine List.all_eq_true.mpr (fun d hd => ?_)
  obtain ⟨e, he, q⟩ := List.any_eq_true.mp (List.all_eq_true.mp hm d hd)
  rw [Bool.and_eq_true, Bool.and_eq_true, Bool.and_eq_true, Bool.and_eq_true] at q
  obtain ⟨⟨q1, q2, q3, q4⟩, q5⟩ := q
  have f := List.all_eq_true.mp hf e he
  rw [Bool.and_eq_true] at f ⊢
  refine ⟨q5, ?_⟩
  cases hz : (Nat.beq (asrt qW x) d.1 && (ile d.2.2.2.1 (k : Int) && ile (k : Int) d.2.2.2.2)) with
  | false => rfl
  | true =>
    rw [Bool.and_eq_true, Bool.and_eq_true] at hz
    have g1 := Nat.eq_of_beq_eq_true q1
    have g2 := ile_iff.mp q3
    have g3 := ile_iff.mp q4
    have g4 := ile_iff.mp hz.2.1
    have g5 := ile_iff.mp hz.2.2
    have f2 := f.2
    rw [g1, hz.1, ile_iff.mpr (Int.le_trans g2 g4), ile_iff.mpr (Int.le_trans g5 g3)] at f2
    cases f2)
/-- the class's advance -/
theorem adv_C {nf : Bool} {xs : List Int32} {d P n : Nat} {r : Option Value} {h' : zH} (hP : P = 7 ∨ P = 31) (hn : n ≤ 99) : ∀ (N i : Nat) (k : zH), aH qW qG [0] [] k → rd k 55 2 = some (.ref P) → i ≤ n → RH nf xs d 5 false 4 none zt56 r h' N (2, [(3, .int (Int32.ofNat i)), (0, .ref 55), (1, .int (Int32.ofNat n)), (2, .ref 115)], [], k) → r = none ∧ aH qW qG [0] [] h' ∧ KP qcx0.2.2.2.2.1 k h' ∧ h'.length = k.length ∧ (gi h' 55 4, gi h' 55 5) = dmN (gi k P 10) (n - i) (gi k 55 4, gi k 55 5) := by
  intro N
  induction N with
  | zero => intro i k _ _ _ hr; exact hr.no.elim
  | succ N ih =>
    intro i k hH h2 hi hr
    have qi : (Int32.ofNat i).toInt = (i : Int) := xn_int (by omega)
    have qn : (Int32.ofNat n).toInt = (n : Int) := xn_int (by omega)
    replace hr := hr.go1 t56_2.1 (lsL rfl)
    replace hr := hr.go t56_3.1 (lsL rfl)
    by_cases e : i = n
    · subst e
      replace hr := hr.go t56_4.1 (zb_ge (b := true) (q := 18) (decide_eq_true (Int32.le_iff_toInt_le.mpr (Int.le_refl _))) rfl)
      obtain ⟨rfl, rfl⟩ := hr.ret t56_18.1 rfl
      refine ⟨rfl, hH, KP.rf0, rfl, ?_⟩
      rw [Nat.sub_self]
      rfl
    · replace hr := hr.go t56_4.1 (zb_ge (b := false) (q := 18) (decide_eq_false (fun z => by have := Int32.le_iff_toInt_le.mp z; omega)) rfl)
      replace hr : RH nf xs d 5 false 4 none zt56 r h' N (7, [(3, .int (Int32.ofNat i)), (0, .ref 55), (1, .int (Int32.ofNat n)), (2, .ref 115)], [], k) := hr
      replace hr := hr.go t56_7.1 (lsL rfl)
      replace hr := hr.go t56_8.1 (lsL rfl)
      obtain ⟨fs, hfs⟩ := lhd (a := 55) (t := 5) (n := 0) hH.1 (by decide +kernel) (by decide +kernel) (by decide +kernel)
      obtain ⟨r1, k1, e1, hr⟩ := hr.call (mi := 59) (as := [.ref 55, .ref 115]) (rest := []) t56_9.1 (zcl1 t56_9.2.2 rfl hfs rfl (show (1 : Nat) ≤ 2 by decide) rfl rfl)
      obtain ⟨rfl, g1, ⟨g2, g3⟩, g4⟩ := mile_C hH hP h2 e1
      have w2 : rd k1 55 2 = some (.ref P) := by rw [g2.pl (by decide +kernel) (by decide +kernel)]; exact h2
      have wL : gi k1 P 10 = gi k P 10 := gi_rd (g2.pl (by rcases hP with rfl | rfl <;> decide +kernel) (by rcases hP with rfl | rfl <;> decide +kernel))
      replace hr : RH nf xs d 5 false 4 none zt56 r h' N (12, [(3, .int (Int32.ofNat i)), (0, .ref 55), (1, .int (Int32.ofNat n)), (2, .ref 115)], [], k1) := hr
      replace hr := hr.go t56_12.1 (s := (15, [(3, .int (Int32.ofNat (i + 1))), (0, .ref 55), (1, .int (Int32.ofNat n)), (2, .ref 115)], [], k1)) (zg_iinc rfl (by decide) xn_1i)
      replace hr := hr.go t56_15.1 (zg_to (q := 2) rfl)
      obtain ⟨f1, f2, f3, f4, f5⟩ := ih (i + 1) k1 g1 w2 (by omega) hr
      refine ⟨f1, f2, g2.tr f3, f4.trans g3, ?_⟩
      rw [f5, wL, show n - i = (n - (i + 1)) + 1 by omega]
      show dmN _ _ _ = dmN _ _ (dmS _ _)
      congr 1
      unfold dmS
      rcases g4 with ⟨z1, z2, z3⟩ | ⟨z1, z2, z3⟩
      · rw [if_pos z1, z2, z3]
      · rw [if_neg (by dsimp only; omega), z2, z3]
/-! What stands ahead of the miles: as the engine goes. -/
def gbad (E : List aY) : Bool := match E[2]?, E[3]? with
  | some (0, l, u), some (0, l2, _) => ile u (-1) || (ile 100 l || ile 901 l2)
  | _, _ => false
def ggood (E : List aY) : Bool := match E[2]?, E[3]? with
  | some (0, l, u), some (0, _, u2) => ile 0 l && (ile u 99 && ile u2 900)
  | _, _ => false
/-- what can be undone: as it was, or nothing any more -/
def gun (E : List aY) (a : Option aV) (s : Nat) : Bool := match E[2]?, a with
  | some (0, l, u), some (.inl (z, d)) => (ile u 0 && (Nat.beq z s && ieq d 0)) || (ile 1 l && (Nat.beq z 0 && ieq d 0))
  | _, _ => false
def gsame (a : Option aV) (s : Nat) : Bool := match a with
  | some (.inl (z, d)) => Nat.beq z s && ieq d 0
  | _ => false
def gloc (ls : aLs) (k : Nat) (v : aV) : Bool := ls.any (fun p => Nat.beq p.1 k && aveq p.2 v)
theorem gloc_ok {ρ : List Int} {ls : aLs} {cl : zL} {k : Nat} {v : aV} (h : gloc ls k v = true) (hl : aLo ρ ls cl) : ∃ w : Value, zget cl k = some w ∧ av ρ v w := by
  obtain ⟨p, p1, p2⟩ := List.any_eq_true.mp h
  rw [Bool.and_eq_true] at p2
  obtain ⟨w, w1, w2⟩ := hl p p1
  have e := Nat.eq_of_beq_eq_true p2.1
  have e2 := aveq_ok p2.2
  rw [e] at w1
  rw [e2] at w2
  exact ⟨w, w1, w2⟩
def goD : List aD := [(37, 0, 0, 3, 3), (36, 0, 0, 0, 4)]
def goP : aP := (qY, zIT, zmcl, qW, qPt, goD)
def goS : aS := ([(0, 0, 0), (2, 0, 0), (0, -2147483648, 2147483647), (0, -2147483648, 2147483647), (2, 31, 31), (2, 37, 37), (0, 0, 20)], [(0, .inr (.inr (.inl 1))), (1, .inl (2, 0))], [], [((1, 0, 7), .inr (.inr (.inl 4))), ((4, 0, 4), .inl (3, 0)), ((1, 0, 13), .inr (.inr (.inl 5))), ((5, 0, 3), .inl (6, 0))])
def gst24 (st : List aV) : Bool := match st with
  | [.inl (0, d)] => ieq d (-1)
  | _ => false
def gst48 (E : List aY) (st : List aV) : Bool := match st with
  | [.inr (.inr (.inl s)), .inl (n, d), .inr (.inr (.inl w))] => (match E[s]? with
    | some (2, so, _) => ieq so 36
    | _ => false) && (Nat.beq n 2 && (ieq d 0 && Nat.beq w 4))
  | _ => false
def gon (pc : Nat) (S : aS) : Bool := (akill qW S.1 (fun _ => false) S.2.2.2).isSome && ((Nat.beq pc 24 && (gbad S.1 && (gst24 S.2.2.1 && gsame (amg S.2.2.2 (5, 0, 3)) 6))) || (Nat.beq pc 48 && (ggood S.1 && (gst48 S.1 S.2.2.1 && (gun S.1 (amg S.2.2.2 (5, 0, 3)) 6 && gloc S.2.1 0 (.inr (.inr (.inl 1))))))))
def gock : Bool := match zMt 120 with
  | some w => match arun goP (acals goP zMt qKB qK0 (0, []) 6) gon w.1 w.2.2.1 w.2.2.2.1 w.2.2.2.2 300 true 0 goS with
    | some [] => true
    | _ => false
  | none => false
theorem gock_ok : gock = true := by decide +kernel
theorem yR120 : zMt 120 = some (10, false, 2, some .int, zt120) := rfl
theorem qun36 {a : Nat} (ha : a < qW.1.length) (hs : (asrt qW a : Int) = ((36 : Nat) : Int)) : a = 115 := qun (by decide +kernel) ha hs
/-- the class's go -/
theorem go_C {nf : Bool} {xs : List Int32} {d P : Nat} {x : Int32} {h h' : zH} {r : Option Value} (hd : d ≤ 966) (hH : aH qW qG [0] [] h) (hP : P = 7 ∨ P = 31) (r7 : rd h 0 7 = some (.ref 55)) (r13 : rd h 0 13 = some (.ref 116)) (h2 : rd h 55 2 = some (.ref P)) (e : zEv (zXt nf xs) zIT zmcl zMt d 120 [.ref 0, .int x] h r h') : ((x.toInt < 0 ∨ 99 < x.toInt ∨ 900 < (gi h 55 4).toInt) ∧ r = some (.int (-1)) ∧ gi h' 55 4 = gi h 55 4 ∧ gi h' 55 5 = gi h 55 5 ∧ gi h' 116 3 = gi h 116 3) ∨ ∃ n : Nat, n ≤ 99 ∧ x = Int32.ofNat n ∧ (gi h 55 4).toInt ≤ 900 ∧ r = some (.int (gi h' 55 5)) ∧ (gi h' 55 4, gi h' 55 5) = dmN (gi h P 10) n (gi h 55 4, gi h 55 5) ∧ gi h' 116 3 = if n = 0 then gi h 116 3 else 0 := by
  have e := zEv_le (show d ≤ 967 by omega) e
  obtain ⟨c0, ini0, nL0, rt0, tab0, n0, mt0, -, e⟩ := e
  rw [yR120] at mt0
  cases mt0
  have hr : RH nf xs 966 10 false 2 (some .int) zt120 r h' (n0 + 1) (0, lv_args 0 [.ref 0, .int x], [], h) := ⟨n0, by omega, e⟩
  have hX := qXX nf xs
  have hK : ∀ (mi : Nat) (q : aQ), q ∈ qKB mi → q.1 = mi ∧ aCon qW qG (zEv (zXt nf xs) zIT zmcl zMt 960) q (fun _ => True) := fun mi q hq => ⟨(qB_ok nf xs mi q hq).1, (qB_ok nf xs mi q hq).2.mono (fun _ _ _ _ _ z => zEv_le (by decide) z)⟩
  obtain ⟨D, d1, d2, -, -⟩ := iv_of (a := 55) (k := 4) (l := -2147483648) (u := 2147483647) hH (by decide +kernel) (by decide +kernel)
  obtain ⟨U, u1, u2, u3, u4⟩ := iv_of (a := 116) (k := 3) (l := 0) (u := 20) hH (by decide +kernel) (by decide +kernel)
  have E1 := (((((aE0.push (t := (2, 0, 0)) (z := 0) (asR (so := 0) (c := 0) (by decide +kernel) (by decide +kernel))).push (t := (0, -2147483648, 2147483647)) (z := x.toInt) (ab x)).push (t := (0, -2147483648, 2147483647)) (z := D.toInt) (ab D)).push (t := (2, 31, 31)) (z := 55) (asR (so := 31) (c := 55) (by decide +kernel) (by decide +kernel))).push (t := (2, 37, 37)) (z := 116) (asR (so := 37) (c := 116) (by decide +kernel) (by decide +kernel))).push (t := (0, 0, 20)) (z := U.toInt) ⟨u3, u4⟩
  have hE : aE qW goS.1 [0, 0, x.toInt, D.toInt, 55, 116, U.toInt] := E1
  have a1 := aH_add (q := (5, 0, 3)) (b := .inl (6, 0)) (a := 116) (k := 3) (v := .int U) (aH_nil (ρ' := [0, 0, x.toInt, D.toInt, 55, 116, U.toInt]) hH) (qden (k := 3) (c := 116) (r := 5) hE (by decide) rfl) (by decide +kernel) (by decide +kernel) (by rw [qrdx (qG_off (by decide) (by decide))]; exact u1) ⟨U, ⟨U.toInt, rfl, i32i.symm⟩, rfl⟩
  have a2 := aH_add (q := (1, 0, 13)) (b := .inr (.inr (.inl 5))) (a := 0) (k := 13) (v := .ref 116) a1 (qden (k := 13) (c := 0) (r := 1) hE (by decide) rfl) (by decide +kernel) (by decide +kernel) (by rw [qrdx (qG_off (by decide) (by decide))]; exact r13) ⟨116, rfl, rfl⟩
  have a3 := aH_add (q := (4, 0, 4)) (b := .inl (3, 0)) (a := 55) (k := 4) (v := .int D) a2 (qden (k := 4) (c := 55) (r := 4) hE (by decide) rfl) (by decide +kernel) (by decide +kernel) (by rw [qrdx (qG_off (by decide) (by decide))]; exact d1) ⟨D, ⟨D.toInt, rfl, i32i.symm⟩, rfl⟩
  have a4 := aH_add (q := (1, 0, 7)) (b := .inr (.inr (.inl 4))) (a := 0) (k := 7) (v := .ref 55) a3 (qden (k := 7) (c := 0) (r := 1) hE (by decide) rfl) (by decide +kernel) (by decide +kernel) (by rw [qrdx (qG_off (by decide) (by decide))]; exact r7) ⟨55, rfl, rfl⟩
  have hcal := acals_dp (h0 := h) (D := goD) (ms0 := (0, [])) (ρ0 := [0, 0, x.toInt, D.toInt, 55, 116, U.toInt]) hX qGok qL (fun t ht => by cases ht) hK (Kn := qK0) (fun mi q hq => by cases hq) 6
  have hck := gock_ok
  unfold gock at hck
  rw [yR120] at hck
  dsimp only at hck
  split at hck
  · next ho =>
    have hst : aSt [0, 0, x.toInt, D.toInt, 55, 116, U.toInt] [.inr (.inr (.inl 1)), .inl (2, 0)] [.ref 0, .int x] := ⟨_, _, rfl, ⟨0, rfl, rfl⟩, _, _, rfl, ⟨x, ⟨x.toInt, rfl, i32i.symm⟩, rfl⟩, rfl⟩
    obtain ⟨k, pc', S', ρ', cl', cst', k', e1, e2, -, e3, e4⟩ := arun_gq (ini := false) (Q := aext [0, 0, x.toInt, D.toInt, 55, 116, U.toInt]) hX qGok qL (fun _ _ a b => a.trans b) hcal 300 true 0 goS _ (lv_args 0 [.ref 0, .int x]) [] h ho aext.rf ⟨hE, fun p hp => (aloc_ok _ _ 0 hst p hp).2, rfl, a4, aF.rf⟩
    obtain ⟨N1, hr⟩ := hr.after e1
    obtain ⟨gE, gL, gS, gH, gF⟩ := e4
    unfold gon at e2
    rw [Bool.and_eq_true, Bool.or_eq_true] at e2
    have hH1 := kill_nil gE gH e2.1
    have hkp : KP goD h k' := KP_of gF
    have k4 : gi k' 55 4 = gi h 55 4 := gi_rd (hkp.pl (by decide +kernel) (by decide +kernel))
    have k5 : gi k' 55 5 = gi h 55 5 := gi_rd (hkp.pl (by decide +kernel) (by decide +kernel))
    have s2 : ρ'[2]? = some x.toInt := e3.get rfl
    have s3 : ρ'[3]? = some D.toInt := e3.get rfl
    have s5 : ρ'[5]? = some ((116 : Nat) : Int) := e3.get rfl
    have s6 : ρ'[6]? = some U.toInt := e3.get rfl
    have s0 : ρ'[0]? = some 0 := gE.2.1
    have iv : ∀ (j : Nat) (z l u : Int), ρ'[j]? = some z → S'.1[j]? = some (0, l, u) → l ≤ z ∧ z ≤ u := fun j z l u h1 h2 => gE.2.2 j (0, l, u) z h2 h1
    rcases e2.2 with q | q
    · rw [Bool.and_eq_true, Bool.and_eq_true, Bool.and_eq_true] at q
      obtain ⟨q1, q2, q3, q4⟩ := q
      have ep := Nat.eq_of_beq_eq_true q1
      subst ep
      have hc : cst' = [.int (-1)] := by
        unfold gst24 at q3
        split at q3
        · next dd hs0 =>
          rw [hs0] at gS
          obtain ⟨b, bs, rfl, ⟨z, ⟨w, w1, w2⟩, rfl⟩, hbs⟩ := gS
          rw [s0] at w1
          cases w1
          rw [show bs = [] from hbs, w2, ieq_ok q3]
          rfl
        · cases q3
      subst hc
      obtain ⟨rfl, rfl⟩ := hr.ret (v := some (.int (-1))) t120_24.1 zri
      refine Or.inl ⟨?_, rfl, k4, k5, ?_⟩
      · unfold gbad at q2
        split at q2
        · next l u l2 u2 t2 t3 =>
          have b2 := iv 2 _ _ _ s2 t2
          have b3 := iv 3 _ _ _ s3 t3
          rw [Bool.or_eq_true, Bool.or_eq_true] at q2
          rw [d2]
          rcases q2 with z | z | z
          · have := ile_iff.mp z; exact Or.inl (by omega)
          · have := ile_iff.mp z; exact Or.inr (Or.inl (by omega))
          · have := ile_iff.mp z; exact Or.inr (Or.inr (by omega))
        · cases q2
      · unfold gsame at q4
        split at q4
        · next z dd hz =>
          rw [Bool.and_eq_true] at q4
          rw [Nat.eq_of_beq_eq_true q4.1, ieq_ok q4.2] at hz
          rw [mg_int (k := 3) (s := 6) (d := 0) gE gH (by decide) s5 (off_ge (by decide) (by decide)) hz s6, u2]
          exact i32i
        · cases q4
    · rw [Bool.and_eq_true, Bool.and_eq_true, Bool.and_eq_true, Bool.and_eq_true] at q
      obtain ⟨q1, q2, q3, q4, q5⟩ := q
      have ep := Nat.eq_of_beq_eq_true q1
      subst ep
      have hb : 0 ≤ x.toInt ∧ x.toInt ≤ 99 ∧ D.toInt ≤ 900 := by
        unfold ggood at q2
        split at q2
        · next l u l2 u2 t2 t3 =>
          have b2 := iv 2 _ _ _ s2 t2
          have b3 := iv 3 _ _ _ s3 t3
          rw [Bool.and_eq_true, Bool.and_eq_true] at q2
          have z1 := ile_iff.mp q2.1
          have z2 := ile_iff.mp q2.2.1
          have z3 := ile_iff.mp q2.2.2
          omega
        · cases q2
      have hc : cst' = [.ref 115, .int x, .ref 55] := by
        unfold gst48 at q3
        split at q3
        · next s nn dd w hs0 =>
          rw [hs0] at gS
          obtain ⟨b1, bs1, rfl, ⟨n1, v1, rfl⟩, b2, bs2, rfl, ⟨y, ⟨w2, w3, w4⟩, rfl⟩, b3, bs3, rfl, ⟨n3, v3, rfl⟩, hbs⟩ := gS
          rw [Bool.and_eq_true, Bool.and_eq_true, Bool.and_eq_true] at q3
          obtain ⟨p1, p2, p3, p4⟩ := q3
          rw [Nat.eq_of_beq_eq_true p2, s2] at w3
          cases w3
          have s4 : ρ'[4]? = some ((55 : Nat) : Int) := e3.get rfl
          rw [Nat.eq_of_beq_eq_true p4] at v3
          have n55 : n3 = 55 := Int.ofNat_inj.mp (Option.some.inj (v3.symm.trans s4))
          split at p1
          · next so b hse =>
            have o := asort_of gE hse v1
            rw [ieq_ok p1] at o
            rw [qun36 o.1 o.2, show bs3 = [] from hbs, w4, ieq_ok p3, i32i, n55]
          · cases p1
        · cases q3
      subst hc
      obtain ⟨n, hxn⟩ : ∃ n : Nat, n = x.toNatClampNeg := ⟨_, rfl⟩
      have hx : x = Int32.ofNat n := by rw [hxn]; exact xn_of hb.1
      have hn : n ≤ 99 := by rw [hxn, Int32.toNatClampNeg]; omega
      have w2 : rd k' 55 2 = some (.ref P) := by rw [hkp.pl (by decide +kernel) (by decide +kernel)]; exact h2
      have w7 : rd k' 0 7 = some (.ref 55) := by rw [hkp.pl (by decide +kernel) (by decide +kernel)]; exact r7
      have wL : gi k' P 10 = gi h P 10 := gi_rd (hkp.pl (by rcases hP with rfl | rfl <;> decide +kernel) (by rcases hP with rfl | rfl <;> decide +kernel))
      obtain ⟨fs, hfs⟩ := lhd (a := 55) (t := 5) (n := 0) hH1.1 (by decide +kernel) (by decide +kernel) (by decide +kernel)
      obtain ⟨r1, k1, c1, hr⟩ := hr.call (mi := 56) (as := [.ref 55, .int x, .ref 115]) (rest := []) t120_48.1 (zcl1 t120_48.2.2 rfl hfs rfl (show (2 : Nat) ≤ 3 by decide) rfl rfl)
      obtain ⟨c2, ini2, nL2, rt2, tab2, n2, mt2, -, c1⟩ := zEv_le (show 966 ≤ 967 by omega) c1
      rw [show zMt 56 = some (5, false, 4, none, zt56) from rfl] at mt2
      cases mt2
      have hr2 : RH nf xs 966 5 false 4 none zt56 r1 k1 (n2 + 1) (0, [(0, .ref 55), (1, .int (Int32.ofNat n)), (2, .ref 115)], [], k') := ⟨n2, by omega, by rw [← hx]; exact c1⟩
      replace hr2 := hr2.go (show zt56 0 = some (.iconst 0, 1) from rfl) (s := (1, [(0, .ref 55), (1, .int (Int32.ofNat n)), (2, .ref 115)], [.int (Int32.ofNat 0)], k')) (lsL rfl)
      replace hr2 := hr2.go t56_1.1 (s := (2, [(3, .int (Int32.ofNat 0)), (0, .ref 55), (1, .int (Int32.ofNat n)), (2, .ref 115)], [], k')) (lsL rfl)
      obtain ⟨rfl, f2, f3, f4, f5⟩ := adv_C hP hn _ 0 k' hH1 w2 (Nat.zero_le _) hr2
      replace hr : RH nf xs 966 10 false 2 (some .int) zt120 r h' N1 (51, cl', [], k1) := hr
      obtain ⟨v0, v1, v2⟩ := gloc_ok q5 gL
      obtain ⟨m0, m1, rfl⟩ := (show ∃ n : Nat, ρ'[1]? = some (n : Int) ∧ v0 = .ref n from v2)
      have s1 : ρ'[1]? = some ((0 : Nat) : Int) := e3.get rfl
      have m00 : m0 = 0 := Int.ofNat_inj.mp (Option.some.inj (m1.symm.trans s1))
      subst m00
      obtain ⟨gs0, hgs0⟩ := lhd (a := 0) (t := 10) (n := 0) f2.1 (by decide +kernel) (by decide +kernel) (by decide +kernel)
      obtain ⟨gs5, hgs5⟩ := lhd (a := 55) (t := 5) (n := 0) f2.1 (by decide +kernel) (by decide +kernel) (by decide +kernel)
      have y7 : rd k1 0 7 = some (.ref 55) := by rw [f3.pl (by decide +kernel) (by decide +kernel)]; exact w7
      obtain ⟨M, y1, y2, -, -⟩ := iv_of (a := 55) (k := 5) (l := 0) (u := 60) f2 (by decide +kernel) (by decide +kernel)
      replace hr := hr.go t120_51.1 (s := (52, cl', [.ref 0], k1)) (lsL (by simp only [zstL]; first | rw [show zget cl' ((0 : Fin 4) : Nat) = some (.ref 0) from v1] | rw [v1]))
      replace hr := hr.go t120_52.1 (zgetf t120_52.2.2.1 hgs0 y7)
      replace hr := hr.go t120_55.1 (zgetf t120_55.2.2.1 hgs5 y1)
      obtain ⟨rfl, rfl⟩ := hr.ret (v := some (.int M)) t120_58.1 zri
      refine Or.inr ⟨n, hn, hx, by rw [d2]; exact hb.2.2, by rw [y2], ?_, ?_⟩
      · rw [f5, wL, k4, k5, Nat.sub_zero]
      · rw [gi_rd (f3.pl (by decide +kernel) (by decide +kernel))]
        unfold gun at q4
        split at q4
        · next l u z dd t2 hz =>
          have b2 := iv 2 _ _ _ s2 t2
          rw [Bool.or_eq_true, Bool.and_eq_true, Bool.and_eq_true, Bool.and_eq_true, Bool.and_eq_true] at q4
          have qn : x.toInt = (n : Int) := by rw [hx]; exact xn_int (by omega)
          rcases q4 with ⟨z1, z2, z3⟩ | ⟨z1, z2, z3⟩
          · have := ile_iff.mp z1
            rw [if_pos (by omega)]
            rw [Nat.eq_of_beq_eq_true z2, ieq_ok z3] at hz
            rw [mg_int (k := 3) (s := 6) (d := 0) gE gH (by decide) s5 (off_ge (by decide) (by decide)) hz s6, u2]
            exact i32i
          · have := ile_iff.mp z1
            rw [if_neg (by omega)]
            rw [Nat.eq_of_beq_eq_true z2, ieq_ok z3] at hz
            rw [mg_int (k := 3) (s := 0) (d := 0) gE gH (by decide) s5 (off_ge (by decide) (by decide)) hz s0]
            rfl
        · cases q4
  · cases hck
end
section
/-! go of the reference, exactly. -/
theorem lp_R {nf : Bool} {xs : List Int32} {d n : Nat} {r : Option Value} {h' : zH} (hn : n ≤ 99) : ∀ (N i : Nat) (cl : zL) (k : zH), aH qW qG [0] [] k → rd k 128 3 = some (.ref 130) → rd k 128 37 = some (.ref 150) → rd k 128 38 = some (.ref 151) → i ≤ n → zget cl 0 = some (.ref 128) → zget cl 1 = some (.int (Int32.ofNat n)) → zget cl 2 = some (.int (Int32.ofNat i)) → RH nf xs d 11 false 3 (some .int) zt228 r h' N (40, cl, [], k) → r = some (.int (gi h' 151 0)) ∧ KP qcx1.2.2.2.2.1 k h' ∧ (gi h' 150 0, gi h' 151 0) = dmN (gi k 130 0) (n - i) (gi k 150 0, gi k 151 0) := by
  intro N
  induction N with
  | zero => intro i cl k _ _ _ _ _ _ _ _ hr; exact hr.no.elim
  | succ N ih =>
    intro i cl k hH r3 r37 r38 hi g0 g1 g2 hr
    have qi : (Int32.ofNat i).toInt = (i : Int) := xn_int (by omega)
    have qn : (Int32.ofNat n).toInt = (n : Int) := xn_int (by omega)
    obtain ⟨fs, hfs⟩ := lhd (a := 128) (t := 11) (n := 0) hH.1 (by decide +kernel) (by decide +kernel) (by decide +kernel)
    replace hr := hr.go1 t228_40.1 (s := (41, cl, [.int (Int32.ofNat i)], k)) (lsL (by simp only [zstL]; first | rw [show zget cl ((2 : Fin 4) : Nat) = _ from g2] | rw [g2]))
    replace hr := hr.go t228_41.1 (s := (42, cl, [.int (Int32.ofNat n), .int (Int32.ofNat i)], k)) (lsL (by simp only [zstL]; first | rw [show zget cl ((1 : Fin 4) : Nat) = _ from g1] | rw [g1]))
    by_cases e : i = n
    · subst e
      replace hr := hr.go t228_42.1 (zb_ge (b := true) (q := 56) (decide_eq_true (Int32.le_iff_toInt_le.mpr (Int.le_refl _))) rfl)
      replace hr : RH nf xs d 11 false 3 (some .int) zt228 r h' N (56, cl, [], k) := hr
      obtain ⟨M, y1, y2, -, -⟩ := iv_of (a := 151) (k := 0) (l := 0) (u := 60) hH (by decide +kernel) (by decide +kernel)
      obtain ⟨l, l1, l2⟩ := lA1 (a := 151) (n := 24) hH.1 (by decide +kernel)
      replace hr := hr.go t228_56.1 (s := (57, cl, [.ref 128], k)) (lsL (by simp only [zstL]; first | rw [show zget cl ((0 : Fin 4) : Nat) = _ from g0] | rw [g0]))
      replace hr := hr.go t228_57.1 (zgetf t228_57.2.2.1 hfs r38)
      replace hr := hr.go (show zt228 60 = some (.iconst 0, 1) from rfl) (s := (61, cl, [.int 0, .ref 151], k)) (lsL rfl)
      replace hr := hr.go t228_61.1 (zial l1 l2 y1)
      obtain ⟨rfl, rfl⟩ := hr.ret (v := some (.int M)) t228_62.1 zri
      refine ⟨by rw [y2], KP.rf0, ?_⟩
      rw [Nat.sub_self]
      rfl
    · replace hr := hr.go t228_42.1 (zb_ge (b := false) (q := 56) (decide_eq_false (fun z => by have := Int32.le_iff_toInt_le.mp z; omega)) rfl)
      replace hr : RH nf xs d 11 false 3 (some .int) zt228 r h' N (45, cl, [], k) := hr
      replace hr := hr.go t228_45.1 (s := (46, cl, [.ref 128], k)) (lsL (by simp only [zstL]; first | rw [show zget cl ((0 : Fin 4) : Nat) = _ from g0] | rw [g0]))
      replace hr := hr.go (show zt228 46 = some (.iconst 0, 1) from rfl) (s := (47, cl, [.int 0, .ref 128], k)) (lsL rfl)
      obtain ⟨r1, k1, e1, hr⟩ := hr.call (mi := 210) (as := [.ref 128, .int 0]) (rest := []) t228_47.1 (zcl1 t228_47.2.2 rfl hfs rfl (show (1 : Nat) ≤ 2 by decide) rfl rfl)
      obtain ⟨rfl, p1, ⟨p2, p3⟩, p4⟩ := mile_R hH r3 r37 r38 e1
      have w3 : rd k1 128 3 = some (.ref 130) := by rw [p2.pl (by decide +kernel) (by decide +kernel)]; exact r3
      have w37 : rd k1 128 37 = some (.ref 150) := by rw [p2.pl (by decide +kernel) (by decide +kernel)]; exact r37
      have w38 : rd k1 128 38 = some (.ref 151) := by rw [p2.pl (by decide +kernel) (by decide +kernel)]; exact r38
      have wL : gi k1 130 0 = gi k 130 0 := gi_rd (p2.pl (by decide +kernel) (by decide +kernel))
      replace hr : RH nf xs d 11 false 3 (some .int) zt228 r h' N (50, cl, [], k1) := hr
      replace hr := hr.go t228_50.1 (s := (53, zset1 cl 2 (.int (Int32.ofNat (i + 1))), [], k1)) (zg_iinc g2 (by decide) xn_1i)
      replace hr := hr.go t228_53.1 (zg_to (q := 40) rfl)
      obtain ⟨f1, f2, f3⟩ := ih (i + 1) _ k1 p1 w3 w37 w38 (by omega) (zset_oth (by decide) g0 rfl) (zset_oth (by decide) g1 rfl) zset_same hr
      refine ⟨f1, p2.tr f2, ?_⟩
      rw [f3, wL, show n - i = (n - (i + 1)) + 1 by omega]
      show dmN _ _ _ = dmN _ _ (dmS _ _)
      congr 1
      unfold dmS
      rcases p4 with ⟨z1, z2, z3⟩ | ⟨z1, z2, z3⟩
      · rw [if_pos z1, z2, z3]
      · rw [if_neg (by dsimp only; omega), z2, z3]
def grD : List aD := [(49, 0, 0, 0, 0), (49, 0, 0, 54, 54)]
def grP : aP := (qY, zIT, zmcl, qW, qPt, grD)
def grS : aS := ([(0, 0, 0), (2, 49, 49), (0, -2147483648, 2147483647), (0, -2147483648, 2147483647), (2, 71, 71), (0, 0, 20)], [(0, .inr (.inr (.inl 1))), (1, .inl (2, 0))], [], [((1, 0, 37), .inr (.inr (.inl 4))), ((4, 0, 0), .inl (3, 0)), ((1, 0, 54), .inl (5, 0))])
def grn (pc : Nat) (S : aS) : Bool := (akill qW S.1 (fun _ => false) S.2.2.2).isSome && ((Nat.beq pc 28 && (gbad S.1 && (gst24 S.2.2.1 && gsame (amg S.2.2.2 (1, 0, 54)) 5))) || (Nat.beq pc 40 && (ggood S.1 && (anil S.2.2.1 && (gun S.1 (amg S.2.2.2 (1, 0, 54)) 5 && (gloc S.2.1 0 (.inr (.inr (.inl 1))) && (gloc S.2.1 1 (.inl (2, 0)) && gloc S.2.1 2 (.inl (0, 0)))))))))
def grck : Bool := match zMt 228 with
  | some w => match arun grP (acals grP zMt qKB qK0 (0, []) 6) grn w.1 w.2.2.1 w.2.2.2.1 w.2.2.2.2 300 true 0 grS with
    | some [] => true
    | _ => false
  | none => false
theorem grck_ok : grck = true := by decide +kernel
theorem yR228 : zMt 228 = some (11, false, 3, some .int, zt228) := rfl
/-- the reference's go -/
theorem go_R {nf : Bool} {xs : List Int32} {d : Nat} {x : Int32} {h h' : zH} {r : Option Value} (hd : d ≤ 966) (hH : aH qW qG [0] [] h) (r3 : rd h 128 3 = some (.ref 130)) (r37 : rd h 128 37 = some (.ref 150)) (r38 : rd h 128 38 = some (.ref 151)) (e : zEv (zXt nf xs) zIT zmcl zMt d 228 [.ref 128, .int x] h r h') : ((x.toInt < 0 ∨ 99 < x.toInt ∨ 900 < (gi h 150 0).toInt) ∧ r = some (.int (-1)) ∧ gi h' 150 0 = gi h 150 0 ∧ gi h' 151 0 = gi h 151 0 ∧ gi h' 128 54 = gi h 128 54) ∨ ∃ n : Nat, n ≤ 99 ∧ x = Int32.ofNat n ∧ (gi h 150 0).toInt ≤ 900 ∧ r = some (.int (gi h' 151 0)) ∧ (gi h' 150 0, gi h' 151 0) = dmN (gi h 130 0) n (gi h 150 0, gi h 151 0) ∧ gi h' 128 54 = if n = 0 then gi h 128 54 else 0 := by
  have e := zEv_le (show d ≤ 967 by omega) e
  obtain ⟨c0, ini0, nL0, rt0, tab0, n0, mt0, -, e⟩ := e
  rw [yR228] at mt0
  cases mt0
  have hr : RH nf xs 966 11 false 3 (some .int) zt228 r h' (n0 + 1) (0, lv_args 0 [.ref 128, .int x], [], h) := ⟨n0, by omega, e⟩
  have hX := qXX nf xs
  have hK : ∀ (mi : Nat) (q : aQ), q ∈ qKB mi → q.1 = mi ∧ aCon qW qG (zEv (zXt nf xs) zIT zmcl zMt 960) q (fun _ => True) := fun mi q hq => ⟨(qB_ok nf xs mi q hq).1, (qB_ok nf xs mi q hq).2.mono (fun _ _ _ _ _ z => zEv_le (by decide) z)⟩
  obtain ⟨D, d1, d2, -, -⟩ := iv_of (a := 150) (k := 0) (l := -2147483648) (u := 2147483647) hH (by decide +kernel) (by decide +kernel)
  obtain ⟨U, u1, u2, u3, u4⟩ := iv_of (a := 128) (k := 54) (l := 0) (u := 20) hH (by decide +kernel) (by decide +kernel)
  have E1 := ((((aE0.push (t := (2, 49, 49)) (z := 128) (asR (so := 49) (c := 128) (by decide +kernel) (by decide +kernel))).push (t := (0, -2147483648, 2147483647)) (z := x.toInt) (ab x)).push (t := (0, -2147483648, 2147483647)) (z := D.toInt) (ab D)).push (t := (2, 71, 71)) (z := 150) (asR (so := 71) (c := 150) (by decide +kernel) (by decide +kernel))).push (t := (0, 0, 20)) (z := U.toInt) ⟨u3, u4⟩
  have hE : aE qW grS.1 [0, 128, x.toInt, D.toInt, 150, U.toInt] := E1
  have a1 := aH_add (q := (1, 0, 54)) (b := .inl (5, 0)) (a := 128) (k := 54) (v := .int U) (aH_nil (ρ' := [0, 128, x.toInt, D.toInt, 150, U.toInt]) hH) (qden (k := 54) (c := 128) (r := 1) hE (by decide) rfl) (by decide +kernel) (by decide +kernel) (by rw [qrdx (qG_real (by decide +kernel) (by decide +kernel))]; exact u1) ⟨U, ⟨U.toInt, rfl, i32i.symm⟩, rfl⟩
  have a2 := aH_add (q := (4, 0, 0)) (b := .inl (3, 0)) (a := 150) (k := 0) (v := .int D) a1 (qden (k := 0) (c := 150) (r := 4) hE (by decide) rfl) (by decide +kernel) (by decide +kernel) (by rw [qrdx (qG_off (by decide) (by decide))]; exact d1) ⟨D, ⟨D.toInt, rfl, i32i.symm⟩, rfl⟩
  have a3 := aH_add (q := (1, 0, 37)) (b := .inr (.inr (.inl 4))) (a := 128) (k := 37) (v := .ref 150) a2 (qden (k := 37) (c := 128) (r := 1) hE (by decide) rfl) (by decide +kernel) (by decide +kernel) (by rw [qrdx (qG_real (by decide +kernel) (by decide +kernel))]; exact r37) ⟨150, rfl, rfl⟩
  have hcal := acals_dp (h0 := h) (D := grD) (ms0 := (0, [])) (ρ0 := [0, 128, x.toInt, D.toInt, 150, U.toInt]) hX qGok qL (fun t ht => by cases ht) hK (Kn := qK0) (fun mi q hq => by cases hq) 6
  have hck := grck_ok
  unfold grck at hck
  rw [yR228] at hck
  dsimp only at hck
  split at hck
  · next ho =>
    have hst : aSt [0, 128, x.toInt, D.toInt, 150, U.toInt] [.inr (.inr (.inl 1)), .inl (2, 0)] [.ref 128, .int x] := ⟨_, _, rfl, ⟨128, rfl, rfl⟩, _, _, rfl, ⟨x, ⟨x.toInt, rfl, i32i.symm⟩, rfl⟩, rfl⟩
    obtain ⟨k, pc', S', ρ', cl', cst', k', e1, e2, -, e3, e4⟩ := arun_gq (ini := false) (Q := aext [0, 128, x.toInt, D.toInt, 150, U.toInt]) hX qGok qL (fun _ _ a b => a.trans b) hcal 300 true 0 grS _ (lv_args 0 [.ref 128, .int x]) [] h ho aext.rf ⟨hE, fun p hp => (aloc_ok _ _ 0 hst p hp).2, rfl, a3, aF.rf⟩
    obtain ⟨N1, hr⟩ := hr.after e1
    obtain ⟨gE, gL, gS, gH, gF⟩ := e4
    unfold grn at e2
    rw [Bool.and_eq_true, Bool.or_eq_true] at e2
    have hH1 := kill_nil gE gH e2.1
    have hkp : KP grD h k' := KP_of gF
    have k4 : gi k' 150 0 = gi h 150 0 := gi_rd (hkp.pl (by decide +kernel) (by decide +kernel))
    have k5 : gi k' 151 0 = gi h 151 0 := gi_rd (hkp.pl (by decide +kernel) (by decide +kernel))
    have s2 : ρ'[2]? = some x.toInt := e3.get rfl
    have s3 : ρ'[3]? = some D.toInt := e3.get rfl
    have s1 : ρ'[1]? = some ((128 : Nat) : Int) := e3.get rfl
    have s5 : ρ'[5]? = some U.toInt := e3.get rfl
    have s0 : ρ'[0]? = some 0 := gE.2.1
    have iv : ∀ (j : Nat) (z l u : Int), ρ'[j]? = some z → S'.1[j]? = some (0, l, u) → l ≤ z ∧ z ≤ u := fun j z l u h1 h2 => gE.2.2 j (0, l, u) z h2 h1
    have o128 : ∀ g : zH, qG 128 54 g = none := fun _ => qG_real (by decide +kernel) (by decide +kernel)
    rcases e2.2 with q | q
    · rw [Bool.and_eq_true, Bool.and_eq_true, Bool.and_eq_true] at q
      obtain ⟨q1, q2, q3, q4⟩ := q
      have ep := Nat.eq_of_beq_eq_true q1
      subst ep
      have hc : cst' = [.int (-1)] := by
        unfold gst24 at q3
        split at q3
        · next dd hs0 =>
          rw [hs0] at gS
          obtain ⟨b, bs, rfl, ⟨z, ⟨w, w1, w2⟩, rfl⟩, hbs⟩ := gS
          rw [s0] at w1
          cases w1
          rw [show bs = [] from hbs, w2, ieq_ok q3]
          rfl
        · cases q3
      subst hc
      obtain ⟨rfl, rfl⟩ := hr.ret (v := some (.int (-1))) t228_28.1 zri
      refine Or.inl ⟨?_, rfl, k4, k5, ?_⟩
      · unfold gbad at q2
        split at q2
        · next l u l2 u2 t2 t3 =>
          have b2 := iv 2 _ _ _ s2 t2
          have b3 := iv 3 _ _ _ s3 t3
          rw [Bool.or_eq_true, Bool.or_eq_true] at q2
          rw [d2]
          rcases q2 with z | z | z
          · have := ile_iff.mp z; exact Or.inl (by omega)
          · have := ile_iff.mp z; exact Or.inr (Or.inl (by omega))
          · have := ile_iff.mp z; exact Or.inr (Or.inr (by omega))
        · cases q2
      · unfold gsame at q4
        split at q4
        · next z dd hz =>
          rw [Bool.and_eq_true] at q4
          rw [Nat.eq_of_beq_eq_true q4.1, ieq_ok q4.2] at hz
          rw [mg_int (k := 54) (s := 5) (d := 0) gE gH (by decide) s1 o128 hz s5, u2]
          exact i32i
        · cases q4
    · rw [Bool.and_eq_true, Bool.and_eq_true, Bool.and_eq_true, Bool.and_eq_true, Bool.and_eq_true, Bool.and_eq_true] at q
      obtain ⟨q1, q2, q3, q4, q5, q6, q7⟩ := q
      have ep := Nat.eq_of_beq_eq_true q1
      subst ep
      have hb : 0 ≤ x.toInt ∧ x.toInt ≤ 99 ∧ D.toInt ≤ 900 := by
        unfold ggood at q2
        split at q2
        · next l u l2 u2 t2 t3 =>
          have b2 := iv 2 _ _ _ s2 t2
          have b3 := iv 3 _ _ _ s3 t3
          rw [Bool.and_eq_true, Bool.and_eq_true] at q2
          have z1 := ile_iff.mp q2.1
          have z2 := ile_iff.mp q2.2.1
          have z3 := ile_iff.mp q2.2.2
          omega
        · cases q2
      have hc : cst' = [] := by
        rw [anil_nq q3] at gS
        exact gS
      subst hc
      obtain ⟨n, hxn⟩ : ∃ n : Nat, n = x.toNatClampNeg := ⟨_, rfl⟩
      have hx : x = Int32.ofNat n := by rw [hxn]; exact xn_of hb.1
      have hn : n ≤ 99 := by rw [hxn, Int32.toNatClampNeg]; omega
      have w3 : rd k' 128 3 = some (.ref 130) := by rw [hkp.pl (by decide +kernel) (by decide +kernel)]; exact r3
      have w37 : rd k' 128 37 = some (.ref 150) := by rw [hkp.pl (by decide +kernel) (by decide +kernel)]; exact r37
      have w38 : rd k' 128 38 = some (.ref 151) := by rw [hkp.pl (by decide +kernel) (by decide +kernel)]; exact r38
      have wL : gi k' 130 0 = gi h 130 0 := gi_rd (hkp.pl (by decide +kernel) (by decide +kernel))
      obtain ⟨v0, v1, v2⟩ := gloc_ok q5 gL
      obtain ⟨m0, m1, rfl⟩ := (show ∃ n : Nat, ρ'[1]? = some (n : Int) ∧ v0 = .ref n from v2)
      rw [s1] at m1
      injection m1 with m1
      have m00 : m0 = 128 := by omega
      subst m00
      obtain ⟨v3, v4, v5⟩ := gloc_ok q6 gL
      obtain ⟨y, ⟨z, z1, z2⟩, rfl⟩ := (show ∃ y : Int32, ai ρ' 2 0 y ∧ v3 = .int y from v5)
      rw [s2] at z1
      cases z1
      rw [z2, i32i, hx] at v4
      obtain ⟨v6, v7, v8⟩ := gloc_ok q7 gL
      obtain ⟨y2, ⟨z3, z4, z5⟩, rfl⟩ := (show ∃ y : Int32, ai ρ' 0 0 y ∧ v6 = .int y from v8)
      rw [s0] at z4
      cases z4
      rw [z5] at v7
      obtain ⟨f1, f3, f5⟩ := lp_R hn N1 0 cl' k' hH1 w3 w37 w38 (Nat.zero_le _) v1 v4 v7 hr
      refine Or.inr ⟨n, hn, hx, by rw [d2]; exact hb.2.2, f1, ?_, ?_⟩
      · rw [f5, wL, k4, k5, Nat.sub_zero]
      · rw [gi_rd (f3.pl (by decide +kernel) (by decide +kernel))]
        unfold gun at q4
        split at q4
        · next l u z dd t2 hz =>
          have b2 := iv 2 _ _ _ s2 t2
          rw [Bool.or_eq_true, Bool.and_eq_true, Bool.and_eq_true, Bool.and_eq_true, Bool.and_eq_true] at q4
          have qn : x.toInt = (n : Int) := by rw [hx]; exact xn_int (by omega)
          rcases q4 with ⟨z1, z2, z3⟩ | ⟨z1, z2, z3⟩
          · have := ile_iff.mp z1
            rw [if_pos (by omega)]
            rw [Nat.eq_of_beq_eq_true z2, ieq_ok z3] at hz
            rw [mg_int (k := 54) (s := 5) (d := 0) gE gH (by decide) s1 o128 hz s5, u2]
            exact i32i
          · have := ile_iff.mp z1
            rw [if_neg (by omega)]
            rw [Nat.eq_of_beq_eq_true z2, ieq_ok z3] at hz
            rw [mg_int (k := 54) (s := 0) (d := 0) gE gH (by decide) s1 o128 hz s0]
            rfl
        · cases q4
  · cases hck
end
