/-! The law's own way: steps of its body. -/
abbrev zLaw (nf : Bool) (xs : List Int32) : Nat → zSt → zSt → Prop := zGo (zXt nf xs) zIT zmcl (zEv (zXt nf xs) zIT zmcl zMt 1000) 19 false 7 ztlaw
theorem zLaw_trans {nf : Bool} {xs : List Int32} {n m : Nat} {a b d : zSt} (h1 : zLaw nf xs n a b) (h2 : zLaw nf xs m b d) : zLaw nf xs (n + m) a d := zGo_trans _ _ _ _ _ h1 h2
theorem lsI {X : zX} {nL : Nat} {ini : Bool} {c : Nat} {i : Instr} {pc : Nat} {ls : zL} {st : List Value} {h : zH} {q : Nat × zL × List Value × zH} (hs : zstI X i pc ls st h = some q) : zstep X nL ini c i pc ls st h = some q := by
  unfold zstep
  rw [hs]
theorem lsL {X : zX} {nL : Nat} {ini : Bool} {c : Nat} {i : Instr} {pc : Nat} {ls : zL} {st : List Value} {h : zH} {q : Nat × zL × List Value × zH} (hs : zstL nL i pc ls st h = some q) : zstep X nL ini c i pc ls st h = some q := by
  unfold zstep
  rw [zIL hs, hs]
theorem lsH {X : zX} {nL : Nat} {ini : Bool} {c : Nat} {i : Instr} {pc : Nat} {ls : zL} {st : List Value} {h : zH} {q : Nat × zL × List Value × zH} (hs : zstH X ini c i pc ls st h = some q) : zstep X nL ini c i pc ls st h = some q := by
  unfold zstep
  rw [(zIH (nL := nL) hs).1, (zIH (nL := nL) hs).2, hs]
theorem lone {nf : Bool} {xs : List Int32} {a b : zSt} {i : Instr} {len : Nat} (ht : ztlaw a.1 = some (i, len)) (hs : zstep (zXt nf xs) 7 false 19 i a.1 a.2.1 a.2.2.1 a.2.2.2 = some b) : zLaw nf xs 1 a b := ⟨i, len, ht, Or.inl ⟨b, hs, rfl⟩⟩
theorem lcl {nf : Bool} {xs : List Int32} {a : zSt} {i : Instr} {len mi : Nat} {as rest : List Value} {r1 : Option Value} {h1 : zH} (ht : ztlaw a.1 = some (i, len)) (hc : zcall (zXt nf xs) zIT zmcl 19 i a.2.2.1 a.2.2.2 = some (mi, as, rest)) (hC : zEv (zXt nf xs) zIT zmcl zMt 1000 mi as a.2.2.2 r1 h1) : zLaw nf xs 1 a (a.1 + 3, a.2.1, r1.toList ++ rest, h1) := ⟨i, len, ht, Or.inr (Or.inr ⟨mi, as, rest, r1, h1, hc, hC, rfl⟩)⟩
/-- the law's locals -/
def lok (cl : zL) (i : Int32) : Prop := zget cl 0 = some (.retAddr 6) ∧ zget cl 1 = some (.ref 0) ∧ zget cl 2 = some (.ref 128) ∧ zget cl 3 = some (.ref 175) ∧ zget cl 4 = some (.int i)
/-- the script at i and j more -/
def lx (xs : List Int32) (i : Int32) (j : Int) : Int32 := xs.getD (i + Int32.ofInt j).toNatClampNeg 0
def lin (xs : List Int32) (i : Int32) : Prop := zidx i xs.length = true ∧ ∀ j : Int, 1 ≤ j → j ≤ 5 → zidx (i + Int32.ofInt j) xs.length = true
theorem la_r {nf : Bool} {xs : List Int32} {pc x : Nat} {k : Fin 4} {cl : zL} {st : List Value} {h : zH} (t : ztlaw pc = some (.aload_n k, 1)) (hv : zget cl k = some (.ref x)) : zLaw nf xs 1 (pc, cl, st, h) (pc + 1, cl, .ref x :: st, h) := lone t (lsL (by simp only [zstL, hv]))
theorem la_s {nf : Bool} {xs : List Int32} {pc : Nat} {cl : zL} {st : List Value} {h : zH} {i : Int32} {j : Int} (t0 : ztlaw pc = some (.aload_n 0, 1)) (t1 : ztlaw (pc + 1) = some (.iload 4, 2)) (t2 : ztlaw (pc + 3) = some (.iconst j, 1)) (t3 : ztlaw (pc + 4) = some (.iadd, 1)) (t4 : ztlaw (pc + 5) = some (.iaload, 1)) (hl : lok cl i) (hi : zidx (i + Int32.ofInt j) xs.length = true) : zLaw nf xs 5 (pc, cl, st, h) (pc + 6, cl, .int (lx xs i j) :: st, h) := by
  have s0 : zLaw nf xs 1 (pc, cl, st, h) (pc + 1, cl, .retAddr 6 :: st, h) := lone t0 (lsL (by simp only [zstL]; rw [show zget cl ((0 : Fin 4) : Nat) = some (.retAddr 6) from hl.1]))
  have s1 : zLaw nf xs 1 (pc + 1, cl, .retAddr 6 :: st, h) (pc + 3, cl, .int i :: .retAddr 6 :: st, h) := lone t1 (lsL (by simp only [zstL]; rw [hl.2.2.2.2]))
  have s2 : zLaw nf xs 1 (pc + 3, cl, .int i :: .retAddr 6 :: st, h) (pc + 4, cl, .int (Int32.ofInt j) :: .int i :: .retAddr 6 :: st, h) := lone t2 (lsL rfl)
  have s3 : zLaw nf xs 1 (pc + 4, cl, .int (Int32.ofInt j) :: .int i :: .retAddr 6 :: st, h) (pc + 5, cl, .int (i + Int32.ofInt j) :: .retAddr 6 :: st, h) := lone t3 (lsI rfl)
  have s4 : zLaw nf xs 1 (pc + 5, cl, .int (i + Int32.ofInt j) :: .retAddr 6 :: st, h) (pc + 6, cl, .int (lx xs i j) :: st, h) := lone t4 (lsH (by
    have hz : zxarr (zXt nf xs) 6 = some (false, xs) := rfl
    simp only [zstH, hz]
    rw [if_pos hi]
    rfl))
  exact zLaw_trans s0 (zLaw_trans s1 (zLaw_trans s2 (zLaw_trans s3 s4)))
theorem lpop {nf : Bool} {xs : List Int32} {pc : Nat} {cl : zL} {st : List Value} {h : zH} {x : Int32} (t : ztlaw pc = some (.pop, 1)) : zLaw nf xs 1 (pc, cl, .int x :: st, h) (pc + 1, cl, st, h) := lone t (lsI rfl)
theorem lgoto {nf : Bool} {xs : List Int32} {pc q : Nat} {off : Int} {cl : zL} {st : List Value} {h : zH} (t : ztlaw pc = some (.goto off, 3)) (ho : (pc : Int) + off = (q : Int)) : zLaw nf xs 1 (pc, cl, st, h) (q, cl, st, h) := lone t (lsI (by
  simp only [zstI, zjump]
  rw [ho, if_pos (Int.natCast_nonneg q)]
  rfl))
theorem lifeq {nf : Bool} {xs : List Int32} {pc q : Nat} {off : Int} {cl : zL} {x : Int32} {st : List Value} {h : zH} (t : ztlaw pc = some (.ifCond .eq off, 3)) (ho : (pc : Int) + off = (q : Int)) (hx : x = 0) : zLaw nf xs 1 (pc, cl, .int x :: st, h) (q, cl, st, h) := lone t (lsI (by
  show zbr (zicmp .eq x 0) pc off cl st h = some _
  rw [show zicmp .eq x 0 = true from decide_eq_true hx]
  unfold zbr
  rw [ho, if_pos (Int.natCast_nonneg q), if_pos rfl]
  rfl))
theorem lifne {nf : Bool} {xs : List Int32} {pc : Nat} {off : Int} {cl : zL} {x : Int32} {st : List Value} {h : zH} (t : ztlaw pc = some (.ifCond .eq off, 3)) (ho : 0 ≤ (pc : Int) + off) (hx : x ≠ 0) : zLaw nf xs 1 (pc, cl, .int x :: st, h) (pc + 3, cl, st, h) := lone t (lsI (by
  show zbr (zicmp .eq x 0) pc off cl st h = some _
  rw [show zicmp .eq x 0 = false from decide_eq_false hx]
  unfold zbr
  rw [if_pos ho, if_neg (by decide)]))
/-- 'is it other than 0' -/
def lnz (x : Int32) : Int32 := if x = 0 then 0 else 1
theorem lbool {nf : Bool} {xs : List Int32} {pc : Nat} {cl : zL} {x : Int32} {st : List Value} {h : zH} (t1 : ztlaw pc = some (.ifCond .eq 7, 3)) (t2 : ztlaw (pc + 3) = some (.iconst 1, 1)) (t3 : ztlaw (pc + 4) = some (.goto 4, 3)) (t4 : ztlaw (pc + 7) = some (.iconst 0, 1)) : ∃ n : Nat, zLaw nf xs n (pc, cl, .int x :: st, h) (pc + 8, cl, .int (lnz x) :: st, h) := by
  by_cases hx : x = 0
  · have s1 := lifeq (nf := nf) (xs := xs) (q := pc + 7) (cl := cl) (st := st) (h := h) t1 (by omega) hx
    have s2 : zLaw nf xs 1 (pc + 7, cl, st, h) (pc + 8, cl, .int (lnz x) :: st, h) := lone t4 (lsL (by unfold lnz; rw [if_pos hx]; rfl))
    exact ⟨_, zLaw_trans s1 s2⟩
  · have s1 := lifne (nf := nf) (xs := xs) (cl := cl) (st := st) (h := h) t1 (by omega) hx
    have s2 : zLaw nf xs 1 (pc + 3, cl, st, h) (pc + 4, cl, .int (lnz x) :: st, h) := lone t2 (lsL (by unfold lnz; rw [if_neg hx]; rfl))
    have s3 : zLaw nf xs 1 (pc + 4, cl, .int (lnz x) :: st, h) (pc + 8, cl, .int (lnz x) :: st, h) := lgoto t3 (by omega)
    exact ⟨_, zLaw_trans s1 (zLaw_trans s2 s3)⟩
/-! What holds between the passes. -/
def lJ (h : zH) : Prop := aH qW qG [0] [] h ∧ ∃ x : Int32, rd h 0 1 = some (.int x) ∧ rd h 128 2 = some (.int x)
theorem aH_nil {W : aW} {G : aG} {ρ ρ' : List Int} {h : zH} (hH : aH W G ρ [] h) : aH W G ρ' [] h := by
  refine ⟨hH.1, fun a k ha hk => ?_, fun e he => by cases he⟩
  obtain ⟨v, g1, g2⟩ := hH.2.1 a k ha hk
  refine ⟨v, g1, ?_⟩
  rcases g2 with g2 | ⟨e, he, -⟩
  · exact Or.inl g2
  · cases he
theorem lhd {h : zH} {a t n : Nat} (hH : aSh qW h) (ha : a < qW.1.length) (hf : (afm qW (asrt qW a)).1 = t) (hk : (afm qW (asrt qW a)).2.1 = 0) : ∃ fs : List Value, h[a]? = some (t, .inr (.inr (.inr fs))) := by
  obtain ⟨e, h1, h2⟩ := hH a ha
  obtain ⟨e1, e2⟩ := e
  obtain ⟨q1, q2⟩ := h2
  rw [hk] at q2
  rcases e2 with l | l | l | fs
  · exact q2.elim
  · exact q2.elim
  · exact q2.elim
  · exact ⟨fs, by rw [h1, ← hf]; exact congrArg (fun z => some (z, _)) q1⟩
/-! Two calls, by their contracts. -/
def lE (ts : List aY) : List aY := [(0, 0, 0), (2, 0, 0), (2, 49, 49), (0, 0, 700)] ++ ts
def lm : aM := [((2, 0, 2), .inl (3, 0)), ((1, 0, 1), .inl (3, 0))]
/-- this place is none of those written -/
def kf (M : List aD) (a k : Nat) : Bool := M.all (fun d => Nat.beq d.2.1 0 && !(Nat.beq (asrt qW a) d.1 && (ile d.2.2.2.1 (k : Int) && ile (k : Int) d.2.2.2.2)))
/-- nothing of this sort is written -/
def ks (M : List aD) (s : Nat) : Bool := M.all (fun d => Nat.beq d.2.1 0 && !Nat.beq d.1 s)
theorem ks_kf {M : List aD} {a k s : Nat} (h : ks M s = true) (ha : asrt qW a = s) : kf M a k = true := by
  unfold kf
  refine List.all_eq_true.mpr (fun d hd => ?_)
  have h1 := List.all_eq_true.mp h d hd
  rw [Bool.and_eq_true] at h1 ⊢
  refine ⟨h1.1, ?_⟩
  rw [ha]
  cases hb : Nat.beq s d.1 with
  | false => rfl
  | true =>
    have e := Nat.eq_of_beq_eq_true hb
    rw [← e] at h1
    have h2 := h1.2
    rw [Nat.beq_refl] at h2
    cases h2
/-- what isn't written stays -/
def KP (M : List aD) (h0 h : zH) : Prop := ∀ a k : Nat, a < qW.1.length → k < (afm qW (asrt qW a)).2.2.1 → kf M a k = true → rd h a k = rd h0 a k
theorem apn_chk : qW.2.all (fun t => Nat.ble t.2.2.1 (apn t)) = true := by decide +kernel
theorem apn_le (s : Nat) : (afm qW s).2.2.1 ≤ apn (afm qW s) := by
  unfold afm
  rw [List.getD_eq_getElem?_getD]
  cases hq : qW.2[s]? with
  | none => exact Nat.zero_le _
  | some t => exact Nat.le_of_ble_eq_true (List.all_eq_true.mp apn_chk t (List.mem_of_getElem? hq))
theorem KP_of {ρ : List Int} {M : List aD} {h0 h : zH} (hF : aF qW qG ρ M h0 h) : KP M h0 h := by
  intro a k ha hk hf
  have h1 := hF.2 a k ha (Nat.lt_of_lt_of_le hk (apn_le _)) (fun d hd q => by
    have h2 := List.all_eq_true.mp hf d hd
    rw [Bool.and_eq_true] at h2
    have e0 := Nat.eq_of_beq_eq_true h2.1
    obtain ⟨q1, q2⟩ := q
    rw [e0] at q2
    have q2 : d.2.2.2.1 ≤ (k : Int) ∧ (k : Int) ≤ d.2.2.2.2 := q2
    have h3 := h2.2
    rw [q1, Nat.beq_refl, ile_iff.mpr q2.1, ile_iff.mpr q2.2] at h3
    cases h3)
  rw [qrdx (qG_real ha hk), qrdx (qG_real ha hk)] at h1
  exact h1
def lA : Nat → Nat → List aV
  | _, 0 => []
  | k, n + 1 => .inl (k, 0) :: lA (k + 1) n
/-- rows that can't be -/
def lbad (E : List aY) : Bool := E.any (fun t => Nat.ble 4 t.1 && ale E 3 t.2.1.toNat (t.1 - 4) (1 - t.2.2))
theorem lbad_no {W : aW} {E : List aY} {ρ : List Int} (hE : aE W E ρ) (h : lbad E = true) : False := by
  obtain ⟨t, t1, t2⟩ := List.any_eq_true.mp h
  rw [Bool.and_eq_true] at t2
  obtain ⟨z, z', z1, z2, z3⟩ := acst_of hE t1 (Nat.le_of_ble_eq_true t2.1)
  have := ale_ok hE 3 _ _ _ _ _ t2.2 z2 z1
  omega
/-- the same int -/
def lsm (E : List aY) (a b : aV) : Bool := match a, b with
  | .inl v, .inl w => aveq (.inl v) (.inl w) || (match aiv E v.1 v.2, aiv E w.1 w.2 with
    | some p, some q => ieq p.1 p.2 && (ieq q.1 q.2 && ieq p.1 q.1)
    | _, _ => false)
  | _, _ => false
theorem lsm_ok {W : aW} {E : List aY} {ρ : List Int} {a b : aV} {v w : Value} (hE : aE W E ρ) (h : lsm E a b = true) (hv : av ρ a v) (hw : av ρ b w) : ∃ x : Int32, v = .int x ∧ w = .int x := by
  unfold lsm at h
  split at h
  · next p q =>
    obtain ⟨x, x1, rfl⟩ := hv
    obtain ⟨y, y1, rfl⟩ := hw
    refine ⟨x, rfl, ?_⟩
    rw [Bool.or_eq_true] at h
    rcases h with h | h
    · have e := aveq_ok h
      cases e
      rw [x1.inj y1]
    · split at h
      · next r s hr hs =>
        simp only [Bool.and_eq_true] at h
        have e1 := ieq_ok h.1
        have e2 := ieq_ok h.2.1
        have e3 := ieq_ok h.2.2
        have b1 := aiv_in hE hr x1
        have b2 := aiv_in hE hs y1
        have : y.toInt = x.toInt := by omega
        rw [Int32.toInt_inj.mp this]
      · cases h
  · cases h
def lint (a : Option aV) : Bool := match a with
  | some (.inl _) => true
  | _ => false
def llng (a : Option aV) : Bool := match a with
  | some (.inr (.inl _)) => true
  | _ => false
def lfin (p : aXt) : Bool := (akill qW p.1 (fun _ => false) p.2.2).isSome && (match amg p.2.2 (1, 0, 1), amg p.2.2 (2, 0, 2) with
  | some v, some w => lsm p.1 v w
  | _, _ => false)
/-- the check: both end; what holds between passes holds again; e: of the answers -/
def lck (q1 q2 : aQ) (ts : List aY) (e : Option aV → Option aV → List aY → Bool) : Bool := match acon qW q1.2.2.2.2.1 (lE ts) lm (.inr (.inr (.inl 1)) :: lA 4 ts.length) q1 with
  | some A => A.2.2.all (fun o => match acon qW q2.2.2.2.2.1 o.1 o.2.2 (.inr (.inr (.inl 2)) :: lA 4 ts.length) q2 with
    | some B => B.2.2.all (fun p => lbad p.1 || (lfin p && e o.2.1 p.2.1 p.1))
    | none => false)
  | none => false
theorem lA_st {ρ : List Int} : ∀ (ys : List Int32) (k : Nat), (∀ j : Nat, j < ys.length → ∃ z : Int, ρ[k + j]? = some z ∧ ys.getD j 0 = Int32.ofInt z) → aSt ρ (lA k ys.length) (ys.map Value.int)
  | [], _, _ => rfl
  | y :: r, k, h => by
    obtain ⟨z, z1, z2⟩ := h 0 (by simp)
    refine ⟨.int y, r.map Value.int, rfl, ⟨y, ⟨z, by simpa using z1, ?_⟩, rfl⟩, lA_st r (k + 1) (fun j hj => ?_)⟩
    · rw [Int.add_zero]
      simpa using z2
    · obtain ⟨z, z1, z2⟩ := h (j + 1) (by simpa using hj)
      exact ⟨z, by rw [show k + 1 + j = k + (j + 1) by omega]; exact z1, by simpa using z2⟩
theorem lE_ok {t : Int} (ht : 0 ≤ t ∧ t ≤ 700) : ∀ (ys : List Int32) (ts : List aY), ts.length = ys.length → (∀ j : Nat, ∀ y : aY, ts[j]? = some y → y.1 = 0 ∧ y.2.1 ≤ (ys.getD j 0).toInt ∧ (ys.getD j 0).toInt ≤ y.2.2) → aE qW (lE ts) ([0, 0, 128, t] ++ ys.map Int32.toInt) := fun ys ts hl hb => by
  have E0 : aE qW [(0, 0, 0), (2, 0, 0), (2, 49, 49), (0, 0, 700)] [0, 0, 128, t] := ((aE0.push (t := (2, 0, 0)) (z := 0) (asR (so := 0) (c := 0) (by decide +kernel) (by decide +kernel))).push (t := (2, 49, 49)) (z := 128) (asR (so := 49) (c := 128) (by decide +kernel) (by decide +kernel))).push (t := (0, 0, 700)) (z := t) ht
  refine ⟨by simp [lE, hl], rfl, fun k y z h1 h2 => ?_⟩
  unfold lE at h1
  by_cases hk : k < 4
  · rw [List.getElem?_append_left (by simpa using hk)] at h1
    rw [List.getElem?_append_left (by simpa using hk)] at h2
    exact (E0.2.2 k y z h1 h2).ext ⟨_, rfl⟩
  · rw [List.getElem?_append_right (by simp; omega)] at h1
    rw [List.getElem?_append_right (by simp; omega)] at h2
    have h1 : ts[k - 4]? = some y := h1
    have h2 : (ys.map Int32.toInt)[k - 4]? = some z := h2
    obtain ⟨b0, b1, b2⟩ := hb (k - 4) y h1
    rw [List.getElem?_map] at h2
    obtain ⟨w, w1, w2⟩ := Option.map_eq_some_iff.mp h2
    rw [List.getD_eq_getElem?_getD, w1] at b1 b2
    obtain ⟨y1, y2, y3⟩ := y
    have b0 : y1 = 0 := b0
    subst b0
    rw [← w2]
    exact ⟨b1, b2⟩
theorem ltwoB {nf : Bool} {xs : List Int32} {q1 q2 : aQ} {ts : List aY} {e : Option aV → Option aV → List aY → Bool} {ys : List Int32} {h : zH} (c1 : aCon qW qG (zEv (zXt nf xs) zIT zmcl zMt 952) q1 (fun _ => True)) (c2 : aCon qW qG (zEv (zXt nf xs) zIT zmcl zMt 952) q2 (fun _ => True)) (chk : lck q1 q2 ts e = true) (hI : lJ h) (hl : ts.length = ys.length) (hb : ∀ j : Nat, ∀ y : aY, ts[j]? = some y → y.1 = 0 ∧ y.2.1 ≤ (ys.getD j 0).toInt ∧ (ys.getD j 0).toInt ≤ y.2.2) : ∃ (r1 : Option Value) (h1 : zH) (r2 : Option Value) (h2 : zH), zEv (zXt nf xs) zIT zmcl zMt 952 q1.1 (.ref 0 :: ys.map Value.int) h r1 h1 ∧ zEv (zXt nf xs) zIT zmcl zMt 952 q2.1 (.ref 128 :: ys.map Value.int) h1 r2 h2 ∧ aSh qW h1 ∧ lJ h2 ∧ h1.length = h.length ∧ h2.length = h.length ∧ KP q1.2.2.2.2.1 h h1 ∧ KP q2.2.2.2.2.1 h1 h2 ∧ ∃ (E : List aY) (ρ : List Int) (a b : Option aV), aE qW E ρ ∧ arv ρ a r1 ∧ arv ρ b r2 ∧ e a b E = true := by
  obtain ⟨hH, x, x1, x2⟩ := hI
  unfold lck at chk
  split at chk
  · next A hA =>
    have hx : 0 ≤ x.toInt ∧ x.toInt ≤ 700 := by
      obtain ⟨v, g1, g2⟩ := hH.2.1 0 1 (by decide +kernel) (by decide +kernel)
      rw [qrdx (qG_off (by decide) (by decide)), x1] at g1
      cases g1
      rcases g2 with g2 | ⟨e, he, -⟩
      · have ht : apl (afm qW (asrt qW 0)) 1 = (0, 0, 700) := by decide +kernel
        rw [ht] at g2
        obtain ⟨y, y1, y2⟩ := g2
        cases y1
        exact y2
      · cases he
    have hE := lE_ok hx ys ts hl hb
    have hH1 : aH qW qG ([0, 0, 128, x.toInt] ++ ys.map Int32.toInt) lm h := by
      have m1 := aH_add (q := (1, 0, 1)) (b := .inl (3, 0)) (a := 0) (k := 1) (v := .int x) (aH_nil (ρ' := [0, 0, 128, x.toInt] ++ ys.map Int32.toInt) hH) (qden (k := 1) (c := 0) (r := 1) hE (by decide) rfl) (by decide +kernel) (by decide +kernel) (by rw [qrdx (qG_off (by decide) (by decide))]; exact x1) ⟨x, ⟨x.toInt, rfl, by rw [Int.add_zero, Int32.ofInt_toInt]⟩, rfl⟩
      exact aH_add (q := (2, 0, 2)) (b := .inl (3, 0)) (a := 128) (k := 2) (v := .int x) m1 (qden (k := 2) (c := 128) (r := 2) hE (by decide) rfl) (by decide +kernel) (by decide +kernel) (by rw [qrdx (qG_real (by decide +kernel) (by decide +kernel))]; exact x2) ⟨x, ⟨x.toInt, rfl, by rw [Int.add_zero, Int32.ofInt_toInt]⟩, rfl⟩
    have hst : aSt ([0, 0, 128, x.toInt] ++ ys.map Int32.toInt) (lA 4 ts.length) (ys.map Value.int) := by
      rw [hl]
      refine lA_st ys 4 (fun j hj => ⟨(ys.getD j 0).toInt, ?_, by rw [Int32.ofInt_toInt]⟩)
      rw [List.getElem?_append_right (by simp)]
      show (ys.map Int32.toInt)[4 + j - 4]? = _
      rw [show 4 + j - 4 = j by omega, List.getElem?_map, List.getElem?_eq_getElem hj, List.getD_eq_getElem?_getD, List.getElem?_eq_getElem hj]
      rfl
    have hs0 : aSt ([0, 0, 128, x.toInt] ++ ys.map Int32.toInt) (.inr (.inr (.inl 1)) :: lA 4 ts.length) (.ref 0 :: ys.map Value.int) := ⟨.ref 0, _, rfl, ⟨0, rfl, rfl⟩, hst⟩
    obtain ⟨r1, h1, g1, o, o1, ρ1, y1, y2, y3, y4, y5⟩ := acon_use (h0 := h) hA hE hH1 hs0 aF.rf c1 (fun _ _ _ _ _ => trivial)
    have chk := List.all_eq_true.mp chk o o1
    split at chk
    · next Bq hB =>
      have hs1 : aSt ρ1 (.inr (.inr (.inl 2)) :: lA 4 ts.length) (.ref 128 :: ys.map Value.int) := ⟨.ref 128, _, rfl, ⟨128, y1.get rfl, rfl⟩, hst.ext y1⟩
      obtain ⟨r2, h2, g2, p, p1, ρ2, z1, z2, z3, z4, z5⟩ := acon_use (h0 := h1) hB y2 y4 hs1 aF.rf c2 (fun _ _ _ _ _ => trivial)
      have chk := List.all_eq_true.mp chk p p1
      rw [Bool.or_eq_true] at chk
      rcases chk with chk | chk
      · exact (lbad_no z2 chk).elim
      · rw [Bool.and_eq_true] at chk
        obtain ⟨k1, k2⟩ := chk
        unfold lfin at k1
        rw [Bool.and_eq_true] at k1
        obtain ⟨k3, k4⟩ := k1
        obtain ⟨m', hm'⟩ := Option.isSome_iff_exists.mp k3
        obtain ⟨hK, hK2⟩ := akill_ok z2 hm' z4
        have e0 : m' = [] := by
          cases m' with
          | nil => rfl
          | cons a r => cases (hK2 a List.mem_cons_self).2
        subst e0
        refine ⟨r1, h1, r2, h2, g1, g2, y4.1, ⟨aH_nil hK, ?_⟩, y5.1, z5.1.trans y5.1, KP_of y5, KP_of z5, p.1, ρ2, o.2.1, p.2.1, z2, y3.ext z1, z3, k2⟩
        split at k4
        · next v w hv hw =>
          obtain ⟨wv, v1, v2⟩ := qamg (k := 1) (c := 0) (r := 1) z2 z4 (by decide) (z1.get (y1.get rfl)) hv
          obtain ⟨ww, w1, w2⟩ := qamg (k := 2) (c := 128) (r := 2) z2 z4 (by decide) (z1.get (y1.get rfl)) hw
          obtain ⟨u, rfl, rfl⟩ := lsm_ok z2 k4 v2 w2
          rw [qrdx (qG_off (by decide) (by decide))] at v1
          rw [qrdx (qG_real (by decide +kernel) (by decide +kernel))] at w1
          exact ⟨u, v1, w1⟩
        · cases k4
    · cases chk
  · cases chk
