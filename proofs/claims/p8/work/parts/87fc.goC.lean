/-! go, of both sides, exactly (rows by program: wip/x/gG2.py). -/
theorem t56_0 : xtk zt56 0 1 (0) := Or.inl ⟨0, ⟨rfl, rfl⟩, by decide⟩
theorem t56_1 : xt zt56 1 2 (.istore_n 3) := ⟨rfl, rfl⟩
theorem t56_2 : xt zt56 2 3 (.iload_n 3) := ⟨rfl, rfl⟩
theorem t56_3 : xt zt56 3 4 (.iload_n 1) := ⟨rfl, rfl⟩
theorem t56_4 : xtb zt56 4 7 18 (.if_icmp .ge 14) (14) := ⟨rfl, rfl, rfl⟩
theorem t56_7 : xt zt56 7 8 (.aload_n 0) := ⟨rfl, rfl⟩
theorem t56_8 : xt zt56 8 9 (.aload_n 2) := ⟨rfl, rfl⟩
theorem t56_9 : xtc zt56 5 9 12 (.invokevirtual 103) 103 1 59 1 := ⟨rfl, rfl, rfl⟩
theorem t56_12 : xt zt56 12 15 (.iinc 3 1) := ⟨rfl, rfl⟩
theorem t56_15 : xtb zt56 15 18 2 (.goto (-13)) (-13) := ⟨rfl, rfl, rfl⟩
theorem t56_18 : xt zt56 18 19 .return_ := ⟨rfl, rfl⟩
theorem t120_0 : xt zt120 0 1 (.iload_n 1) := ⟨rfl, rfl⟩
theorem t120_1 : xtb zt120 1 4 23 (.ifCond .lt 22) (22) := ⟨rfl, rfl, rfl⟩
theorem t120_4 : xt zt120 4 5 (.iload_n 1) := ⟨rfl, rfl⟩
theorem t120_5 : xtk zt120 5 7 (99) := Or.inr (Or.inl ⟨99, ⟨rfl, rfl⟩, by decide⟩)
theorem t120_7 : xtb zt120 7 10 23 (.if_icmp .gt 16) (16) := ⟨rfl, rfl, rfl⟩
theorem t120_10 : xt zt120 10 11 (.aload_n 0) := ⟨rfl, rfl⟩
theorem t120_11 : xtf zt120 10 11 14 (.getfield 45) 45 10 7 3 := ⟨rfl, rfl, rfl, rfl⟩
theorem t120_14 : xtf zt120 10 14 17 (.getfield 248) 248 5 4 1 := ⟨rfl, rfl, rfl, rfl⟩
theorem t120_17 : xtk zt120 17 20 (900) := Or.inr (Or.inr ⟨900, ⟨rfl, rfl⟩, by decide⟩)
theorem t120_20 : xtb zt120 20 23 25 (.if_icmp .le 5) (5) := ⟨rfl, rfl, rfl⟩
theorem t120_23 : xtk zt120 23 24 (-1) := Or.inl ⟨-1, ⟨rfl, rfl⟩, by decide⟩
theorem t120_24 : xt zt120 24 25 .ireturn := ⟨rfl, rfl⟩
theorem t120_25 : xt zt120 25 26 (.iload_n 1) := ⟨rfl, rfl⟩
theorem t120_26 : xtb zt120 26 29 36 (.ifCond .le 10) (10) := ⟨rfl, rfl, rfl⟩
theorem t120_29 : xt zt120 29 30 (.aload_n 0) := ⟨rfl, rfl⟩
theorem t120_30 : xtf zt120 10 30 33 (.getfield 72) 72 10 13 3 := ⟨rfl, rfl, rfl, rfl⟩
theorem t120_33 : xtc zt120 10 33 36 (.invokevirtual 106) 106 1 93 0 := ⟨rfl, rfl, rfl⟩
theorem t120_36 : xt zt120 36 37 (.aload_n 0) := ⟨rfl, rfl⟩
theorem t120_37 : xtf zt120 10 37 40 (.getfield 45) 45 10 7 3 := ⟨rfl, rfl, rfl, rfl⟩
theorem t120_40 : xt zt120 40 41 (.iload_n 1) := ⟨rfl, rfl⟩
theorem t120_41 : xt zt120 41 42 (.aload_n 0) := ⟨rfl, rfl⟩
theorem t120_42 : xtf zt120 10 42 45 (.getfield 65) 65 10 12 3 := ⟨rfl, rfl, rfl, rfl⟩
theorem t120_45 : xtc zt120 10 45 48 (.invokevirtual 215) 215 1 89 0 := ⟨rfl, rfl, rfl⟩
theorem t120_48 : xtc zt120 10 48 51 (.invokevirtual 298) 298 1 56 2 := ⟨rfl, rfl, rfl⟩
theorem t120_51 : xt zt120 51 52 (.aload_n 0) := ⟨rfl, rfl⟩
theorem t120_52 : xtf zt120 10 52 55 (.getfield 45) 45 10 7 3 := ⟨rfl, rfl, rfl, rfl⟩
theorem t120_55 : xtf zt120 10 55 58 (.getfield 251) 251 5 5 1 := ⟨rfl, rfl, rfl, rfl⟩
theorem t120_58 : xt zt120 58 59 .ireturn := ⟨rfl, rfl⟩
theorem t228_0 : xt zt228 0 1 (.aload_n 0) := ⟨rfl, rfl⟩
theorem t228_1 : xtk zt228 1 2 (0) := Or.inl ⟨0, ⟨rfl, rfl⟩, by decide⟩
theorem t228_2 : xtf zt228 11 2 5 (.putfield 166) 166 11 0 1 := ⟨rfl, rfl, rfl, rfl⟩
theorem t228_5 : xt zt228 5 6 (.iload_n 1) := ⟨rfl, rfl⟩
theorem t228_6 : xtb zt228 6 9 27 (.ifCond .lt 21) (21) := ⟨rfl, rfl, rfl⟩
theorem t228_9 : xt zt228 9 10 (.iload_n 1) := ⟨rfl, rfl⟩
theorem t228_10 : xtk zt228 10 12 (99) := Or.inr (Or.inl ⟨99, ⟨rfl, rfl⟩, by decide⟩)
theorem t228_12 : xtb zt228 12 15 27 (.if_icmp .gt 15) (15) := ⟨rfl, rfl, rfl⟩
theorem t228_15 : xt zt228 15 16 (.aload_n 0) := ⟨rfl, rfl⟩
theorem t228_16 : xtf zt228 11 16 19 (.getfield 78) 78 11 37 3 := ⟨rfl, rfl, rfl, rfl⟩
theorem t228_19 : xtk zt228 19 20 (0) := Or.inl ⟨0, ⟨rfl, rfl⟩, by decide⟩
theorem t228_20 : xt zt228 20 21 .iaload := ⟨rfl, rfl⟩
theorem t228_21 : xtk zt228 21 24 (900) := Or.inr (Or.inr ⟨900, ⟨rfl, rfl⟩, by decide⟩)
theorem t228_24 : xtb zt228 24 27 29 (.if_icmp .le 5) (5) := ⟨rfl, rfl, rfl⟩
theorem t228_27 : xtk zt228 27 28 (-1) := Or.inl ⟨-1, ⟨rfl, rfl⟩, by decide⟩
theorem t228_28 : xt zt228 28 29 .ireturn := ⟨rfl, rfl⟩
theorem t228_29 : xt zt228 29 30 (.iload_n 1) := ⟨rfl, rfl⟩
theorem t228_30 : xtb zt228 30 33 38 (.ifCond .le 8) (8) := ⟨rfl, rfl, rfl⟩
theorem t228_33 : xt zt228 33 34 (.aload_n 0) := ⟨rfl, rfl⟩
theorem t228_34 : xtk zt228 34 35 (0) := Or.inl ⟨0, ⟨rfl, rfl⟩, by decide⟩
theorem t228_35 : xtf zt228 11 35 38 (.putfield 326) 326 11 54 1 := ⟨rfl, rfl, rfl, rfl⟩
theorem t228_38 : xtk zt228 38 39 (0) := Or.inl ⟨0, ⟨rfl, rfl⟩, by decide⟩
theorem t228_39 : xt zt228 39 40 (.istore_n 2) := ⟨rfl, rfl⟩
theorem t228_40 : xt zt228 40 41 (.iload_n 2) := ⟨rfl, rfl⟩
theorem t228_41 : xt zt228 41 42 (.iload_n 1) := ⟨rfl, rfl⟩
theorem t228_42 : xtb zt228 42 45 56 (.if_icmp .ge 14) (14) := ⟨rfl, rfl, rfl⟩
theorem t228_45 : xt zt228 45 46 (.aload_n 0) := ⟨rfl, rfl⟩
theorem t228_46 : xtk zt228 46 47 (0) := Or.inl ⟨0, ⟨rfl, rfl⟩, by decide⟩
theorem t228_47 : xtc zt228 11 47 50 (.invokevirtual 446) 446 1 210 1 := ⟨rfl, rfl, rfl⟩
theorem t228_50 : xt zt228 50 53 (.iinc 2 1) := ⟨rfl, rfl⟩
theorem t228_53 : xtb zt228 53 56 40 (.goto (-13)) (-13) := ⟨rfl, rfl, rfl⟩
theorem t228_56 : xt zt228 56 57 (.aload_n 0) := ⟨rfl, rfl⟩
theorem t228_57 : xtf zt228 11 57 60 (.getfield 81) 81 11 38 3 := ⟨rfl, rfl, rfl, rfl⟩
theorem t228_60 : xtk zt228 60 61 (0) := Or.inl ⟨0, ⟨rfl, rfl⟩, by decide⟩
theorem t228_61 : xt zt228 61 62 .iaload := ⟨rfl, rfl⟩
theorem t228_62 : xt zt228 62 63 .ireturn := ⟨rfl, rfl⟩
/-- a day and a mile, one mile on: L is the last -/
def dmS (L : Int32) (p : Int32 × Int32) : Int32 × Int32 := if p.2.toInt + 1 ≤ L.toInt then (p.1, p.2 + 1) else (p.1 + 1, 0)
def dmN (L : Int32) : Nat → Int32 × Int32 → Int32 × Int32
  | 0, p => p
  | n + 1, p => dmN L n (dmS L p)
section ZR
variable {nf : Bool} {xs : List Int32} {d c : Nat} {ini : Bool} {nL : Nat} {rt : Option FieldType} {tab : Nat → Option (Instr × Nat)} {r : Option Value} {h h' : zH} {N pc len : Nat} {ls : zL} {st : List Value} {i : Instr}
def RH (nf : Bool) (xs : List Int32) (d c : Nat) (ini : Bool) (nL : Nat) (rt : Option FieldType) (tab : Nat → Option (Instr × Nat)) (r : Option Value) (h' : zH) (N : Nat) (a : zSt) : Prop := ∃ n : Nat, n < N ∧ zRun (zXt nf xs) zIT zmcl (zEv (zXt nf xs) zIT zmcl zMt d) c ini nL rt tab n a.1 a.2.1 a.2.2.1 a.2.2.2 r h'
theorem RH.go1 {s : zSt} (hr : RH nf xs d c ini nL rt tab r h' (N + 1) (pc, ls, st, h)) (t : tab pc = some (i, len)) (hs : zstep (zXt nf xs) nL ini c i pc ls st h = some s) : RH nf xs d c ini nL rt tab r h' N s := by
  obtain ⟨n, h1, h2⟩ := hr
  obtain ⟨n', e, h3⟩ := zR1 h2 t hs
  exact ⟨n', by omega, h3⟩
theorem RH.go {s : zSt} (hr : RH nf xs d c ini nL rt tab r h' N (pc, ls, st, h)) (t : tab pc = some (i, len)) (hs : zstep (zXt nf xs) nL ini c i pc ls st h = some s) : RH nf xs d c ini nL rt tab r h' N s := by
  obtain ⟨n, h1, h2⟩ := hr
  obtain ⟨n', e, h3⟩ := zR1 h2 t hs
  exact ⟨n', by omega, h3⟩
theorem RH.call {mi : Nat} {as rest : List Value} (hr : RH nf xs d c ini nL rt tab r h' N (pc, ls, st, h)) (t : tab pc = some (i, len)) (hc : zcall (zXt nf xs) zIT zmcl c i st h = some (mi, as, rest)) : ∃ (r1 : Option Value) (h1 : zH), zEv (zXt nf xs) zIT zmcl zMt d mi as h r1 h1 ∧ RH nf xs d c ini nL rt tab r h' N (pc + 3, ls, r1.toList ++ rest, h1) := by
  obtain ⟨n, h1, h2⟩ := hr
  obtain ⟨n', r1, k1, e, h3, h4⟩ := zRc h2 t hc
  exact ⟨r1, k1, h3, n', by omega, h4⟩
theorem RH.ret {v : Option Value} (hr : RH nf xs d c ini nL rt tab r h' N (pc, ls, st, h)) (t : tab pc = some (i, len)) (hv : zret rt i st = some v) : r = v ∧ h' = h := by
  obtain ⟨n, h1, h2⟩ := hr
  exact zRe h2 t hv
theorem RH.no {a : zSt} (hr : RH nf xs d c ini nL rt tab r h' 0 a) : False := by
  obtain ⟨n, h1, -⟩ := hr
  omega
theorem RH.after {a b : zSt} {k : Nat} (hr : RH nf xs d c ini nL rt tab r h' N a) (hg : zGo (zXt nf xs) zIT zmcl (zEv (zXt nf xs) zIT zmcl zMt d) c ini nL tab k a b) : ∃ N : Nat, RH nf xs d c ini nL rt tab r h' N b := by
  obtain ⟨n, h1, h2⟩ := hr
  obtain ⟨n', h3⟩ := zRun_after (zEv_det d) k a b hg n r h' h2
  exact ⟨n' + 1, n', by omega, h3⟩
theorem zb_ge {X : zX} {x y : Int32} {off : Int} {q : Nat} {b : Bool} (hb : zicmp .ge x y = b) (ho : (pc : Int) + off = (q : Int)) : zstep X nL ini c (.if_icmp .ge off) pc ls (.int y :: .int x :: st) h = some (if b = true then q else pc + 3, ls, st, h) := lsI (by
  show zbr (zicmp .ge x y) pc off ls st h = some _
  rw [hb]
  unfold zbr
  rw [ho, if_pos (Int.natCast_nonneg q)]
  cases b <;> rfl)
theorem zg_to {X : zX} {off : Int} {q : Nat} (ho : (pc : Int) + off = (q : Int)) : zstep X nL ini c (.goto off) pc ls st h = some (q, ls, st, h) := lsI (by
  simp only [zstI, zjump]
  rw [ho, if_pos (Int.natCast_nonneg q)]
  rfl)
theorem zgetf {j a ci k : Nat} {v : Value} {fs : List Value} (e : zfldT c j = some (ci, k)) (hh : h[a]? = some (ci, .inr (.inr (.inr fs)))) (hv : rd h a k = some v) : zstep (zXt nf xs) nL ini c (.getfield j) pc ls (.ref a :: st) h = some (pc + 3, ls, v :: st, h) := lsH (by
  have e' : zfld (zXt nf xs) c j = some (ci, k) := e
  have hv : fs[k]? = some v := by
    unfold rd at hv
    rw [hh] at hv
    exact hv
  simp only [zstH, e', hh, hv]
  first | rfl | rw [if_pos rfl] | rw [if_pos trivial])
theorem zial {a : Nat} {x : Int32} {l : List Int32} (hh : h[a]? = some (0, .inl l)) (hl : l.length = 24) (hv : rd h a 0 = some (.int x)) : zstep (zXt nf xs) nL ini c .iaload pc ls (.int 0 :: .ref a :: st) h = some (pc + 1, ls, .int x :: st, h) := lsH (by
  have hv : l[0]?.map Value.int = some (.int x) := by
    unfold rd at hv
    rw [hh] at hv
    exact hv
  have hx : l.getD (Int32.toNatClampNeg 0) 0 = x := by
    show l.getD 0 0 = x
    rw [List.getD_eq_getElem?_getD]
    cases hq : l[0]? with
    | none => rw [hq] at hv; cases hv
    | some w => rw [hq] at hv; cases hv; rfl
  simp only [zstH, hh]
  rw [if_pos (by unfold zidx; rw [hl]; decide), hx])
theorem zri {v : Int32} : zret (some .int) .ireturn [.int v] = some (some (.int v)) := by
  unfold zret
  dsimp only
  exact if_pos rfl
theorem zg_iinc {X : zX} {k : Nat} {n : Int} {x y : Int32} (hg : zget ls k = some (.int x)) (hk : k < nL) (he : x + Int32.ofInt n = y) : zstep X nL ini c (.iinc k n) pc ls st h = some (pc + 3, zset1 ls k (.int y), st, h) := lsL (by
  subst he
  simp only [zstL, hg]
  rw [if_pos hk])
theorem zcl1 {X : zX} {I : zI} {mcl : Nat → Nat} {j n mi b ci : Nat} {st r as fs : List Value} (hI : I c j = some (1, mi, n)) (e1 : st.drop n = .ref b :: r) (g1 : h[b]? = some (ci, .inr (.inr (.inr fs)))) (hc : ci = mcl mi) (hn : n ≤ st.length) (hw : zw8 r = true) (ha : (st.take n).reverse = as) : zcall X I mcl c (.invokevirtual j) st h = some (mi, .ref b :: as, r) := by
  subst ha
  simp only [zcall, hI, e1, g1]
  rw [if_pos ⟨hc, hn, hw⟩]
end ZR
theorem zset_same {ls : zL} {k : Nat} {v : Value} : zget (zset1 ls k v) k = some v := zget_hd
theorem zset_oth {ls : zL} {k j : Nat} {v w : Value} (hj : ¬ j = k) (hg : zget ls j = some w) (hw : w.category = 1) : zget (zset1 ls k v) j = some w := by
  unfold zset1
  rw [zget_tl hj]
  refine zget_flt hg ?_
  dsimp only
  rw [hw]
  simp [hj]
theorem lA1 {h : zH} {a n : Nat} (hS : aSh qW h) (hc : (Nat.blt a qW.1.length && decide (((afm qW (asrt qW a)).1, (afm qW (asrt qW a)).2.1, (afm qW (asrt qW a)).2.2.1) = (0, 1, n))) = true) : ∃ l : List Int32, h[a]? = some (0, .inl l) ∧ l.length = n := by
  rw [Bool.and_eq_true] at hc
  obtain ⟨⟨e1, e2⟩, h1, h2⟩ := hS a (Nat.le_of_ble_eq_true hc.1)
  have q := of_decide_eq_true hc.2
  obtain ⟨z1, z2⟩ := h2
  have q1 : (afm qW (asrt qW a)).1 = 0 := congrArg (fun w : Nat × Nat × Nat => w.1) q
  have q2 : (afm qW (asrt qW a)).2.1 = 1 := congrArg (fun w : Nat × Nat × Nat => w.2.1) q
  have q3 : (afm qW (asrt qW a)).2.2.1 = n := congrArg (fun w : Nat × Nat × Nat => w.2.2) q
  rw [q2] at z2
  rcases e2 with l | l | l | fs
  · refine ⟨l, ?_, z2.trans q3⟩
    have z1 : e1 = (afm qW (asrt qW a)).1 := z1
    rw [h1, z1, q1]
  · exact z2.elim
  · exact z2.elim
  · exact z2.elim
/-- frames one behind another -/
theorem KP.tr {M : List aD} {h0 h1 h2 : zH} (a : KP M h0 h1) (b : KP M h1 h2) : KP M h0 h2 := fun x k hx hk hf => (b x k hx hk hf).trans (a x k hx hk hf)
theorem KP.rf0 {M : List aD} {h : zH} : KP M h h := fun _ _ _ _ _ => rfl
theorem KP.le {M M2 : List aD} {h0 h1 : zH} (a : KP M h0 h1) (hm : M.all (fun d => M2.any (fun e => Nat.beq e.1 d.1 && (Nat.beq e.2.1 0 && (ile e.2.2.2.1 d.2.2.2.1 && ile d.2.2.2.2 e.2.2.2.2)) && Nat.beq d.2.1 0)) = true) : KP M2 h0 h1 := fun x k hx hk hf => a x k hx hk (by
  unfold kf at hf ⊢
  refine List.all_eq_true.mpr (fun d hd => ?_)
  obtain ⟨e, he, q⟩ := List.any_eq_true.mp (List.all_eq_true.mp hm d hd)
  rw [Bool.and_eq_true, Bool.and_eq_true, Bool.and_eq_true, Bool.and_eq_true] at q
  obtain ⟨⟨q1, q2, q3, q4⟩, q5⟩ := q
  have f := List.all_eq_true.mp hf e he
  rw [Bool.and_eq_true] at f ⊢
  refine ⟨q5, ?_⟩
  cases hz : (Nat.beq (asrt qW x) d.1 && (ile d.2.2.2.1 (k : Int) && ile (k : Int) d.2.2.2.2)) with
  | false => rfl
  | true =>
    rw [Bool.and_eq_true, Bool.and_eq_true] at hz
    have g1 := Nat.eq_of_beq_eq_true q1
    have g2 := ile_iff.mp q3
    have g3 := ile_iff.mp q4
    have g4 := ile_iff.mp hz.2.1
    have g5 := ile_iff.mp hz.2.2
    have f2 := f.2
    rw [g1, hz.1, ile_iff.mpr (Int.le_trans g2 g4), ile_iff.mpr (Int.le_trans g5 g3)] at f2
    cases f2)
/-- the class's advance -/
theorem adv_C {nf : Bool} {xs : List Int32} {d P n : Nat} {r : Option Value} {h' : zH} (hP : P = 7 ∨ P = 31) (hn : n ≤ 99) : ∀ (N i : Nat) (k : zH), aH qW qG [0] [] k → rd k 55 2 = some (.ref P) → i ≤ n → RH nf xs d 5 false 4 none zt56 r h' N (2, [(3, .int (Int32.ofNat i)), (0, .ref 55), (1, .int (Int32.ofNat n)), (2, .ref 115)], [], k) → r = none ∧ aH qW qG [0] [] h' ∧ KP qcx0.2.2.2.2.1 k h' ∧ h'.length = k.length ∧ (gi h' 55 4, gi h' 55 5) = dmN (gi k P 10) (n - i) (gi k 55 4, gi k 55 5) := by
  intro N
  induction N with
  | zero => intro i k _ _ _ hr; exact hr.no.elim
  | succ N ih =>
    intro i k hH h2 hi hr
    have qi : (Int32.ofNat i).toInt = (i : Int) := xn_int (by omega)
    have qn : (Int32.ofNat n).toInt = (n : Int) := xn_int (by omega)
    replace hr := hr.go1 t56_2.1 (lsL rfl)
    replace hr := hr.go t56_3.1 (lsL rfl)
    by_cases e : i = n
    · subst e
      replace hr := hr.go t56_4.1 (zb_ge (b := true) (q := 18) (decide_eq_true (Int32.le_iff_toInt_le.mpr (Int.le_refl _))) rfl)
      obtain ⟨rfl, rfl⟩ := hr.ret t56_18.1 rfl
      refine ⟨rfl, hH, KP.rf0, rfl, ?_⟩
      rw [Nat.sub_self]
      rfl
    · replace hr := hr.go t56_4.1 (zb_ge (b := false) (q := 18) (decide_eq_false (fun z => by have := Int32.le_iff_toInt_le.mp z; omega)) rfl)
      replace hr : RH nf xs d 5 false 4 none zt56 r h' N (7, [(3, .int (Int32.ofNat i)), (0, .ref 55), (1, .int (Int32.ofNat n)), (2, .ref 115)], [], k) := hr
      replace hr := hr.go t56_7.1 (lsL rfl)
      replace hr := hr.go t56_8.1 (lsL rfl)
      obtain ⟨fs, hfs⟩ := lhd (a := 55) (t := 5) (n := 0) hH.1 (by decide +kernel) (by decide +kernel) (by decide +kernel)
      obtain ⟨r1, k1, e1, hr⟩ := hr.call (mi := 59) (as := [.ref 55, .ref 115]) (rest := []) t56_9.1 (zcl1 t56_9.2.2 rfl hfs rfl (show (1 : Nat) ≤ 2 by decide) rfl rfl)
      obtain ⟨rfl, g1, ⟨g2, g3⟩, g4⟩ := mile_C hH hP h2 e1
      have w2 : rd k1 55 2 = some (.ref P) := by rw [g2.pl (by decide +kernel) (by decide +kernel)]; exact h2
      have wL : gi k1 P 10 = gi k P 10 := gi_rd (g2.pl (by rcases hP with rfl | rfl <;> decide +kernel) (by rcases hP with rfl | rfl <;> decide +kernel))
      replace hr : RH nf xs d 5 false 4 none zt56 r h' N (12, [(3, .int (Int32.ofNat i)), (0, .ref 55), (1, .int (Int32.ofNat n)), (2, .ref 115)], [], k1) := hr
      replace hr := hr.go t56_12.1 (s := (15, [(3, .int (Int32.ofNat (i + 1))), (0, .ref 55), (1, .int (Int32.ofNat n)), (2, .ref 115)], [], k1)) (zg_iinc rfl (by decide) xn_1i)
      replace hr := hr.go t56_15.1 (zg_to (q := 2) rfl)
      obtain ⟨f1, f2, f3, f4, f5⟩ := ih (i + 1) k1 g1 w2 (by omega) hr
      refine ⟨f1, f2, g2.tr f3, f4.trans g3, ?_⟩
      rw [f5, wL, show n - i = (n - (i + 1)) + 1 by omega]
      show dmN _ _ _ = dmN _ _ (dmS _ _)
      congr 1
      unfold dmS
      rcases g4 with ⟨z1, z2, z3⟩ | ⟨z1, z2, z3⟩
      · rw [if_pos z1, z2, z3]
      · rw [if_neg (by dsimp only; omega), z2, z3]
/-! What stands ahead of the miles: as the engine goes. -/
def gbad (E : List aY) : Bool := match E[2]?, E[3]? with
  | some (0, l, u), some (0, l2, _) => ile u (-1) || (ile 100 l || ile 901 l2)
  | _, _ => false
def ggood (E : List aY) : Bool := match E[2]?, E[3]? with
  | some (0, l, u), some (0, _, u2) => ile 0 l && (ile u 99 && ile u2 900)
  | _, _ => false
/-- what can be undone: as it was, or nothing any more -/
def gun (E : List aY) (a : Option aV) (s : Nat) : Bool := match E[2]?, a with
  | some (0, l, u), some (.inl (z, d)) => (ile u 0 && (Nat.beq z s && ieq d 0)) || (ile 1 l && (Nat.beq z 0 && ieq d 0))
  | _, _ => false
def gsame (a : Option aV) (s : Nat) : Bool := match a with
  | some (.inl (z, d)) => Nat.beq z s && ieq d 0
  | _ => false
def gloc (ls : aLs) (k : Nat) (v : aV) : Bool := ls.any (fun p => Nat.beq p.1 k && aveq p.2 v)
theorem gloc_ok {ρ : List Int} {ls : aLs} {cl : zL} {k : Nat} {v : aV} (h : gloc ls k v = true) (hl : aLo ρ ls cl) : ∃ w : Value, zget cl k = some w ∧ av ρ v w := by
  obtain ⟨p, p1, p2⟩ := List.any_eq_true.mp h
  rw [Bool.and_eq_true] at p2
  obtain ⟨w, w1, w2⟩ := hl p p1
  have e := Nat.eq_of_beq_eq_true p2.1
  have e2 := aveq_ok p2.2
  rw [e] at w1
  rw [e2] at w2
  exact ⟨w, w1, w2⟩
def goD : List aD := [(37, 0, 0, 3, 3), (36, 0, 0, 0, 4)]
def goP : aP := (qY, zIT, zmcl, qW, qPt, goD)
def goS : aS := ([(0, 0, 0), (2, 0, 0), (0, -2147483648, 2147483647), (0, -2147483648, 2147483647), (2, 31, 31), (2, 37, 37), (0, 0, 20)], [(0, .inr (.inr (.inl 1))), (1, .inl (2, 0))], [], [((1, 0, 7), .inr (.inr (.inl 4))), ((4, 0, 4), .inl (3, 0)), ((1, 0, 13), .inr (.inr (.inl 5))), ((5, 0, 3), .inl (6, 0))])
def gst24 (st : List aV) : Bool := match st with
  | [.inl (0, d)] => ieq d (-1)
  | _ => false
def gst48 (E : List aY) (st : List aV) : Bool := match st with
  | [.inr (.inr (.inl s)), .inl (n, d), .inr (.inr (.inl w))] => (match E[s]? with
    | some (2, so, _) => ieq so 36
    | _ => false) && (Nat.beq n 2 && (ieq d 0 && Nat.beq w 4))
  | _ => false
def gon (pc : Nat) (S : aS) : Bool := (akill qW S.1 (fun _ => false) S.2.2.2).isSome && ((Nat.beq pc 24 && (gbad S.1 && (gst24 S.2.2.1 && gsame (amg S.2.2.2 (5, 0, 3)) 6))) || (Nat.beq pc 48 && (ggood S.1 && (gst48 S.1 S.2.2.1 && (gun S.1 (amg S.2.2.2 (5, 0, 3)) 6 && gloc S.2.1 0 (.inr (.inr (.inl 1))))))))
def gock : Bool := match zMt 120 with
  | some w => match arun goP (acals goP zMt qKB qK0 (0, []) 6) gon w.1 w.2.2.1 w.2.2.2.1 w.2.2.2.2 300 true 0 goS with
    | some [] => true
    | _ => false
  | none => false
theorem gock_ok : gock = true := by decide +kernel
theorem yR120 : zMt 120 = some (10, false, 2, some .int, zt120) := rfl
theorem qun36 {a : Nat} (ha : a < qW.1.length) (hs : (asrt qW a : Int) = ((36 : Nat) : Int)) : a = 115 := qun (by decide +kernel) ha hs
/-- the class's go -/
theorem go_C {nf : Bool} {xs : List Int32} {d P : Nat} {x : Int32} {h h' : zH} {r : Option Value} (hd : d ≤ 966) (hH : aH qW qG [0] [] h) (hP : P = 7 ∨ P = 31) (r7 : rd h 0 7 = some (.ref 55)) (r13 : rd h 0 13 = some (.ref 116)) (h2 : rd h 55 2 = some (.ref P)) (e : zEv (zXt nf xs) zIT zmcl zMt d 120 [.ref 0, .int x] h r h') : ((x.toInt < 0 ∨ 99 < x.toInt ∨ 900 < (gi h 55 4).toInt) ∧ r = some (.int (-1)) ∧ gi h' 55 4 = gi h 55 4 ∧ gi h' 55 5 = gi h 55 5 ∧ gi h' 116 3 = gi h 116 3) ∨ ∃ n : Nat, n ≤ 99 ∧ x = Int32.ofNat n ∧ (gi h 55 4).toInt ≤ 900 ∧ r = some (.int (gi h' 55 5)) ∧ (gi h' 55 4, gi h' 55 5) = dmN (gi h P 10) n (gi h 55 4, gi h 55 5) ∧ gi h' 116 3 = if n = 0 then gi h 116 3 else 0 := by
  have e := zEv_le (show d ≤ 967 by omega) e
  obtain ⟨c0, ini0, nL0, rt0, tab0, n0, mt0, -, e⟩ := e
  rw [yR120] at mt0
  cases mt0
  have hr : RH nf xs 966 10 false 2 (some .int) zt120 r h' (n0 + 1) (0, lv_args 0 [.ref 0, .int x], [], h) := ⟨n0, by omega, e⟩
  have hX := qXX nf xs
  have hK : ∀ (mi : Nat) (q : aQ), q ∈ qKB mi → q.1 = mi ∧ aCon qW qG (zEv (zXt nf xs) zIT zmcl zMt 960) q (fun _ => True) := fun mi q hq => ⟨(qB_ok nf xs mi q hq).1, (qB_ok nf xs mi q hq).2.mono (fun _ _ _ _ _ z => zEv_le (by decide) z)⟩
  obtain ⟨D, d1, d2, -, -⟩ := iv_of (a := 55) (k := 4) (l := -2147483648) (u := 2147483647) hH (by decide +kernel) (by decide +kernel)
  obtain ⟨U, u1, u2, u3, u4⟩ := iv_of (a := 116) (k := 3) (l := 0) (u := 20) hH (by decide +kernel) (by decide +kernel)
  have E1 := (((((aE0.push (t := (2, 0, 0)) (z := 0) (asR (so := 0) (c := 0) (by decide +kernel) (by decide +kernel))).push (t := (0, -2147483648, 2147483647)) (z := x.toInt) (ab x)).push (t := (0, -2147483648, 2147483647)) (z := D.toInt) (ab D)).push (t := (2, 31, 31)) (z := 55) (asR (so := 31) (c := 55) (by decide +kernel) (by decide +kernel))).push (t := (2, 37, 37)) (z := 116) (asR (so := 37) (c := 116) (by decide +kernel) (by decide +kernel))).push (t := (0, 0, 20)) (z := U.toInt) ⟨u3, u4⟩
  have hE : aE qW goS.1 [0, 0, x.toInt, D.toInt, 55, 116, U.toInt] := E1
  have a1 := aH_add (q := (5, 0, 3)) (b := .inl (6, 0)) (a := 116) (k := 3) (v := .int U) (aH_nil (ρ' := [0, 0, x.toInt, D.toInt, 55, 116, U.toInt]) hH) (qden (k := 3) (c := 116) (r := 5) hE (by decide) rfl) (by decide +kernel) (by decide +kernel) (by rw [qrdx (qG_off (by decide) (by decide))]; exact u1) ⟨U, ⟨U.toInt, rfl, i32i.symm⟩, rfl⟩
  have a2 := aH_add (q := (1, 0, 13)) (b := .inr (.inr (.inl 5))) (a := 0) (k := 13) (v := .ref 116) a1 (qden (k := 13) (c := 0) (r := 1) hE (by decide) rfl) (by decide +kernel) (by decide +kernel) (by rw [qrdx (qG_off (by decide) (by decide))]; exact r13) ⟨116, rfl, rfl⟩
  have a3 := aH_add (q := (4, 0, 4)) (b := .inl (3, 0)) (a := 55) (k := 4) (v := .int D) a2 (qden (k := 4) (c := 55) (r := 4) hE (by decide) rfl) (by decide +kernel) (by decide +kernel) (by rw [qrdx (qG_off (by decide) (by decide))]; exact d1) ⟨D, ⟨D.toInt, rfl, i32i.symm⟩, rfl⟩
  have a4 := aH_add (q := (1, 0, 7)) (b := .inr (.inr (.inl 4))) (a := 0) (k := 7) (v := .ref 55) a3 (qden (k := 7) (c := 0) (r := 1) hE (by decide) rfl) (by decide +kernel) (by decide +kernel) (by rw [qrdx (qG_off (by decide) (by decide))]; exact r7) ⟨55, rfl, rfl⟩
  have hcal := acals_dp (h0 := h) (D := goD) (ms0 := (0, [])) (ρ0 := [0, 0, x.toInt, D.toInt, 55, 116, U.toInt]) hX qGok qL (fun t ht => by cases ht) hK (Kn := qK0) (fun mi q hq => by cases hq) 6
  have hck := gock_ok
  unfold gock at hck
  rw [yR120] at hck
  dsimp only at hck
  split at hck
  · next ho =>
    have hst : aSt [0, 0, x.toInt, D.toInt, 55, 116, U.toInt] [.inr (.inr (.inl 1)), .inl (2, 0)] [.ref 0, .int x] := ⟨_, _, rfl, ⟨0, rfl, rfl⟩, _, _, rfl, ⟨x, ⟨x.toInt, rfl, i32i.symm⟩, rfl⟩, rfl⟩
    obtain ⟨k, pc', S', ρ', cl', cst', k', e1, e2, -, e3, e4⟩ := arun_gq (ini := false) (Q := aext [0, 0, x.toInt, D.toInt, 55, 116, U.toInt]) hX qGok qL (fun _ _ a b => a.trans b) hcal 300 true 0 goS _ (lv_args 0 [.ref 0, .int x]) [] h ho aext.rf ⟨hE, fun p hp => (aloc_ok _ _ 0 hst p hp).2, rfl, a4, aF.rf⟩
    obtain ⟨N1, hr⟩ := hr.after e1
    obtain ⟨gE, gL, gS, gH, gF⟩ := e4
    unfold gon at e2
    rw [Bool.and_eq_true, Bool.or_eq_true] at e2
    have hH1 := kill_nil gE gH e2.1
    have hkp : KP goD h k' := KP_of gF
    have k4 : gi k' 55 4 = gi h 55 4 := gi_rd (hkp.pl (by decide +kernel) (by decide +kernel))
    have k5 : gi k' 55 5 = gi h 55 5 := gi_rd (hkp.pl (by decide +kernel) (by decide +kernel))
    have s2 : ρ'[2]? = some x.toInt := e3.get rfl
    have s3 : ρ'[3]? = some D.toInt := e3.get rfl
    have s5 : ρ'[5]? = some ((116 : Nat) : Int) := e3.get rfl
    have s6 : ρ'[6]? = some U.toInt := e3.get rfl
    have s0 : ρ'[0]? = some 0 := gE.2.1
    have iv : ∀ (j : Nat) (z l u : Int), ρ'[j]? = some z → S'.1[j]? = some (0, l, u) → l ≤ z ∧ z ≤ u := fun j z l u h1 h2 => gE.2.2 j (0, l, u) z h2 h1
    rcases e2.2 with q | q
    · rw [Bool.and_eq_true, Bool.and_eq_true, Bool.and_eq_true] at q
      obtain ⟨q1, q2, q3, q4⟩ := q
      have ep := Nat.eq_of_beq_eq_true q1
      subst ep
      have hc : cst' = [.int (-1)] := by
        unfold gst24 at q3
        split at q3
        · next dd hs0 =>
          rw [hs0] at gS
          obtain ⟨b, bs, rfl, ⟨z, ⟨w, w1, w2⟩, rfl⟩, hbs⟩ := gS
          rw [s0] at w1
          cases w1
          rw [show bs = [] from hbs, w2, ieq_ok q3]
          rfl
        · cases q3
      subst hc
      obtain ⟨rfl, rfl⟩ := hr.ret (v := some (.int (-1))) t120_24.1 zri
      refine Or.inl ⟨?_, rfl, k4, k5, ?_⟩
      · unfold gbad at q2
        split at q2
        · next l u l2 u2 t2 t3 =>
          have b2 := iv 2 _ _ _ s2 t2
          have b3 := iv 3 _ _ _ s3 t3
          rw [Bool.or_eq_true, Bool.or_eq_true] at q2
          rw [d2]
          rcases q2 with z | z | z
          · have := ile_iff.mp z; exact Or.inl (by omega)
          · have := ile_iff.mp z; exact Or.inr (Or.inl (by omega))
          · have := ile_iff.mp z; exact Or.inr (Or.inr (by omega))
        · cases q2
      · unfold gsame at q4
        split at q4
        · next z dd hz =>
          rw [Bool.and_eq_true] at q4
          rw [Nat.eq_of_beq_eq_true q4.1, ieq_ok q4.2] at hz
          rw [mg_int (k := 3) (s := 6) (d := 0) gE gH (by decide) s5 (off_ge (by decide) (by decide)) hz s6, u2]
          exact i32i
        · cases q4
    · rw [Bool.and_eq_true, Bool.and_eq_true, Bool.and_eq_true, Bool.and_eq_true] at q
      obtain ⟨q1, q2, q3, q4, q5⟩ := q
      have ep := Nat.eq_of_beq_eq_true q1
      subst ep
      have hb : 0 ≤ x.toInt ∧ x.toInt ≤ 99 ∧ D.toInt ≤ 900 := by
        unfold ggood at q2
        split at q2
        · next l u l2 u2 t2 t3 =>
          have b2 := iv 2 _ _ _ s2 t2
          have b3 := iv 3 _ _ _ s3 t3
          rw [Bool.and_eq_true, Bool.and_eq_true] at q2
          have z1 := ile_iff.mp q2.1
          have z2 := ile_iff.mp q2.2.1
          have z3 := ile_iff.mp q2.2.2
          omega
        · cases q2
      have hc : cst' = [.ref 115, .int x, .ref 55] := by
        unfold gst48 at q3
        split at q3
        · next s nn dd w hs0 =>
          rw [hs0] at gS
          obtain ⟨b1, bs1, rfl, ⟨n1, v1, rfl⟩, b2, bs2, rfl, ⟨y, ⟨w2, w3, w4⟩, rfl⟩, b3, bs3, rfl, ⟨n3, v3, rfl⟩, hbs⟩ := gS
          rw [Bool.and_eq_true, Bool.and_eq_true, Bool.and_eq_true] at q3
          obtain ⟨p1, p2, p3, p4⟩ := q3
          rw [Nat.eq_of_beq_eq_true p2, s2] at w3
          cases w3
          have s4 : ρ'[4]? = some ((55 : Nat) : Int) := e3.get rfl
          rw [Nat.eq_of_beq_eq_true p4] at v3
          have n55 : n3 = 55 := Int.ofNat_inj.mp (Option.some.inj (v3.symm.trans s4))
          split at p1
          · next so b hse =>
            have o := asort_of gE hse v1
            rw [ieq_ok p1] at o
            rw [qun36 o.1 o.2, show bs3 = [] from hbs, w4, ieq_ok p3, i32i, n55]
          · cases p1
        · cases q3
      subst hc
      obtain ⟨n, hxn⟩ : ∃ n : Nat, n = x.toNatClampNeg := ⟨_, rfl⟩
      have hx : x = Int32.ofNat n := by rw [hxn]; exact xn_of hb.1
      have hn : n ≤ 99 := by rw [hxn, Int32.toNatClampNeg]; omega
      have w2 : rd k' 55 2 = some (.ref P) := by rw [hkp.pl (by decide +kernel) (by decide +kernel)]; exact h2
      have w7 : rd k' 0 7 = some (.ref 55) := by rw [hkp.pl (by decide +kernel) (by decide +kernel)]; exact r7
      have wL : gi k' P 10 = gi h P 10 := gi_rd (hkp.pl (by rcases hP with rfl | rfl <;> decide +kernel) (by rcases hP with rfl | rfl <;> decide +kernel))
      obtain ⟨fs, hfs⟩ := lhd (a := 55) (t := 5) (n := 0) hH1.1 (by decide +kernel) (by decide +kernel) (by decide +kernel)
      obtain ⟨r1, k1, c1, hr⟩ := hr.call (mi := 56) (as := [.ref 55, .int x, .ref 115]) (rest := []) t120_48.1 (zcl1 t120_48.2.2 rfl hfs rfl (show (2 : Nat) ≤ 3 by decide) rfl rfl)
      obtain ⟨c2, ini2, nL2, rt2, tab2, n2, mt2, -, c1⟩ := zEv_le (show 966 ≤ 967 by omega) c1
      rw [show zMt 56 = some (5, false, 4, none, zt56) from rfl] at mt2
      cases mt2
      have hr2 : RH nf xs 966 5 false 4 none zt56 r1 k1 (n2 + 1) (0, [(0, .ref 55), (1, .int (Int32.ofNat n)), (2, .ref 115)], [], k') := ⟨n2, by omega, by rw [← hx]; exact c1⟩
      replace hr2 := hr2.go (show zt56 0 = some (.iconst 0, 1) from rfl) (s := (1, [(0, .ref 55), (1, .int (Int32.ofNat n)), (2, .ref 115)], [.int (Int32.ofNat 0)], k')) (lsL rfl)
      replace hr2 := hr2.go t56_1.1 (s := (2, [(3, .int (Int32.ofNat 0)), (0, .ref 55), (1, .int (Int32.ofNat n)), (2, .ref 115)], [], k')) (lsL rfl)
      obtain ⟨rfl, f2, f3, f4, f5⟩ := adv_C hP hn _ 0 k' hH1 w2 (Nat.zero_le _) hr2
      replace hr : RH nf xs 966 10 false 2 (some .int) zt120 r h' N1 (51, cl', [], k1) := hr
      obtain ⟨v0, v1, v2⟩ := gloc_ok q5 gL
      obtain ⟨m0, m1, rfl⟩ := (show ∃ n : Nat, ρ'[1]? = some (n : Int) ∧ v0 = .ref n from v2)
      have s1 : ρ'[1]? = some ((0 : Nat) : Int) := e3.get rfl
      have m00 : m0 = 0 := Int.ofNat_inj.mp (Option.some.inj (m1.symm.trans s1))
      subst m00
      obtain ⟨gs0, hgs0⟩ := lhd (a := 0) (t := 10) (n := 0) f2.1 (by decide +kernel) (by decide +kernel) (by decide +kernel)
      obtain ⟨gs5, hgs5⟩ := lhd (a := 55) (t := 5) (n := 0) f2.1 (by decide +kernel) (by decide +kernel) (by decide +kernel)
      have y7 : rd k1 0 7 = some (.ref 55) := by rw [f3.pl (by decide +kernel) (by decide +kernel)]; exact w7
      obtain ⟨M, y1, y2, -, -⟩ := iv_of (a := 55) (k := 5) (l := 0) (u := 60) f2 (by decide +kernel) (by decide +kernel)
      replace hr := hr.go t120_51.1 (s := (52, cl', [.ref 0], k1)) (lsL (by simp only [zstL]; first | rw [show zget cl' ((0 : Fin 4) : Nat) = some (.ref 0) from v1] | rw [v1]))
      replace hr := hr.go t120_52.1 (zgetf t120_52.2.2.1 hgs0 y7)
      replace hr := hr.go t120_55.1 (zgetf t120_55.2.2.1 hgs5 y1)
      obtain ⟨rfl, rfl⟩ := hr.ret (v := some (.int M)) t120_58.1 zri
      refine Or.inr ⟨n, hn, hx, by rw [d2]; exact hb.2.2, by rw [y2], ?_, ?_⟩
      · rw [f5, wL, k4, k5, Nat.sub_zero]
      · rw [gi_rd (f3.pl (by decide +kernel) (by decide +kernel))]
        unfold gun at q4
        split at q4
        · next l u z dd t2 hz =>
          have b2 := iv 2 _ _ _ s2 t2
          rw [Bool.or_eq_true, Bool.and_eq_true, Bool.and_eq_true, Bool.and_eq_true, Bool.and_eq_true] at q4
          have qn : x.toInt = (n : Int) := by rw [hx]; exact xn_int (by omega)
          rcases q4 with ⟨z1, z2, z3⟩ | ⟨z1, z2, z3⟩
          · have := ile_iff.mp z1
            rw [if_pos (by omega)]
            rw [Nat.eq_of_beq_eq_true z2, ieq_ok z3] at hz
            rw [mg_int (k := 3) (s := 6) (d := 0) gE gH (by decide) s5 (off_ge (by decide) (by decide)) hz s6, u2]
            exact i32i
          · have := ile_iff.mp z1
            rw [if_neg (by omega)]
            rw [Nat.eq_of_beq_eq_true z2, ieq_ok z3] at hz
            rw [mg_int (k := 3) (s := 0) (d := 0) gE gH (by decide) s5 (off_ge (by decide) (by decide)) hz s0]
            rfl
        · cases q4
  · cases hck
