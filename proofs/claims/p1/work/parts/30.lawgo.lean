/-! The law's own way, in stretches. -/
def zgoF (X : zX) (nL : Nat) (ini : Bool) (c : Nat) (tab : Nat → Option (Instr × Nat)) : Nat → zSt → Option zSt
  | 0, a => some a
  | n + 1, a => match tab a.1 with
    | none => none
    | some (i, _) => match zstep X nL ini c i a.1 a.2.1 a.2.2.1 a.2.2.2 with
      | none => none
      | some s => zgoF X nL ini c tab n s
theorem zgoF_ok {X : zX} {I : zI} {mcl : Nat → Nat} {C : zC} {c : Nat} {ini : Bool} {nL : Nat} {tab : Nat → Option (Instr × Nat)} : ∀ (n : Nat) (a b : zSt), zgoF X nL ini c tab n a = some b → zGo X I mcl C c ini nL tab n a b := by
  intro n
  induction n with
  | zero => intro a b q; cases q; exact rfl
  | succ n ih =>
    intro a b q
    unfold zgoF at q
    split at q
    · cases q
    · next i len ht =>
      split at q
      · cases q
      · next s hs => exact ⟨i, len, ht, Or.inl ⟨s, hs, ih _ _ q⟩⟩
theorem zGo_call {X : zX} {I : zI} {mcl : Nat → Nat} {C : zC} {c : Nat} {ini : Bool} {nL : Nat} {tab : Nat → Option (Instr × Nat)} {a : zSt} {i : Instr} {len mi : Nat} {as rest : List Value} {r1 : Option Value} {h1 : zH} (ht : tab a.1 = some (i, len)) (hc : zcall X I mcl c i a.2.2.1 a.2.2.2 = some (mi, as, rest)) (hC : C mi as a.2.2.2 r1 h1) : zGo X I mcl C c ini nL tab 1 a (a.1 + 3, a.2.1, r1.toList ++ rest, h1) :=
  ⟨i, len, ht, Or.inr (Or.inr ⟨mi, as, rest, r1, h1, hc, hC, rfl⟩)⟩
theorem zGo_one {X : zX} {I : zI} {mcl : Nat → Nat} {C : zC} {c : Nat} {ini : Bool} {nL : Nat} {tab : Nat → Option (Instr × Nat)} {a b : zSt} {i : Instr} {len : Nat} (ht : tab a.1 = some (i, len)) (hs : zstep X nL ini c i a.1 a.2.1 a.2.2.1 a.2.2.2 = some b) : zGo X I mcl C c ini nL tab 1 a b :=
  ⟨i, len, ht, Or.inl ⟨b, hs, rfl⟩⟩
def yLS (i : Int32) : zL := [(4, .int i), (3, .ref 175), (2, .ref 128), (1, .ref 0), (0, .retAddr 6)]
/-- the law's ways: our machine with its own calls -/
abbrev zLaw (nf : Bool) (xs : List Int32) : Nat → zSt → zSt → Prop := zGo (zXt nf xs) zIT zmcl (zEv (zXt nf xs) zIT zmcl zMt 20) 19 false 7 ztlaw
theorem zLaw_trans {nf : Bool} {xs : List Int32} {n m : Nat} {a b d : zSt} (h1 : zLaw nf xs n a b) (h2 : zLaw nf xs m b d) : zLaw nf xs (n + m) a d := zGo_trans _ _ _ _ _ h1 h2
theorem zLaw_F {nf : Bool} {xs : List Int32} {n : Nat} {a b : zSt} (h : zgoF (zXt nf xs) 7 false 19 ztlaw n a = some b) : zLaw nf xs n a b := zgoF_ok _ _ _ h
/-! Stretches of the law's own body between its calls, with the script's ints as symbols 0 .. 5; the heap isn't looked at. -/
def lstp (i : Instr) (pc : Nat) (ls : zL) (st : List Value) : Option (Nat × zL × List Value) :=
  match i with
  | .iaload => match st with
    | .int k :: .retAddr e :: r => if e = 6 ∧ zidx k 6 = true then some (pc + 1, ls, .float (UInt32.ofNat k.toNatClampNeg) :: r) else none
    | _ => none
  | .arraylength => match st with
    | .retAddr e :: r => if e = 6 then some (pc + 1, ls, .int 6 :: r) else none
    | _ => none
  | i => match zstI (yX0 none) i pc ls st [] with
    | some q => some (q.1, q.2.1, q.2.2.1)
    | none => match zstL 7 i pc ls st [] with
      | some q => some (q.1, q.2.1, q.2.2.1)
      | none => none
theorem lstp_gen {X : zX} {ini : Bool} {c : Nat} {ρ : yR} {i : Instr} {pc pc' : Nat} {ls ls' cl : zL} {st st' cst : List Value} (hs : (match zstI (yX0 none) i pc ls st [] with
    | some q => some (q.1, q.2.1, q.2.2.1)
    | none => match zstL 7 i pc ls st [] with
      | some q => some (q.1, q.2.1, q.2.2.1)
      | none => none) = some (pc', ls', st')) (hl : yls ρ ls cl) (hst : yvs ρ st cst) : ∃ (cl' : zL) (cst' : List Value), yls ρ ls' cl' ∧ yvs ρ st' cst' ∧ ∀ h : zH, zstep X 7 ini c i pc cl cst h = some (pc', cl', cst', h) := by
  split at hs
  · next q hq =>
    obtain ⟨p1, p2, p3, p4⟩ := q
    cases hs
    obtain ⟨rfl, -, cst', g1, g2⟩ := yzI (X := X) hq hst
    exact ⟨cl, cst', hl, g1, fun h => ystepI (g2 cl h)⟩
  · split at hs
    · next q hq =>
      obtain ⟨p1, p2, p3, p4⟩ := q
      cases hs
      obtain ⟨-, cl', cst', g1, g2, g3⟩ := yzL hq hl hst
      exact ⟨cl', cst', g1, g2, fun h => ystepL (g3 h)⟩
    · cases hs
set_option maxHeartbeats 4000000 in
theorem lstp_ok {nf : Bool} {xs ys : List Int32} {ρ : yR} {i : Instr} {pc pc' : Nat} {ls ls' cl : zL} {st st' cst : List Value} (hx : ρ.1 = xs ++ ys) (h6 : xs.length = 6) (hs : lstp i pc ls st = some (pc', ls', st')) (hl : yls ρ ls cl) (hst : yvs ρ st cst) : ∃ (cl' : zL) (cst' : List Value), yls ρ ls' cl' ∧ yvs ρ st' cst' ∧ ∀ h : zH, zstep (zXt nf xs) 7 false 19 i pc cl cst h = some (pc', cl', cst', h) := by
  cases i with
  | iaload =>
    dsimp only [lstp] at hs
    split at hs
    · split at hs
      · next k e r q =>
        cases hs
        obtain ⟨rfl, q2⟩ := q
        obtain ⟨c1, rfl, h1⟩ := y1 hst (fun _ h => h)
        obtain ⟨c2, rfl, h2⟩ := y1 h1 (fun _ h => h)
        have hk : k.toNatClampNeg < 6 := by
          unfold zidx at q2
          rw [Bool.and_eq_true] at q2
          exact of_decide_eq_true q2.2
        refine ⟨cl, .int (xs.getD k.toNatClampNeg 0) :: c2, hl, y0 ⟨_, ?_, rfl⟩ h2, fun h => ystepH ?_⟩
        · rw [UInt32.toNat_ofNat_of_lt' (show k.toNatClampNeg < 4294967296 by omega), hx, List.getD_eq_getElem?_getD, List.getElem?_append_left (by omega), List.getElem?_eq_getElem (by omega)]
          rfl
        · have hz : zxarr (zXt nf xs) 6 = some (false, xs) := rfl
          simp only [zstH, hz]
          rw [if_pos (by rw [h6]; exact q2)]
      · cases hs
    · cases hs
  | arraylength =>
    dsimp only [lstp] at hs
    split at hs
    · split at hs
      · next e r q =>
        cases hs
        subst q
        obtain ⟨c1, rfl, h1⟩ := y1 hst (fun _ h => h)
        refine ⟨cl, .int 6 :: c1, hl, y0 (yv_r rfl) h1, fun h => ystepH ?_⟩
        have hz : zxarr (zXt nf xs) 6 = some (false, xs) := rfl
        simp only [zstH, hz, h6]
        rfl
      · cases hs
    · cases hs
  | _ => exact lstp_gen hs hl hst
def lgo : Nat → Nat → zL → List Value → Option (Nat × zL × List Value)
  | 0, pc, ls, st => some (pc, ls, st)
  | n + 1, pc, ls, st => match ztlaw pc with
    | none => none
    | some (i, _) => match lstp i pc ls st with
      | none => none
      | some q => lgo n q.1 q.2.1 q.2.2
theorem lgo_ok {nf : Bool} {xs ys : List Int32} {ρ : yR} (hx : ρ.1 = xs ++ ys) (h6 : xs.length = 6) : ∀ (n pc pc' : Nat) (ls ls' cl : zL) (st st' cst : List Value), lgo n pc ls st = some (pc', ls', st') → yls ρ ls cl → yvs ρ st cst → ∃ (cl' : zL) (cst' : List Value), yls ρ ls' cl' ∧ yvs ρ st' cst' ∧ ∀ h : zH, zLaw nf xs n (pc, cl, cst, h) (pc', cl', cst', h) := by
  intro n
  induction n with
  | zero =>
    intro pc pc' ls ls' cl st st' cst q hl hst
    cases q
    exact ⟨cl, cst, hl, hst, fun h => rfl⟩
  | succ n ih =>
    intro pc pc' ls ls' cl st st' cst q hl hst
    unfold lgo at q
    split at q
    · cases q
    · next i len ht =>
      split at q
      · cases q
      · next w hw =>
        obtain ⟨w1, w2, w3⟩ := w
        obtain ⟨cl1, cst1, g1, g2, g3⟩ := lstp_ok (nf := nf) hx h6 hw hl hst
        obtain ⟨cl2, cst2, k1, k2, k3⟩ := ih _ _ _ _ _ _ _ _ q g1 g2
        exact ⟨cl2, cst2, k1, k2, fun h => ⟨i, len, ht, Or.inl ⟨_, g3 h, k3 h⟩⟩⟩
/-- a value with the script's ints (and one more, number 6, and a long) put in -/
def ycn (xs : List Int32) (w : Int64) (v : Value) : Value := match v with
  | .float k => .int (xs.getD k.toNat 0)
  | .double _ => .long w
  | v => v
def yok6 (st : List Value) : Bool := st.all (fun v => match v with
  | .double k => decide (k.toNat = 0)
  | .float k => decide (k.toNat < 7)
  | _ => true)
theorem ycn_ok {ρ : yR} {xs : List Int32} {w : Int64} (hx : ρ.1 = xs) (hw : ρ.2.1 = [w]) : ∀ {st cst : List Value}, yok6 st = true → yvs ρ st cst → cst = st.map (ycn xs w)
  | [], _, _, h => h
  | a :: as, _, hd, ⟨b, bs, e, hr, h⟩ => by
    unfold yok6 at hd
    rw [List.all_cons, Bool.and_eq_true] at hd
    have ih := ycn_ok hx hw hd.2 h
    rw [e, List.map_cons, ih]
    congr 1
    cases a with
    | float k =>
      obtain ⟨x, h1, h2⟩ := hr
      rw [h2]
      show Value.int x = Value.int (xs.getD k.toNat 0)
      rw [List.getD_eq_getElem?_getD, ← hx, h1]
      rfl
    | double k =>
      obtain ⟨x, h1, h2⟩ := hr
      have hk : k.toNat = 0 := of_decide_eq_true hd.1
      rw [hw, hk] at h1
      cases h1
      exact h2
    | _ => exact hr
theorem ycn_in {xs : List Int32} {w : Int64} {cs : List zE} (h7 : xs.length = 7) : ∀ {st : List Value}, yok6 st = true → yvs (xs, [w], cs) st (st.map (ycn xs w))
  | [], _ => rfl
  | a :: as, hd => by
    unfold yok6 at hd
    rw [List.all_cons, Bool.and_eq_true] at hd
    refine ⟨ycn xs w a, _, rfl, ?_, ycn_in h7 hd.2⟩
    cases a with
    | float k =>
      have hk : k.toNat < 7 := of_decide_eq_true hd.1
      refine ⟨_, ?_, rfl⟩
      show xs[k.toNat]? = some (xs.getD k.toNat 0)
      rw [List.getD_eq_getElem?_getD, List.getElem?_eq_getElem (by omega)]
      rfl
    | double k =>
      have hk : k.toNat = 0 := of_decide_eq_true hd.1
      exact ⟨w, by rw [hk]; rfl, rfl⟩
    | _ => exact rfl
/-- a stretch: `lgo` with closed numbers, for every script of six ints -/
theorem lstr {n pc pc' : Nat} {i i' : Int32} {st st' : List Value} (hg : lgo n pc (yLS i) st = some (pc', yLS i', st')) (h1 : yok6 st = true) (h2 : yok6 st' = true) (nf : Bool) (x0 x1 x2 x3 x4 x5 z : Int32) (w : Int64) (h : zH) : zLaw nf [x0, x1, x2, x3, x4, x5] n (pc, yLS i, st.map (ycn [x0, x1, x2, x3, x4, x5, z] w), h) (pc', yLS i', st'.map (ycn [x0, x1, x2, x3, x4, x5, z] w), h) := by
  have hls : ∀ j : Int32, yls ([x0, x1, x2, x3, x4, x5, z], [w], []) (yLS j) (yLS j) := fun j => ⟨_, _, rfl, ⟨rfl, rfl⟩, _, _, rfl, ⟨rfl, rfl⟩, _, _, rfl, ⟨rfl, rfl⟩, _, _, rfl, ⟨rfl, rfl⟩, _, _, rfl, ⟨rfl, rfl⟩, rfl⟩
  obtain ⟨cl', cst', g1, g2, g3⟩ := lgo_ok (nf := nf) (xs := [x0, x1, x2, x3, x4, x5]) (ys := [z]) (ρ := ([x0, x1, x2, x3, x4, x5, z], [w], [])) rfl rfl n pc pc' (yLS i) (yLS i') (yLS i) st st' _ hg (hls i) (ycn_in (xs := [x0, x1, x2, x3, x4, x5, z]) rfl h1)
  have e1 : cst' = st'.map (ycn [x0, x1, x2, x3, x4, x5, z] w) := ycn_ok rfl rfl h2 g2
  have e2 : cl' = yLS i' := by
    obtain ⟨_, _, rfl, ⟨a1, a2⟩, _, _, rfl, ⟨b1, b2⟩, _, _, rfl, ⟨c1, c2⟩, _, _, rfl, ⟨d1, d2⟩, _, _, rfl, ⟨f1, f2⟩, rfl⟩ := g1
    unfold yLS
    rw [Prod.ext_iff.mpr ⟨a1, a2⟩, Prod.ext_iff.mpr ⟨b1, b2⟩, Prod.ext_iff.mpr ⟨c1, c2⟩, Prod.ext_iff.mpr ⟨d1, d2⟩, Prod.ext_iff.mpr ⟨f1, f2⟩]
  have := g3 h
  rw [e1, e2] at this
  exact this
theorem ylaw_end {nf : Bool} {x0 x1 x2 x3 x4 x5 : Int32} {h : zH} : zLaw nf [x0, x1, x2, x3, x4, x5] 9 (1521, yLS 0, [], h) (1528, yLS 6, [.int 1], h) := lstr (st := []) (st' := [.int 1]) (by decide +kernel) rfl rfl nf x0 x1 x2 x3 x4 x5 0 0 h
theorem zEv_int {X : zX} {I : zI} {mcl : Nat → Nat} {mt : zM} {d mi : Nat} {as : List Value} {h : zH} {r : Option Value} {h' : zH} {q : Nat × Bool × Nat × Option FieldType × (Nat → Option (Instr × Nat))} (hm : mt mi = some q) (hq : q.2.2.2.1 = some .int ∨ q.2.2.2.1 = some .boolean) (e : zEv X I mcl mt d mi as h r h') : ∃ z : Int32, r = some (.int z) := by
  cases d with
  | zero => exact e.elim
  | succ d =>
    obtain ⟨c, ini, nL, rt, tab, n, hmi, -, q0⟩ := e
    rw [hm] at hmi
    cases hmi
    have key : ∀ (n pc : Nat) (ls : zL) (st : List Value) (h : zH) (r : Option Value) (h' : zH), zRun X I mcl (zEv X I mcl mt d) c ini nL rt tab n pc ls st h r h' → ∃ z : Int32, r = some (.int z) := by
      intro n
      induction n with
      | zero => intro pc ls st h r h' q; exact q.elim
      | succ n ih =>
        intro pc ls st h r h' q
        obtain ⟨i, len, -, q⟩ := q
        rcases q with ⟨q1, -⟩ | ⟨pc1, ls1, st1, h1, -, q2⟩ | ⟨rest, -, q2⟩ | ⟨mi, as, rest, r1, h1, -, -, q2⟩
        · have hrt : rt = some .int ∨ rt = some .boolean := hq
          cases i with
          | ireturn =>
            dsimp only [zret] at q1
            split at q1
            · split at q1
              · cases q1; exact ⟨_, rfl⟩
              · cases q1
            · cases q1
          | lreturn =>
            rcases hrt with rfl | rfl <;> (dsimp only [zret] at q1; split at q1 <;> simp_all)
          | areturn =>
            rcases hrt with rfl | rfl <;> (dsimp only [zret] at q1; split at q1 <;> simp_all)
          | return_ =>
            rcases hrt with rfl | rfl <;> (dsimp only [zret] at q1; split at q1 <;> simp_all)
          | _ => exact nomatch (show (none : Option (Option Value)) = some _ from q1)
        · exact ih _ _ _ _ _ _ q2
        · exact ih _ _ _ _ _ _ q2
        · exact ih _ _ _ _ _ _ q2
    exact key _ _ _ _ _ _ _ q0
theorem yhead {hx : zH} (l1 : hx.length = 128) : (hx ++ yHo)[128]? = some (11, zobj (match yHm with | (_, .inr (.inr (.inr fs))) :: _ => fs | _ => [])) := by
  rw [List.getElem?_append_right (by omega), l1]
  rfl
set_option maxHeartbeats 1000000 in
/-- the two calls of a case and the comparison of their answers -/
theorem ylaw_two {nf : Bool} {xs : List Int32} {pk p1 p2 j1 j2 mi1 mi2 : Nat} {as : List Value} {v : Value} {hx hm : zH}
    (g1 : ∀ h : zH, ∃ n : Nat, zLaw nf xs n (pk, yLS 0, [], h) (p1, yLS 0, as.reverse ++ [.ref 0], h))
    (t1 : ztlaw p1 = some (.invokevirtual j1, 3)) (i1 : zIT 19 j1 = some (1, mi1, as.length)) (c1 : zmcl mi1 = 10)
    (g2 : ∀ h : zH, ∃ n : Nat, zLaw nf xs n (p1 + 3, yLS 0, [v], h) (p2, yLS 0, as.reverse ++ [.ref 128, v], h))
    (t2 : ztlaw p2 = some (.invokevirtual j2, 3)) (i2 : zIT 19 j2 = some (1, mi2, as.length)) (c2 : zmcl mi2 = 11) (hw : zw8 [v] = true)
    (g3 : ∀ h : zH, ∃ n : Nat, zLaw nf xs n (p2 + 3, yLS 0, [v, v], h) (1521, yLS 0, [], h))
    (l1 : hx.length = 128) (e1 : zEv (zXt nf xs) zIT zmcl zMt 20 mi1 (.ref 0 :: as) (yHx ++ yHo) (some v) (hx ++ yHo)) (e2 : zEv (zXt nf xs) zIT zmcl zMt 20 mi2 (.ref 128 :: as) (hx ++ yHo) (some v) (hx ++ hm)) :
    ∃ n : Nat, zLaw nf xs n (pk, yLS 0, [], yHx ++ yHo) (1521, yLS 0, [], hx ++ hm) := by
  obtain ⟨k1, r1⟩ := g1 (yHx ++ yHo)
  obtain ⟨k2, r2⟩ := g2 (hx ++ yHo)
  obtain ⟨k3, r3⟩ := g3 (hx ++ hm)
  have d1 : ∀ r : List Value, (as.reverse ++ r).drop as.length = r := fun r => by rw [List.drop_append, List.drop_of_length_le (by simp), List.length_reverse, Nat.sub_self]; rfl
  have d2 : ∀ r : List Value, ((as.reverse ++ r).take as.length).reverse = as := fun r => by rw [List.take_append_of_le_length (by simp), List.take_of_length_le (by simp), List.reverse_reverse]
  have s1 : zcall (zXt nf xs) zIT zmcl 19 (.invokevirtual j1) (as.reverse ++ [.ref 0]) (yHx ++ yHo) = some (mi1, .ref 0 :: as, []) := by
    have hg : (yHx ++ yHo)[0]? = some (10, zobj (match yHx with | (_, .inr (.inr (.inr fs))) :: _ => fs | _ => [])) := rfl
    simp only [zcall, i1, d1, d2, hg, zobj]
    rw [if_pos ⟨c1.symm, by simp, rfl⟩]
  have s2 : zcall (zXt nf xs) zIT zmcl 19 (.invokevirtual j2) (as.reverse ++ [.ref 128, v]) (hx ++ yHo) = some (mi2, .ref 128 :: as, [v]) := by
    have hg := yhead l1
    simp only [zcall, i2, d1, d2, hg, zobj]
    rw [if_pos ⟨c2.symm, by simp, hw⟩]
  exact ⟨_, zLaw_trans r1 (zLaw_trans (zGo_call (a := (p1, yLS 0, as.reverse ++ [.ref 0], yHx ++ yHo)) t1 s1 e1) (zLaw_trans r2 (zLaw_trans (zGo_call (a := (p2, yLS 0, as.reverse ++ [.ref 128, v], hx ++ yHo)) t2 s2 e2) r3)))⟩
theorem yfull {n : Nat} {vals : List Int32} (k : Nat) (q : Int × Int) (x : Int32) (hq : (List.replicate n ((-2147483648 : Int), (2147483647 : Int)))[k]? = some q) (_ : vals[k]? = some x) : q.1 ≤ x.toInt ∧ x.toInt ≤ q.2 := by
  have := List.eq_of_mem_replicate (List.mem_of_getElem? hq)
  subst this
  exact yb x
theorem ycmp_eq {nf : Bool} {xs : List Int32} {p : Nat} {off : Int} {z : Int32} {h : zH} (t : ztlaw p = some (.if_icmp .eq off, 3)) (ho : (p : Int) + off = 1521) : zLaw nf xs 1 (p, yLS 0, [.int z, .int z], h) (1521, yLS 0, [], h) := by
  refine zGo_one t (ystepI ?_)
  show zbr (zicmp .eq z z) p off (yLS 0) [] h = some _
  have e : zicmp .eq z z = true := decide_eq_true rfl
  rw [e]
  unfold zbr
  rw [ho]
  rfl
