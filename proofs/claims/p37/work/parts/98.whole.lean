/-! THE CLAIM OUT OF ONE WALK OF THE LAW'S BODY. Your part is whole_start (and what it stands on); all else here is the same for every law, but numbers. -/
def R_law : String := "LaughLineLaw"
def lw_P (b : Addr) (xs : List Int32) (args : Array Value) (s : State) : Prop := args = #[.ref b] ∧ s.IntsAt b xs ∧ xs.length ≤ 3072 ∧ (Jvm.Cond.and given_1 narrow_1).before args s = true
def lw_Q (_ : Array Value) (s : State) (o : Outcome) (t : State) : Prop := o = .returned (some (.int 1)) ∧ Framed s o t [] 601024 7293034
def lw_Z (below : List Frame) (a : Array Value) (s : State) : State → Prop := fun t => ∃ o, t.status = .running ∧ Ended t below o ∧ lw_Q a s o t
/-- the law's own end, with 1 on the stack, nothing written that was there before, its room as the claim has it -/
theorem lw_ret {p : Program} {l : Launch} {e : Env} {s : State} {m : MethodId} {below : List Frame} {meth : Method} {c : Code} {b : Nat} (hx : p.tables.exec = Jvm.exec) (hb : c.code = code) (hr : meth.sig.returnType = ret) (hlocks : meth.locks = false) {pc : Nat} {H : Heap} {ls : Array Slot} (hdg : decode code pc = .ok (.ireturn, 1)) : W p l e room_1 s m #[Value.ref b] below meth c H [] 601024 7293034 (lw_Z below #[Value.ref b] s) (F0 m pc ls [.int 1]) := by
  intro T hT X
  obtain ⟨fs, hret, hrun, hended, hW, hframe⟩ := X.leave (v := some (.int 1)) (hlocks := hlocks) (fun h => by rw [hr] at h; cases h)
  have hmeth' : T.vm.method? m = some meth := X.method'
  refine ⟨T.setFrames fs, ?_, .returned (some (.int 1)), hrun, hended, rfl, ⟨_, rfl⟩, hW, hframe⟩
  jvm_step X.here [X.here.top, hx, hb, hdg, hmeth', hr, ret, narrow_b1]
  (try refine ⟨rfl, ?_⟩); (try refine ⟨rfl, ?_⟩)
  first | (intro acts; rw [hret _ acts rfl rfl rfl]) | rw [hret _ _ rfl rfl rfl]
  exact Steps.refl _
/-- what holds at the law's entry: the machine, the code, the tables' words (any of lw_tbl by 'hts w (by decide +kernel)'), the script of L ints xs at the cell b, what the Statement gives of the start (any of its parts by flat_of_before) -/
def lw_At (p : Program) (s : State) (m : MethodId) (meth : Method) (c : Code) (b L : Nat) (xs : Nat → Int32) : Prop :=
  p.tables.exec = Jvm.exec ∧ c.code = code ∧ meth.sig.returnType = ret ∧ c.maxLocals = 7 ∧ s.vm.findClass R_law = some m.cls ∧ (∀ w ∈ lw_tbl, w.before #[Value.ref b] s = true) ∧ va_X b L xs s s.heap ∧ b < s.heap.size ∧ meth.locks = false ∧ (Jvm.Cond.and given_1 narrow_1).before #[Value.ref b] s = true
theorem yX_of {b L : Nat} {xs : Nat → Int32} {s : State} {H : Heap} (h : va_X b L xs s H) : va_X b ((List.range L).map xs).length (fun j => ((List.range L).map xs).getD j 0) s H := by
  obtain ⟨scr, g1, g2, g3, g4, g5⟩ := h
  refine ⟨scr, g1, g2, g3, by rw [List.length_map, List.length_range]; exact g4, fun j hj => ?_⟩
  rw [List.length_map, List.length_range] at hj
  rw [g5 j hj]
  dsimp only
  rw [List.getD_eq_getElem?_getD, List.getElem?_map, List.getElem?_range hj]
  rfl
def ycd : Cond := .initialized "LaughLineLaw"
theorem ycd_in : ycd ∈ lw_tbl := List.mem_of_getElem? (i := 107) (by decide +kernel)
set_option maxRecDepth 1000000 in
set_option maxHeartbeats 8000000 in
theorem whole_start {p : Program} {e : Env} {s : State} {m : MethodId} {below : List Frame} {meth : Method} {c : Code} (l : Launch) (hflags : l.flags = flags0) {b L : Nat} {xs : Nat → Int32} (hL : L ≤ 3072) (C0 : lw_At p s m meth c b L xs) : W p l e room_1 s m #[Value.ref b] below meth c s.heap [] 0 0 (lw_Z below #[Value.ref b] s) (entryFrame m ([Value.ref b] : List Value).toArray 7) := by
  obtain ⟨hx, hb, hr, hml, hown, hts, hX, hbl, hlocks, hgv⟩ := C0
  have hX' := yX_of hX
  have hlen : ((List.range L).map xs).length = L := by rw [List.length_map, List.length_range]
  generalize (List.range L).map xs = xl at hX' hlen
  have hxl : xl.length ≤ 3072 := by omega
  obtain ⟨nf, xa, ca, D, hxa, hG, hN⟩ := zentry_ok hts hgv hX' hbl
  have hR0 : zHR s.heap.size xa ca D zcls [] s.heap := ⟨rfl, fun k e9 hk => by simp at hk⟩
  have hts0 : ∀ w ∈ ycd :: zTs, w.before #[Value.ref b] s = true := fun w h => by
    rcases List.mem_cons.mp h with rfl | h
    · exact hts _ ycd_in
    · exact hts _ (zTs_in w h)
  have hown' : s.vm.findClass (zown 19) = some m.cls := hown
  have hlv := lv_entry ([Value.ref b] : List Value) (n := 7) (show (1 : Nat) ≤ 7 by decide)
  rw [lg_entry_eq]
  generalize (lg_sl ([Value.ref b] : List Value) ++ List.replicate (7 - (lg_sl ([Value.ref b] : List Value)).length) Slot.unset).toArray = LS at hlv ⊢
  have hlv' : lv_has LS 7 (zcl s.heap.size xa [(0, .retAddr 6)]) := by
    have e9 : zcl s.heap.size xa [(0, .retAddr 6)] = lv_args 0 [Value.ref b] := by
      show [(0, Value.ref (xa 6))] = [(0, Value.ref b)]
      rw [hxa]
    rw [e9]
    exact hlv
  have hA : ∀ a : Nat, a < s.heap.size → ¬ zA s.heap.size a := fun a h q => absurd q (Nat.not_le.mpr h)
  have hst : l.stackTraces = false := by
    unfold Launch.stackTraces
    rw [hflags]
    decide +kernel
  have fl := flat_of_before _ hgv
  have hw : ∀ w ∈ yLW, va_Nw w s := fun w h => va_Nw.of (yokw_t h) (hts w ((List.mem_append.mp h).elim (yLW1_in w) (yLW2_in w)))
  have hNc : va_Nc yE2 yEx s := va_Nc.of (fl _ (by decide +kernel))
  have hU : vx_Zq Bundle.tN "UNASSIGNED_STACK" Bundle.steD (zA s.heap.size) s s.heap := vx_Zqof (hts (.laysStatic Bundle.tN "UNASSIGNED_STACK" Bundle.steD) (List.mem_of_getElem? (i := 1268) (by decide +kernel))) (hts (.initialized Bundle.tN) (List.mem_of_getElem? (i := 125) (by decide +kernel))) (fl _ (by decide +kernel)) hA
  have hSu : vx_Zq Bundle.tN "SUPPRESSED_SENTINEL" Bundle.listD (zA s.heap.size) s s.heap := vx_Zqof (hts (.laysStatic Bundle.tN "SUPPRESSED_SENTINEL" Bundle.listD) (List.mem_of_getElem? (i := 1270) (by decide +kernel))) (hts (.initialized Bundle.tN) (List.mem_of_getElem? (i := 125) (by decide +kernel))) (fl _ (by decide +kernel)) hA
  -- a way of our machine, nothing new made
  have go : ∀ (a b' : zSt) (cells slots : Nat) (H : Heap) (locs : List Loc) (LS : Array Slot), lR nf xl a b' → b'.2.2.2.length = a.2.2.2.length → cells ≤ 2000 → slots ≤ 20000 → zHR s.heap.size xa ca D zcls a.2.2.2 H → va_S (zA s.heap.size) s.heap H locs → lv_has LS 7 (zcl s.heap.size xa a.2.1) → (∀ (H' : Heap) (locs' : List Loc) (LS' : Array Slot), zHR s.heap.size xa ca D zcls b'.2.2.2 H' → va_S (zA s.heap.size) s.heap H' locs' → lv_has LS' 7 (zcl s.heap.size xa b'.2.1) → W p l e room_1 s m #[Value.ref b] below meth c H' locs' cells slots (lw_Z below #[Value.ref b] s) (F0 m b'.1 LS' (b'.2.2.1.map (zcv s.heap.size xa)))) → W p l e room_1 s m #[Value.ref b] below meth c H locs cells slots (lw_Z below #[Value.ref b] s) (F0 m a.1 LS (a.2.2.1.map (zcv s.heap.size xa))) := by
    rintro a b' cells slots H locs LS ⟨n, r⟩ hln hc hs hR hS hl k
    have hgr := zGo_g (ynew_len nf xl) _ _ _ r
    have hz : zsl b'.2.2.2 - zsl a.2.2.2 = 0 := by
      have h9 : zsl b'.2.2.2 + 1000000 * a.2.2.2.length ≤ zsl a.2.2.2 + 1000000 * b'.2.2.2.length := hgr.2
      rw [hln] at h9
      omega
    have hd : b'.2.2.2.length - a.2.2.2.length = 0 := by omega
    refine zgo_ok (p := p) (l := l) (e := e) (R := room_1) (s := s) (m := m) (below := below) (meth := meth) (c := c) (d := 1000) (cd0 := ycd) hx hb hml hts0 hown' (zTab_ok nf xl 19) hG hN (fun h => by cases h) (Nat.le_refl _) ztlaw_ok zCal_ok zMath_ok (zMets nf xl 1000) (by decide) (by decide) _ _ _ r cells slots H locs LS (by rw [hd]; show cells + 0 ≤ 601024; omega) (by rw [hz]; show slots + 0 ≤ 7293034; omega) hR hS hl (fun H' locs' LS' g1 g2 g3 => ?_)
    rw [hd, hz]
    exact k H' locs' LS' g1 g2 g3
  have loop : ∀ (r i : Nat) (cl : zL) (h : zH) (cells slots : Nat) (H : Heap) (locs : List Loc) (LS : Array Slot), xl.length ≤ i + 6 * r + 5 → i ≤ 3072 → cells + r ≤ 1000 → slots + 6 * r ≤ 12000 → lok cl (Int32.ofNat i) → lInq h → zHR s.heap.size xa ca D zcls h H → va_S (zA s.heap.size) s.heap H locs → lv_has LS 7 (zcl s.heap.size xa cl) → W p l e room_1 s m #[Value.ref b] below meth c H locs cells slots (lw_Z below #[Value.ref b] s) (F0 m 23 LS []) := by
    intro r
    induction r with
    | zero =>
      intro i cl h cells slots H locs LS h1 h2 h3 h4 hl hI hR hS hlv
      refine go (23, cl, [], h) (1499, cl, [.int 1], h) cells slots H locs LS (lhead_out hl h2 hxl (by omega)) rfl (by omega) (by omega) hR hS hlv (fun H' locs' LS' g1 g2 g3 => ?_)
      refine va_forget (fun q hq => g2.2.2 q hq) ?_
      refine W.widen (k := 601024) (n := 7293034) (by omega) (by omega) ?_
      exact lw_ret hx hb hr hlocks (ztlaw_ok 1499 _ _ rfl).1
    | succ r ih =>
      intro i cl h cells slots H locs LS h1 h2 h3 h4 hl hI hR hS hlv
      by_cases ho : xl.length < i + 6
      · refine go (23, cl, [], h) (1499, cl, [.int 1], h) cells slots H locs LS (lhead_out hl h2 hxl ho) rfl (by omega) (by omega) hR hS hlv (fun H' locs' LS' g1 g2 g3 => ?_)
        refine va_forget (fun q hq => g2.2.2 q hq) ?_
        refine W.widen (k := 601024) (n := 7293034) (by omega) (by omega) ?_
        exact lw_ret hx hb hr hlocks (ztlaw_ok 1499 _ _ rfl).1
      · have hin := lin_ok (i := i) hxl (by omega)
        have hd := lhead_in (nf := nf) (h := h) hl h2 hxl (by omega) hin.1
        -- behind a pass
        have next : ∀ (cl2 : zL) (h2' : zH) (cells2 slots2 : Nat) (H2 : Heap) (locs2 : List Loc) (LS2 : Array Slot), cells2 + r ≤ 1000 → slots2 + 6 * r ≤ 12000 → lok cl2 (Int32.ofNat i) → lInq h2' → zHR s.heap.size xa ca D zcls h2' H2 → va_S (zA s.heap.size) s.heap H2 locs2 → lv_has LS2 7 (zcl s.heap.size xa cl2) → W p l e room_1 s m #[Value.ref b] below meth c H2 locs2 cells2 slots2 (lw_Z below #[Value.ref b] s) (F0 m 1492 LS2 []) := by
          intro cl2 h2' cells2 slots2 H2 locs2 LS2 q1 q2 hl2 hI2 hR2 hS2 hlv2
          obtain ⟨cl3, t1, t2⟩ := ltail (nf := nf) (xs := xl) (h := h2') hl2
          exact go (1492, cl2, [], h2') (23, cl3, [], h2') cells2 slots2 H2 locs2 LS2 t1 rfl (by omega) (by omega) hR2 hS2 hlv2 (fun H' locs' LS' g1 g2 g3 => ih (i + 6) cl3 h2' cells2 slots2 H' locs' LS' (by omega) (by omega) q1 q2 t2 hI2 g1 g2 g3)
        by_cases hsw : (xl.getD (Int32.ofNat i).toNatClampNeg 0 &&& 63).toInt < 0 ∨ 36 < (xl.getD (Int32.ofNat i).toNatClampNeg 0 &&& 63).toInt
        · exact go (23, cl, [], h) (1492, cl, [], h) cells slots H locs LS (lRt hd (ysw_def nf xl _ cl h hsw)) rfl (by omega) (by omega) hR hS hlv (fun H' locs' LS' g1 g2 g3 => next cl h cells slots H' locs' LS' (by omega) (by omega) hl hI g1 g2 g3)
        · obtain ⟨k, pk, hpk, hto⟩ := ysw_in nf xl _ hsw
          by_cases k4 : k = 4
          · subst k4
            cases hpk
            refine go (23, cl, [], h) (378, cl, [.ref 175, .int (lx xl (Int32.ofNat i) 2), .int (lx xl (Int32.ofNat i) 1), .ref 0], h) cells slots H locs LS (lRt hd (lRt (hto cl h) (lRt ⟨1, la_r (k := 1) (pc := 364) (st := []) (h := h) rfl hl.2.1⟩ (lRt ⟨5, la_s (pc := 365) (st := [.ref 0]) (h := h) (j := 1) rfl rfl rfl rfl rfl hl (hin.2 1 (by decide) (by decide))⟩ (lRt ⟨5, la_s (pc := 371) (st := [.int (lx xl (Int32.ofNat i) 1), .ref 0]) (h := h) (j := 2) rfl rfl rfl rfl rfl hl (hin.2 2 (by decide) (by decide))⟩ ⟨1, la_r (k := 3) (pc := 377) rfl hl.2.2.2.1⟩))))) rfl (by omega) (by omega) hR hS hlv (fun H' locs' LS' g1 g2 g3 => ?_)
            have hrun := vx_runSW (p := p) (l := l) (e := e) (R := room_1) (s := s) (m := m) (args := #[Value.ref b]) (below := below) (meth := meth) (c := c) (H := H') (locs := locs') (cells := cells) (slots := slots) (cc := code) (nL := 7) (Ts := lw_tbl) (own := "LaughLineLaw") (index := 39) (y := yLn) (bytes := method_3_code) (maxL := 5) (ret := some .int) (hh := yhh) (ws := yws2) (rm := yrm2) (mc := 1) (ms := 6) (n := 4) (As := ([.ref 0, .int (lx xl (Int32.ofNat i) 1), .int (lx xl (Int32.ofNat i) 2), .ref 175] : List Value).map (zcv s.heap.size xa)) (rest := []) (g := F0 m 378 LS' (([.ref 175, .int (lx xl (Int32.ofNat i) 2), .int (lx xl (Int32.ofNat i) 1), .ref 0] : List Value).map (zcv s.heap.size xa)))
              ⟨hx, hb, hml, hown, hts⟩ (yrid2 (p0 := lx xl (Int32.ofNat i) 1) (p1 := lx xl (Int32.ofNat i) 2) (nf := nf) (xs := xl) hst hI)
              (vx_cwSW 4 hts ylw_in rfl rfl rfl ⟨by decide, by decide, by decide +kernel⟩ ⟨by decide, by decide⟩)
              ⟨yPx_blind, yPx_pre (as := [.ref 0, .int (lx xl (Int32.ofNat i) 1), .int (lx xl (Int32.ofNat i) 2), .ref 175]) g1 g2 hG hN hw hNc hU hSu⟩ rfl rfl g3.1 rfl (show 2 * 0 + 0 ≤ 8 by decide) (ztlaw_ok 378 _ _ rfl).1 ⟨by show cells + 1 ≤ 601024; omega, by show slots + 6 ≤ 7293034; omega⟩
            refine va_calli hrun g2 (fun _ _ h => h) (fun _ h => h) (fun r9 u t H1 locs1 ht hal hpo hbx k1 k2 k3 => ?_)
            obtain ⟨h5, hI5, hk5⟩ := hbx
            rw [ht] at hk5
            obtain ⟨cl6, h6, t6, hl6, hI6, l6⟩ := lafter (nf := nf) (r := r9) hl hin hI5
            exact go (381, cl, [.int r9], h5) (1492, cl6, [], h6) (cells + 1) (slots + 6) H1 locs1 LS' t6 l6 (by omega) (by omega) hk5 k3 g3 (fun H2 locs2 LS2 f1 f2 f3 => next cl6 h6 (cells + 1) (slots + 6) H2 locs2 LS2 (by omega) (by omega) hl6 hI6 f1 f2 f3)
          · by_cases k10 : k = 10
            · subst k10
              cases hpk
              obtain ⟨z1, z2, h6, h7, t1, t2, t3, hI7, l6, l7⟩ := lw10 (nf := nf) hl hin hI
              refine go (23, cl, [], h) (599, cl, [.long z1], h6) cells slots H locs LS (lRt hd (lRt (hto cl h) t1)) l6 (by omega) (by omega) hR hS hlv (fun H' locs' LS' g1 g2 g3 => ?_)
              refine lv_pop2_2 hx hb (ztlaw_ok 599 _ _ rfl).1 rfl ?_
              refine go (600, cl, [], h6) (622, cl, [.long z2], h7) cells slots H' locs' LS' t2 (by show h7.length = h6.length; omega) (by omega) (by omega) g1 g2 g3 (fun H2 locs2 LS2 f1 f2 f3 => ?_)
              refine lv_pop2_2 hx hb (ztlaw_ok 622 _ _ rfl).1 rfl ?_
              exact go (623, cl, [], h7) (1492, cl, [], h7) cells slots H2 locs2 LS2 t3 rfl (by omega) (by omega) f1 f2 f3 (fun H3 locs3 LS3 e1 e2 e3 => next cl h7 cells slots H3 locs3 LS3 (by omega) (by omega) hl hI7 e1 e2 e3)
            · obtain ⟨h6, t6, hI6, l6⟩ := lplainc (nf := nf) hpk k4 k10 hl hin hI
              exact go (23, cl, [], h) (1492, cl, [], h6) cells slots H locs LS (lRt hd (lRt (hto cl h) t6)) l6 (by omega) (by omega) hR hS hlv (fun H' locs' LS' g1 g2 g3 => next cl h6 cells slots H' locs' LS' (by omega) (by omega) hl hI6 g1 g2 g3)
  obtain ⟨n0, r0⟩ := ystart yin1_all nf xl
  have hc0 : (yHx ++ yHo).length - ([] : zH).length = 176 := by rw [yH_len]; rfl
  have hs0 : zsl (yHx ++ yHo) - zsl ([] : zH) = 5905 := by rw [yH_sl]; rfl
  refine zgo_ok (p := p) (l := l) (e := e) (R := room_1) (s := s) (m := m) (below := below) (meth := meth) (c := c) (d := 1000) (cd0 := ycd) hx hb hml hts0 hown' (zTab_ok nf xl 19) hG hN (fun h => by cases h) (Nat.le_refl _) ztlaw_ok zCal_ok zMath_ok (zMets nf xl 1000) (by decide) (by decide) _ _ _ r0 0 0 s.heap [] LS (by dsimp only; rw [hc0]; show 0 + 176 ≤ 601024; omega) (by dsimp only; rw [hs0]; show 0 + 5905 ≤ 7293034; omega) hR0 va_S.rf hlv' (fun H' locs' LS' g1 g2 g3 => ?_)
  dsimp only at g1 g3 ⊢
  rw [hc0, hs0]
  exact loop 512 0 (yLS 0) (yHx ++ yHo) (0 + 176) (0 + 5905) H' locs' LS' (by omega) (by decide) (by decide) (by decide) ⟨rfl, rfl, rfl, rfl, rfl⟩ lInq0 g1 g2 g3
set_option maxHeartbeats 4000000 in
theorem lw_walk (l : Launch) (hflags : l.flags = flags0) (b : Addr) (xs : List Int32) : MetFree l x (headSpec (Jvm.Cond.code x code maxLocals ret :: tables_1) room_1) (lw_P b xs) (fun _ _ _ _ _ => True) lw_Q := by
  refine MetFree.of_bodyS (code := code) (maxLocals := maxLocals) (ret := ret) (by decide) ?_ ?_
  · intro args s m h hn
    obtain ⟨meth, c, h1, h2, h3, h4, h5, h6, -, -⟩ := Cond.code_spec hn (atoms_spec (ws := Jvm.Cond.code x code maxLocals ret :: tables_1) h _ List.mem_cons_self)
    exact ⟨meth, c, h1, h2, h3, h4, h5, h6⟩
  · intro p e s m args below meth c s₁ B hml0 hP _
    obtain ⟨rfl, hx, hbd, hgv⟩ := hP
    obtain ⟨scr, harrAt, hlist, hof, hsmall⟩ := hx
    obtain ⟨hcb, hkn, -, -⟩ := State.arrayAt?_spec harrAt
    have hown : s.vm.findClass R_law = some m.cls := findClass_of_methodNamed B.named
    have hts0 : ∀ c ∈ (Jvm.Cond.code x code maxLocals ret :: tables_1), c.before #[Value.ref b] s = true := atoms_spec (ws := Jvm.Cond.code x code maxLocals ret :: tables_1) B.pre
    have hts : ∀ w ∈ lw_tbl, w.before #[Value.ref b] s = true := k2_hts_sels lw_privs (fun w hw => hts0 w (List.mem_cons_of_mem _ hw)) lw_privs_ok
    have hml : c.maxLocals = 7 := B.maxLocals_eq (hts0 _ List.mem_cons_self)
    have X₀ : Stand p l e room_1 s m #[Value.ref b] below meth c s₁ [] 0 0 := Stand.of_body B
    have hh0 : s₁.heap = s.heap := by rw [B.state]; rfl
    have hsz : scr.slots.size = xs.length := by rw [← Array.length_toList, hlist, List.length_map]
    have hval : ∀ j : Nat, j < xs.length → scr.slots[j]? = some (.int (xs.getD j 0)) := fun j hj => by
      rw [← Array.getElem?_toList, hlist]
      simp [hj]
    have hbl : b < s.heap.size := (Array.getElem?_eq_some_iff.mp hcb).1
    have hX : va_X b xs.length (fun j => xs.getD j 0) s s.heap := ⟨scr, hcb, hof, hkn, hsz, hval⟩
    have K : W p l e room_1 s m #[Value.ref b] below meth c s₁.heap [] 0 0 (lw_Z below #[Value.ref b] s) (entryFrame m ([Value.ref b] : List Value).toArray 7) := by
      rw [hh0]
      exact whole_start l hflags hbd ⟨B.exec, B.bytes, B.returns, hml, hown, hts, hX, hbl, B.notSynchronized, hgv⟩
    obtain ⟨t, a1, o, b1, b2, b3⟩ := K s₁ rfl X₀
    exact ⟨t, o, a1, b1, b2, b3⟩
theorem lw_pre_spec {args : Array Value} {s : State} (h : (Jvm.Cond.and given_1 narrow_1).before args s = true) (hr : rest_1_c.before args s = true) : ∃ (b : Addr) (xs : List Int32), lw_P b xs args s := by
  have hs := flat_of_before _ h
  have hq := flat_of_before _ hr
  have hc : (Cond.count 1).before args s = true := hs _ (by decide +kernel)
  have harr : (Cond.arrayOf (.arg 0) .int).before args s = true := hs _ (by decide +kernel)
  have hle : (Cond.le (.length (.arg 0)) (.int 3072)).before args s = true := hs _ (by decide +kernel)
  have hlen : (Cond.isInt (.length (.arg 0))).before args s = true := hq _ (by decide +kernel)
  have hall : (Cond.all (.arg 0) (.isInt (.elem (.arg 0) (.index 0)))).before args s = true := hq _ (by decide +kernel)
  obtain ⟨b, xs, hb, hx⟩ := State.ints_of_pre rfl harr hlen hall
  have hsm : xs.length < 2 ^ 31 := hx.choose_spec.2.2.2
  have hev : (Term.length (.arg 0)).eval args s none [] s = some (.int xs.length.toInt32) := hx.length_eval hb
  have hv := Cond.le_ints hev (show (Term.int 3072).eval args s none [] s = some (.int 3072) from rfl)
  have hd : xs.length.toInt32 ≤ 3072 := by
    simpa [Cond.before, Cond.holds, hv] using hle
  have hN : xs.length ≤ 3072 := (Int32.ofNat_le_ofNat hsm (by decide)).mp (show Int32.ofNat xs.length ≤ Int32.ofNat 3072 from hd)
  exact ⟨b, xs, Cond.one_arg hc (show args[0]? = some (.ref b) from hb), hx, hN, h⟩
theorem lw_comes (l : Launch) (hflags : l.flags = flags0) : Comes l x (Jvm.Cond.code x code maxLocals ret :: tables_1) room_1 (fun tb e args s => Calls_1 tb e args s ∧ rest_1 tb e args s ∧ Pre_1 tb e args s)
    (fun _ _ args s o t => lw_Q args s o t) := by
  intro p e ha hc hk s m args below hf hfit hheap happ hpre
  obtain ⟨b, xs, hP⟩ := lw_pre_spec hpre.2.2 hpre.2.1
  obtain ⟨k, o, h1, h2, h3, hQ⟩ := lw_walk l hflags b xs p e ha hc hk s m args below hf ((Spec.applies_iff_loose hf).mp happ).1 hP trivial
  exact ⟨k, o, h1, h2, h3, hQ⟩
theorem lw_frame {s t : State} {o : Outcome} {args : Array Value} (h : Framed s o t [] 601024 7293034) :
    Framed s o t (fieldLocs frame_1_writes args s ++ arrayLocs frame_1_arrays args s ++ staticLocs frame_1_statics s) 601024 7293034 := h
theorem lw_limb (L : Cond) (hL : ∀ (args : Array Value) (s t : State), L.after args s (.returned (some (.int 1))) t = true) :
    ArmFor flags0 classFile x code maxLocals ret World_1 tables_1 room_1 Calls_1 rest_1 Pre_1
      (fun tb e a s o t => postC L tb e a s o t ∧ Framed s o t (fieldLocs frame_1_writes a s ++ arrayLocs frame_1_arrays a s ++ staticLocs frame_1_statics s) 601024 7293034) := by
  intro l hflags _ _ p e ha hc hk s m args below hf hfit hheap happ hpre
  obtain ⟨k, o, h1, h2, h3, rfl, hF⟩ := lw_comes l hflags p e ha hc hk s m args below hf hfit hheap happ hpre
  exact ⟨k, _, h1, h2, h3, hL args s _, lw_frame hF⟩
theorem i_vc : Claimed_1_1 ∧ Claimed_1_2 := ⟨lw_limb limb_1_1 (fun args s t => by simp [limb_1_1, Cond.after, Cond.holds, Cond.value]), lw_limb limb_1_2 (fun args s t => Cond.after_iff.mpr (by
  first | (rw [show limb_1_2 = Cond.eq .result (.int 1) from rfl, Cond.eq_ints (x := 1) (y := 1) rfl rfl]; simp; done) | (simp [limb_1_2, Cond.value, Term.eval]; done)))⟩
