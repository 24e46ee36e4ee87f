/-- the words of the law's own method, all in the tables -/
theorem ycw_in : Cond.codeWith yLn method_3_code 5 (some .int) yhh ∈ lw_tbl := List.mem_of_getElem? (i := 1234) (by decide +kernel)
theorem ylw_in : GoodIn lw_tbl (va_wsS "LaughLineLaw" 39 yLn yws2) := by
  have h0 : ∀ w ∈ ([.methodLink "LaughLineLaw" 39 yLn, .static yLn, .initialized "LaughLineLaw"] : List Cond), w ∈ lw_tbl := zin_r [1232, 1233, 107] (by decide +kernel)
  intro w hw
  unfold va_wsS at hw
  rcases List.mem_append.mp hw with hw | hw
  · refine ⟨h0 w ?_, good_of_word ?_⟩
    all_goals (simp only [List.mem_cons, List.not_mem_nil, or_false] at hw; rcases hw with rfl | rfl | rfl <;> first | rfl | simp [yLn])
  · rcases List.mem_cons.mp hw with rfl | hw
    · exact ⟨ycw_in, good_of_word rfl⟩
    · rcases List.mem_append.mp hw with hw | hw
      · exact ⟨yW2_in w hw, good_of_word (List.all_eq_true.mp yW2_good w hw)⟩
      · exact ⟨zTs_in w hw, zCal_ok.2.1 w hw⟩
/-! THE CLAIM OUT OF ONE WALK OF THE LAW'S BODY. Your part is whole_start (and what it stands on); all else here is the same for every law, but numbers. -/
def R_law : String := "LaughLineLaw"
def lw_P (b : Addr) (xs : List Int32) (args : Array Value) (s : State) : Prop := args = #[.ref b] ∧ s.IntsAt b xs ∧ xs.length ≤ 6 ∧ (Jvm.Cond.and given_1 narrow_1).before args s = true
def lw_Q (_ : Array Value) (s : State) (o : Outcome) (t : State) : Prop := o = .returned (some (.int 1)) ∧ Framed s o t [] 600002 7302232
def lw_Z (below : List Frame) (a : Array Value) (s : State) : State → Prop := fun t => ∃ o, t.status = .running ∧ Ended t below o ∧ lw_Q a s o t
/-- the law's own end, with 1 on the stack, nothing written that was there before, its room as the claim has it -/
theorem lw_ret {p : Program} {l : Launch} {e : Env} {s : State} {m : MethodId} {below : List Frame} {meth : Method} {c : Code} {b : Nat} (hx : p.tables.exec = Jvm.exec) (hb : c.code = code) (hr : meth.sig.returnType = ret) (hlocks : meth.locks = false) {pc : Nat} {H : Heap} {ls : Array Slot} (hdg : decode code pc = .ok (.ireturn, 1)) : W p l e room_1 s m #[Value.ref b] below meth c H [] 600002 7302232 (lw_Z below #[Value.ref b] s) (F0 m pc ls [.int 1]) := by
  intro T hT X
  obtain ⟨fs, hret, hrun, hended, hW, hframe⟩ := X.leave (v := some (.int 1)) (hlocks := hlocks) (fun h => by rw [hr] at h; cases h)
  have hmeth' : T.vm.method? m = some meth := X.method'
  refine ⟨T.setFrames fs, ?_, .returned (some (.int 1)), hrun, hended, rfl, ⟨_, rfl⟩, hW, hframe⟩
  jvm_step X.here [X.here.top, hx, hb, hdg, hmeth', hr, ret, narrow_b1]
  (try refine ⟨rfl, ?_⟩); (try refine ⟨rfl, ?_⟩)
  first | (intro acts; rw [hret _ acts rfl rfl rfl]) | rw [hret _ _ rfl rfl rfl]
  exact Steps.refl _
/-- what holds at the law's entry: the machine, the code, the tables' words (any of lw_tbl by 'hts w (by decide +kernel)'), the script of L ints xs at the cell b, what the Statement gives of the start (any of its parts by flat_of_before) -/
def lw_At (p : Program) (s : State) (m : MethodId) (meth : Method) (c : Code) (b L : Nat) (xs : Nat → Int32) : Prop :=
  p.tables.exec = Jvm.exec ∧ c.code = code ∧ meth.sig.returnType = ret ∧ c.maxLocals = 7 ∧ s.vm.findClass R_law = some m.cls ∧ (∀ w ∈ lw_tbl, w.before #[Value.ref b] s = true) ∧ va_X b L xs s s.heap ∧ b < s.heap.size ∧ meth.locks = false ∧ (Jvm.Cond.and given_1 narrow_1).before #[Value.ref b] s = true
theorem yX_of {b L : Nat} {xs : Nat → Int32} {s : State} {H : Heap} (h : va_X b L xs s H) : va_X b ((List.range L).map xs).length (fun j => ((List.range L).map xs).getD j 0) s H := by
  obtain ⟨scr, g1, g2, g3, g4, g5⟩ := h
  refine ⟨scr, g1, g2, g3, by rw [List.length_map, List.length_range]; exact g4, fun j hj => ?_⟩
  rw [List.length_map, List.length_range] at hj
  rw [g5 j hj]
  dsimp only
  rw [List.getD_eq_getElem?_getD, List.getElem?_map, List.getElem?_range hj]
  rfl
theorem ysix {l : List Int32} (h : l.length = 6) : ∃ x0 x1 x2 x3 x4 x5 : Int32, l = [x0, x1, x2, x3, x4, x5] := by
  match l, h with
  | [x0, x1, x2, x3, x4, x5], _ => exact ⟨x0, x1, x2, x3, x4, x5, rfl⟩
def ycd : Cond := .initialized "LaughLineLaw"
theorem ycd_in : ycd ∈ lw_tbl := List.mem_of_getElem? (i := 107) (by decide +kernel)
set_option maxHeartbeats 4000000 in
theorem whole_start {p : Program} {e : Env} {s : State} {m : MethodId} {below : List Frame} {meth : Method} {c : Code} (l : Launch) (hflags : l.flags = flags0) {b L : Nat} {xs : Nat → Int32} (hL : L ≤ 6) (C0 : lw_At p s m meth c b L xs) : W p l e room_1 s m #[Value.ref b] below meth c s.heap [] 0 0 (lw_Z below #[Value.ref b] s) (entryFrame m ([Value.ref b] : List Value).toArray 7) := by
  obtain ⟨hx, hb, hr, hml, hown, hts, hX, hbl, hlocks, hgv⟩ := C0
  have hX' := yX_of hX
  have hlen : ((List.range L).map xs).length = L := by rw [List.length_map, List.length_range]
  generalize (List.range L).map xs = xl at hX' hlen
  obtain ⟨nf, xa, ca, D, hxa, hG, hN⟩ := zentry_ok hts hgv hX' hbl
  have hR0 : zHR s.heap.size xa ca D zcls [] s.heap := ⟨rfl, fun k e9 hk => by simp at hk⟩
  have hts0 : ∀ w ∈ ycd :: zTs, w.before #[Value.ref b] s = true := fun w h => by
    rcases List.mem_cons.mp h with rfl | h
    · exact hts _ ycd_in
    · exact hts _ (zTs_in w h)
  have hown' : s.vm.findClass (zown 19) = some m.cls := hown
  have hlv := lv_entry ([Value.ref b] : List Value) (n := 7) (show (1 : Nat) ≤ 7 by decide)
  rw [lg_entry_eq]
  generalize (lg_sl ([Value.ref b] : List Value) ++ List.replicate (7 - (lg_sl ([Value.ref b] : List Value)).length) Slot.unset).toArray = LS at hlv ⊢
  have hlv' : lv_has LS 7 (zcl s.heap.size xa [(0, .retAddr 6)]) := by
    have e9 : zcl s.heap.size xa [(0, .retAddr 6)] = lv_args 0 [Value.ref b] := by
      show [(0, Value.ref (xa 6))] = [(0, Value.ref b)]
      rw [hxa]
    rw [e9]
    exact hlv
  have good : yGood nf xl → W p l e room_1 s m #[Value.ref b] below meth c s.heap [] 0 0 (lw_Z below #[Value.ref b] s) (F0 m 0 LS []) := by
    rintro ⟨n, ls, h, h1, h2, r⟩
    have z0 : zsl ([] : zH) = 0 := rfl
    refine zgo_ok (p := p) (l := l) (e := e) (R := room_1) (s := s) (m := m) (below := below) (meth := meth) (c := c) (d := 20) (cd0 := ycd) hx hb hml hts0 hown' (zTab_ok nf xl 19) hG hN (fun h => by cases h) (Nat.le_refl _) ztlaw_ok zCal_ok zMath_ok (zMets nf xl 20) (by decide) (by decide) _ _ _ r 0 0 s.heap [] LS (by show 0 + (h.length - 0) ≤ 600002; rw [h1]; decide) (by show 0 + (zsl h - zsl []) ≤ 7302232; omega) hR0 va_S.rf hlv' (fun H' locs' LS' g1 g2 g3 => ?_)
    dsimp only
    refine va_forget (fun q hq => g2.2.2 q hq) ?_
    refine W.widen (k := 600002) (n := 7302232) (by show 0 + (h.length - 0) ≤ 600002; rw [h1]; decide) (by show 0 + (zsl h - zsl []) ≤ 7302232; omega) ?_
    exact lw_ret hx hb hr hlocks (ztlaw_ok 1528 _ _ rfl).1
  by_cases h6 : L < 6
  · exact good (yshort_good nf xl (by rw [hlen]; exact h6))
  · obtain ⟨x0, x1, x2, x3, x4, x5, rfl⟩ := ysix (l := xl) (by rw [hlen]; omega)
    rcases yall_ways nf x0 x1 x2 x3 x4 x5 with hg | ⟨n, r⟩
    · exact good hg
    · -- rider
      have hA : ∀ a : Nat, a < s.heap.size → ¬ zA s.heap.size a := fun a h q => absurd q (Nat.not_le.mpr h)
      have hst : l.stackTraces = false := by
        unfold Launch.stackTraces
        rw [hflags]
        decide +kernel
      have fl := flat_of_before _ hgv
      have hw : ∀ w ∈ yLW, va_Nw w s := fun w h => va_Nw.of (yokw_t h) (hts w (yLW_in w h))
      have hU : vx_Zq Bundle.tN "UNASSIGNED_STACK" Bundle.steD (zA s.heap.size) s s.heap := vx_Zqof (hts (.laysStatic Bundle.tN "UNASSIGNED_STACK" Bundle.steD) (List.mem_of_getElem? (i := 1268) (by decide +kernel))) (hts (.initialized Bundle.tN) (List.mem_of_getElem? (i := 125) (by decide +kernel))) (fl _ (by decide +kernel)) hA
      have hSu : vx_Zq Bundle.tN "SUPPRESSED_SENTINEL" Bundle.listD (zA s.heap.size) s s.heap := vx_Zqof (hts (.laysStatic Bundle.tN "SUPPRESSED_SENTINEL" Bundle.listD) (List.mem_of_getElem? (i := 1270) (by decide +kernel))) (hts (.initialized Bundle.tN) (List.mem_of_getElem? (i := 125) (by decide +kernel))) (fl _ (by decide +kernel)) hA
      have z0 : zsl ([] : zH) = 0 := rfl
      refine zgo_ok (p := p) (l := l) (e := e) (R := room_1) (s := s) (m := m) (below := below) (meth := meth) (c := c) (d := 20) (cd0 := ycd) hx hb hml hts0 hown' (zTab_ok nf [x0, x1, x2, x3, x4, x5] 19) hG hN (fun h => by cases h) (Nat.le_refl _) ztlaw_ok zCal_ok zMath_ok (zMets nf [x0, x1, x2, x3, x4, x5] 20) (by decide) (by decide) _ _ _ r 0 0 s.heap [] LS (by show 0 + ((yHx ++ yHo).length - 0) ≤ 600002; rw [yH_len]; decide) (by show 0 + (zsl (yHx ++ yHo) - zsl []) ≤ 7302232; rw [yH_sl]; decide) hR0 va_S.rf hlv' (fun H' locs' LS' g1 g2 g3 => ?_)
      dsimp only at g1 g3 ⊢
      rw [show (yHx ++ yHo).length - ([] : zH).length = 176 by rw [yH_len]; rfl, show zsl (yHx ++ yHo) - zsl ([] : zH) = 5905 by rw [yH_sl]; rfl]
      have hrun := vx_runSW (p := p) (l := l) (e := e) (R := room_1) (s := s) (m := m) (args := #[Value.ref b]) (below := below) (meth := meth) (c := c) (H := H') (locs := locs') (cells := 0 + 176) (slots := 0 + 5905) (cc := code) (nL := 7) (Ts := lw_tbl) (own := "LaughLineLaw") (index := 39) (y := yLn) (bytes := method_3_code) (maxL := 5) (ret := some .int) (hh := yhh) (ws := yws2) (rm := yrm2) (mc := 1) (ms := 6) (n := 4) (As := ([.ref 0, .int x1, .int x2, .ref 175] : List Value).map (zcv s.heap.size xa)) (rest := []) (g := F0 m 378 LS' (([.ref 175, .int x2, .int x1, .ref 0] : List Value).map (zcv s.heap.size xa)))
        ⟨hx, hb, hml, hown, hts⟩ (yrid2 (p0 := x1) (p1 := x2) (nf := nf) (xs := [x0, x1, x2, x3, x4, x5]) hst)
        (vx_cwSW 4 hts ylw_in rfl rfl rfl ⟨by decide, by decide, by decide +kernel⟩ ⟨by decide, by decide⟩)
        ⟨yPx_blind, yPx_pre (as := [.ref 0, .int x1, .int x2, .ref 175]) g1 g2 hG hN hw hU hSu⟩ rfl rfl g3.1 rfl (show 2 * 0 + 0 ≤ 8 by decide) (ztlaw_ok 378 _ _ rfl).1 ⟨by decide, by decide⟩
      refine va_calli hrun g2 (fun _ _ h => h) (fun _ h => h) (fun r9 u t H1 locs1 ht hal hpo hbx k1 k2 k3 => ?_)
      obtain rfl := hpo
      obtain ⟨k, hk⟩ := hbx
      rw [ht] at hk
      refine W_size (fun hsz => ?_)
      have hk1 : k ≤ 1 := by
        have h1 := hk.1
        rw [List.length_append, yH_len, List.length_replicate] at h1
        omega
      obtain ⟨n2, h2, l2, r2⟩ := ybehind nf x0 x1 x2 x3 x4 x5 k hk1
      have hgr := zGo_g (ynew_len nf [x0, x1, x2, x3, x4, x5]) _ _ _ r2
      have hll : (yHx ++ yHo ++ List.replicate k zjunk).length = 176 + k := by rw [List.length_append, yH_len, List.length_replicate]
      have hz2 : zsl h2 ≤ zsl (yHx ++ yHo ++ List.replicate k zjunk) := by
        have h9 : zsl h2 + 1000000 * (yHx ++ yHo ++ List.replicate k zjunk).length ≤ zsl (yHx ++ yHo ++ List.replicate k zjunk) + 1000000 * h2.length := hgr.2
        rw [hll, l2] at h9
        omega
      refine zgo_ok (p := p) (l := l) (e := e) (R := room_1) (s := s) (m := m) (below := below) (meth := meth) (c := c) (d := 20) (cd0 := ycd) hx hb hml hts0 hown' (zTab_ok nf [x0, x1, x2, x3, x4, x5] 19) hG hN (fun h => by cases h) (Nat.le_refl _) ztlaw_ok zCal_ok zMath_ok (zMets nf [x0, x1, x2, x3, x4, x5] 20) (by decide) (by decide) _ _ _ r2 (0 + 176 + 1) (0 + 5905 + 6) H1 locs1 LS' (by show 0 + 176 + 1 + (h2.length - (yHx ++ yHo ++ List.replicate k zjunk).length) ≤ 600002; rw [l2, hll]; omega) (by show 0 + 5905 + 6 + (zsl h2 - zsl (yHx ++ yHo ++ List.replicate k zjunk)) ≤ 7302232; omega) hk k3 g3 (fun H2 locs2 LS2 f1 f2 f3 => ?_)
      dsimp only
      refine va_forget (fun q hq => f2.2.2 q hq) ?_
      refine W.widen (k := 600002) (n := 7302232) (by rw [l2, hll]; omega) (by omega) ?_
      exact lw_ret hx hb hr hlocks (ztlaw_ok 1528 _ _ rfl).1
set_option maxHeartbeats 4000000 in
theorem lw_walk (l : Launch) (hflags : l.flags = flags0) (b : Addr) (xs : List Int32) : MetFree l x (headSpec (Jvm.Cond.code x code maxLocals ret :: tables_1) room_1) (lw_P b xs) (fun _ _ _ _ _ => True) lw_Q := by
  refine MetFree.of_bodyS (code := code) (maxLocals := maxLocals) (ret := ret) (by decide) ?_ ?_
  · intro args s m h hn
    obtain ⟨meth, c, h1, h2, h3, h4, h5, h6, -, -⟩ := Cond.code_spec hn (atoms_spec (ws := Jvm.Cond.code x code maxLocals ret :: tables_1) h _ List.mem_cons_self)
    exact ⟨meth, c, h1, h2, h3, h4, h5, h6⟩
  · intro p e s m args below meth c s₁ B hml0 hP _
    obtain ⟨rfl, hx, hbd, hgv⟩ := hP
    obtain ⟨scr, harrAt, hlist, hof, hsmall⟩ := hx
    obtain ⟨hcb, hkn, -, -⟩ := State.arrayAt?_spec harrAt
    have hown : s.vm.findClass R_law = some m.cls := findClass_of_methodNamed B.named
    have hts0 : ∀ c ∈ (Jvm.Cond.code x code maxLocals ret :: tables_1), c.before #[Value.ref b] s = true := atoms_spec (ws := Jvm.Cond.code x code maxLocals ret :: tables_1) B.pre
    have hts : ∀ w ∈ lw_tbl, w.before #[Value.ref b] s = true := k2_hts_sels lw_privs (fun w hw => hts0 w (List.mem_cons_of_mem _ hw)) lw_privs_ok
    have hml : c.maxLocals = 7 := B.maxLocals_eq (hts0 _ List.mem_cons_self)
    have X₀ : Stand p l e room_1 s m #[Value.ref b] below meth c s₁ [] 0 0 := Stand.of_body B
    have hh0 : s₁.heap = s.heap := by rw [B.state]; rfl
    have hsz : scr.slots.size = xs.length := by rw [← Array.length_toList, hlist, List.length_map]
    have hval : ∀ j : Nat, j < xs.length → scr.slots[j]? = some (.int (xs.getD j 0)) := fun j hj => by
      rw [← Array.getElem?_toList, hlist]
      simp [hj]
    have hbl : b < s.heap.size := (Array.getElem?_eq_some_iff.mp hcb).1
    have hX : va_X b xs.length (fun j => xs.getD j 0) s s.heap := ⟨scr, hcb, hof, hkn, hsz, hval⟩
    have K : W p l e room_1 s m #[Value.ref b] below meth c s₁.heap [] 0 0 (lw_Z below #[Value.ref b] s) (entryFrame m ([Value.ref b] : List Value).toArray 7) := by
      rw [hh0]
      exact whole_start l hflags hbd ⟨B.exec, B.bytes, B.returns, hml, hown, hts, hX, hbl, B.notSynchronized, hgv⟩
    obtain ⟨t, a1, o, b1, b2, b3⟩ := K s₁ rfl X₀
    exact ⟨t, o, a1, b1, b2, b3⟩
theorem lw_pre_spec {args : Array Value} {s : State} (h : (Jvm.Cond.and given_1 narrow_1).before args s = true) (hr : rest_1_c.before args s = true) : ∃ (b : Addr) (xs : List Int32), lw_P b xs args s := by
  have hs := flat_of_before _ h
  have hq := flat_of_before _ hr
  have hc : (Cond.count 1).before args s = true := hs _ (by decide +kernel)
  have harr : (Cond.arrayOf (.arg 0) .int).before args s = true := hs _ (by decide +kernel)
  have hle : (Cond.le (.length (.arg 0)) (.int 6)).before args s = true := hs _ (by decide +kernel)
  have hlen : (Cond.isInt (.length (.arg 0))).before args s = true := hq _ (by decide +kernel)
  have hall : (Cond.all (.arg 0) (.isInt (.elem (.arg 0) (.index 0)))).before args s = true := hq _ (by decide +kernel)
  obtain ⟨b, xs, hb, hx⟩ := State.ints_of_pre rfl harr hlen hall
  have hsm : xs.length < 2 ^ 31 := hx.choose_spec.2.2.2
  have hev : (Term.length (.arg 0)).eval args s none [] s = some (.int xs.length.toInt32) := hx.length_eval hb
  have hv := Cond.le_ints hev (show (Term.int 6).eval args s none [] s = some (.int 6) from rfl)
  have hd : xs.length.toInt32 ≤ 6 := by
    simpa [Cond.before, Cond.holds, hv] using hle
  have hN : xs.length ≤ 6 := (Int32.ofNat_le_ofNat hsm (by decide)).mp (show Int32.ofNat xs.length ≤ Int32.ofNat 6 from hd)
  exact ⟨b, xs, Cond.one_arg hc (show args[0]? = some (.ref b) from hb), hx, hN, h⟩
theorem lw_comes (l : Launch) (hflags : l.flags = flags0) : Comes l x (Jvm.Cond.code x code maxLocals ret :: tables_1) room_1 (fun tb e args s => Calls_1 tb e args s ∧ rest_1 tb e args s ∧ Pre_1 tb e args s)
    (fun _ _ args s o t => lw_Q args s o t) := by
  intro p e ha hc hk s m args below hf hfit hheap happ hpre
  obtain ⟨b, xs, hP⟩ := lw_pre_spec hpre.2.2 hpre.2.1
  obtain ⟨k, o, h1, h2, h3, hQ⟩ := lw_walk l hflags b xs p e ha hc hk s m args below hf ((Spec.applies_iff_loose hf).mp happ).1 hP trivial
  exact ⟨k, o, h1, h2, h3, hQ⟩
theorem lw_frame {s t : State} {o : Outcome} {args : Array Value} (h : Framed s o t [] 600002 7302232) :
    Framed s o t (fieldLocs frame_1_writes args s ++ arrayLocs frame_1_arrays args s ++ staticLocs frame_1_statics s) 600002 7302232 := h
theorem lw_limb (L : Cond) (hL : ∀ (args : Array Value) (s t : State), L.after args s (.returned (some (.int 1))) t = true) :
    ArmFor flags0 classFile x code maxLocals ret World_1 tables_1 room_1 Calls_1 rest_1 Pre_1
      (fun tb e a s o t => postC L tb e a s o t ∧ Framed s o t (fieldLocs frame_1_writes a s ++ arrayLocs frame_1_arrays a s ++ staticLocs frame_1_statics s) 600002 7302232) := by
  intro l hflags _ _ p e ha hc hk s m args below hf hfit hheap happ hpre
  obtain ⟨k, o, h1, h2, h3, rfl, hF⟩ := lw_comes l hflags p e ha hc hk s m args below hf hfit hheap happ hpre
  exact ⟨k, _, h1, h2, h3, hL args s _, lw_frame hF⟩
theorem i_vc : Claimed_1_1 ∧ Claimed_1_2 := ⟨lw_limb limb_1_1 (fun args s t => by simp [limb_1_1, Cond.after, Cond.holds, Cond.value]), lw_limb limb_1_2 (fun args s t => Cond.after_iff.mpr (by
  first | (rw [show limb_1_2 = Cond.eq .result (.int 1) from rfl, Cond.eq_ints (x := 1) (y := 1) rfl rfl]; simp; done) | (simp [limb_1_2, Cond.value, Term.eval]; done)))⟩
