/-! LaughLineLaw.rider: it answers an int; what holds between passes holds behind it, with junk behind the cells. -/
def yRn : MethodName := ⟨"LaughLine", "rider", "(II)I"⟩
def yLn : MethodName := ⟨"LaughLineLaw", "rider", "(LLaughLine;II[J)I"⟩
def yhh : List (Nat × Nat × Nat × Nat) := [(0, 10, 13, 13), (0, 10, 17, 15)]
def yW2 : List Cond := [.methodLink "LaughLineLaw" 7 yRn, .instanceMethod yRn, .selects "LaughLine" yRn yRn, .initialized "LaughLine", .classLink "LaughLineLaw" 13 yEx, .classLink "LaughLineLaw" 15 yE2, .initialized "LaughLineLaw"]
def yws2 : List Cond := Cond.codeWith yLn method_3_code 5 (some .int) yhh :: (yW2 ++ zTs)
theorem yW2_good : yW2.all goodWord = true := by decide +kernel
def yrm2 : Room := { frames := 1011, cells := 1, slots := 6, locals := 65500 }
theorem yown19 : zown 19 = "LaughLineLaw" := rfl
theorem yRn_eq : (zY 106).1 = yRn := rfl
/-- behind the class's answer: it is written to the law's own row -/
def rid2n (pc : Nat) (S : aS) : Bool := (Nat.beq pc 22 && rid1i S.2.2.1) && (akill qW S.1 (fun _ => false) S.2.2.2).isSome
def rid2S : aS := ([(0, 0, 0), (0, -2147483648, 2147483647), (2, 96, 96)], [], [.inl (1, 0), .inl (0, 0), .inr (.inr (.inl 2))], [])
def rid2ck : Bool := match arun (qY, zIT, zmcl, qW, qPt, [(96, 0, 0, 0, 0)]) (fun _ _ _ _ => none) rid2n 19 5 (some .int) ztrid 30 true 8 rid2S with
  | some [] => true
  | _ => false
theorem rid2ck_ok : rid2ck = true := by decide +kernel
theorem qun96 {a : Nat} (ha : a < qW.1.length) (hs : (asrt qW a : Int) = ((96 : Nat) : Int)) : a = 175 := qun (by decide +kernel) ha hs
theorem rid2go {nf : Bool} {xs : List Int32} {h : zH} {cl : zL} (hI : lInq h) (z : Int32) : ∃ (n : Nat) (cl' : zL) (w : Int32) (h' : zH), zGo (zXt nf xs) zIT zmcl (zEv (zXt nf xs) zIT zmcl zMt 1000) 19 false 5 ztrid n (8, cl, [.int z, .int 0, .ref 175], h) (22, cl', [.int w], h') ∧ lInq h' ∧ h'.length = h.length := by
  obtain ⟨⟨hH, x, x1, x2⟩, hXL⟩ := hI
  have hE : aE qW rid2S.1 [0, z.toInt, 175] := (aE0.push (t := (0, -2147483648, 2147483647)) (z := z.toInt) (ab z)).push (t := (2, 96, 96)) (z := 175) (asR (so := 96) (c := 175) (by decide +kernel) (by decide +kernel))
  have hck := rid2ck_ok
  unfold rid2ck at hck
  split at hck
  · next ho =>
    have hst : aSt [0, z.toInt, 175] rid2S.2.2.1 [.int z, .int 0, .ref 175] := ⟨_, _, rfl, ⟨z, ⟨z.toInt, rfl, by rw [Int.add_zero, Int32.ofInt_toInt]⟩, rfl⟩, _, _, rfl, ⟨0, ⟨0, rfl, rfl⟩, rfl⟩, _, _, rfl, ⟨175, rfl, rfl⟩, rfl⟩
    have hlo0 : aLo [0, z.toInt, 175] rid2S.2.1 cl := fun p hp => (List.not_mem_nil hp).elim
    obtain ⟨k, pc', S', ρ', cl', cst', h', e1, e2, -, e3, e4⟩ := arun_go (C := zEv (zXt nf xs) zIT zmcl zMt 1000) (ini := false) (h0 := h) (Q := fun _ => True) (qXX nf xs) qGok qL (fun _ _ a _ => a) (fun _ _ _ _ _ _ _ _ q => by cases q) 30 true 8 rid2S [0, z.toInt, 175] cl [.int z, .int 0, .ref 175] h ho trivial ⟨hE, hlo0, hst, aH_nil hH, aF.rf⟩
    unfold rid2n at e2
    rw [Bool.and_eq_true, Bool.and_eq_true] at e2
    obtain ⟨⟨q1, q2⟩, q3⟩ := e2
    obtain ⟨m', hm'⟩ := Option.isSome_iff_exists.mp q3
    obtain ⟨hK1, hK2⟩ := akill_ok e4.1 hm' e4.2.2.2.1
    have e0 : m' = [] := by
      cases m' with
      | nil => rfl
      | cons a r => cases (hK2 a List.mem_cons_self).2
    subst e0
    have hF := e4.2.2.2.2
    have hpc := Nat.eq_of_beq_eq_true q1
    subst hpc
    have hstk := e4.2.2.1
    have hw : ∃ w : Int32, cst' = [.int w] := by
      unfold rid1i at q2
      split at q2
      · next v hv =>
        rw [hv] at hstk
        obtain ⟨b, bs, rfl, ⟨w, -, rfl⟩, hbs⟩ := hstk
        exact ⟨w, by rw [show bs = [] from hbs]⟩
      · cases q2
    obtain ⟨w, rfl⟩ := hw
    have nd : ∀ a k : Nat, ¬ asrt qW a = 96 → ∀ d ∈ ([(96, 0, 0, 0, 0)] : List aD), ¬ amd qW ρ' d a k := fun a k ha d hd hm => by
      rcases List.mem_cons.mp hd with rfl | hd
      · exact ha hm.1
      · cases hd
    refine ⟨k, cl', w, h', e1, ⟨⟨aH_nil hK1, x, ?_, ?_⟩, lQ_keep hXL (zGo_KT _ _ _ e1 hXL.1.1) (KP_of hF) (by decide +kernel)⟩, hF.1⟩
    · have := hF.2 0 1 (by decide +kernel) (by decide +kernel) (nd 0 1 (by decide +kernel))
      rw [qrdx (qG_off (by decide) (by decide)), qrdx (qG_off (by decide) (by decide)), x1] at this
      exact this
    · have := hF.2 128 2 (by decide +kernel) (by decide +kernel) (nd 128 2 (by decide +kernel))
      rw [qrdx (qG_real (by decide +kernel) (by decide +kernel)), qrdx (qG_real (by decide +kernel) (by decide +kernel)), x2] at this
      exact this
  · cases hck
set_option maxHeartbeats 4000000 in
theorem yrid2 {l : Launch} (hl : l.stackTraces = false) {B : Nat} {xa : Nat → Nat} {ca : Nat → ClassId} {D : va_G} {nf : Bool} {xs : List Int32} {p0 p1 : Int32} {h0 : zH} (hI : lInq h0) :
    Met l yLn yws2 yrm2 (yPx B xa ca D (zXt nf xs) [.ref 0, .int p0, .int p1, .ref 175] h0) (va_Qi (fun _ (_ : Unit) => True) (fun _ t => yPost B xa ca D t) (zA B)) 1 6 (zA B) := by
  refine va_MetW (cc := method_3_code) (maxL := 5) (ret := some .int) (hh := yhh) (by decide) rfl ?_
  intro p e s m args below meth c s₁ Bd hml hv
  obtain ⟨⟨rfl, hR, hG, hN⟩, hw, hNc, hU, hSu⟩ := hv
  have hx := Bd.exec
  have hb := Bd.bytes
  have hr := Bd.returns
  have hts := atoms_spec (ws := yws2) Bd.pre
  have hts0 : ∀ w ∈ Cond.codeWith yLn method_3_code 5 (some .int) yhh :: zTs, w.before (([.ref 0, .int p0, .int p1, .ref 175] : List Value).map (zcv B xa)).toArray s = true := fun w h => by
    rcases List.mem_cons.mp h with rfl | h
    · exact hts _ List.mem_cons_self
    · exact hts _ (List.mem_cons_of_mem _ (List.mem_append_right _ h))
  have hown : s.vm.findClass (zown 19) = some m.cls := findClass_of_methodNamed Bd.named
  have hlocks := Bd.notSynchronized
  have hB : B ≤ s.heap.size := by rw [hR.1]; omega
  have htb := vx_table (x := yLn) Bd (hts _ List.mem_cons_self)
  have hlv := lv_entry (([.ref 0, .int p0, .int p1, .ref 175] : List Value).map (zcv B xa)) (n := 5) (show (4 : Nat) ≤ 5 by decide)
  rw [lg_entry_eq]
  generalize (lg_sl (([.ref 0, .int p0, .int p1, .ref 175] : List Value).map (zcv B xa)) ++ List.replicate (5 - (lg_sl (([.ref 0, .int p0, .int p1, .ref 175] : List Value).map (zcv B xa))).length) Slot.unset).toArray = LS at hlv ⊢
  rw [zargs_cl] at hlv
  have s1 : zGo (zXt nf xs) zIT zmcl (zEv (zXt nf xs) zIT zmcl zMt 1000) 19 false 5 ztrid 1 (0, lv_args 0 [.ref 0, .int p0, .int p1, .ref 175], [], h0) (1, lv_args 0 [.ref 0, .int p0, .int p1, .ref 175], [.ref 175], h0) := ⟨.aload_n 3, 1, rfl, Or.inl ⟨_, lsL rfl, rfl⟩⟩
  have s2 : zGo (zXt nf xs) zIT zmcl (zEv (zXt nf xs) zIT zmcl zMt 1000) 19 false 5 ztrid 1 (1, lv_args 0 [.ref 0, .int p0, .int p1, .ref 175], [.ref 175], h0) (2, lv_args 0 [.ref 0, .int p0, .int p1, .ref 175], [.int 0, .ref 175], h0) := ⟨.iconst 0, 1, rfl, Or.inl ⟨_, lsL rfl, rfl⟩⟩
  have s3 : zGo (zXt nf xs) zIT zmcl (zEv (zXt nf xs) zIT zmcl zMt 1000) 19 false 5 ztrid 1 (2, lv_args 0 [.ref 0, .int p0, .int p1, .ref 175], [.int 0, .ref 175], h0) (3, lv_args 0 [.ref 0, .int p0, .int p1, .ref 175], [.ref 0, .int 0, .ref 175], h0) := ⟨.aload_n 0, 1, rfl, Or.inl ⟨_, lsL rfl, rfl⟩⟩
  have s4 : zGo (zXt nf xs) zIT zmcl (zEv (zXt nf xs) zIT zmcl zMt 1000) 19 false 5 ztrid 1 (3, lv_args 0 [.ref 0, .int p0, .int p1, .ref 175], [.ref 0, .int 0, .ref 175], h0) (4, lv_args 0 [.ref 0, .int p0, .int p1, .ref 175], [.int p0, .ref 0, .int 0, .ref 175], h0) := ⟨.iload_n 1, 1, rfl, Or.inl ⟨_, lsL rfl, rfl⟩⟩
  have s5 : zGo (zXt nf xs) zIT zmcl (zEv (zXt nf xs) zIT zmcl zMt 1000) 19 false 5 ztrid 1 (4, lv_args 0 [.ref 0, .int p0, .int p1, .ref 175], [.int p0, .ref 0, .int 0, .ref 175], h0) (5, lv_args 0 [.ref 0, .int p0, .int p1, .ref 175], [.int p1, .int p0, .ref 0, .int 0, .ref 175], h0) := ⟨.iload_n 2, 1, rfl, Or.inl ⟨_, lsL rfl, rfl⟩⟩
  have s6 := zGo_trans _ _ _ _ _ s1 (zGo_trans _ _ _ _ _ s2 (zGo_trans _ _ _ _ _ s3 (zGo_trans _ _ _ _ _ s4 s5)))
  refine zgo_ok (p := p) (l := l) (e := e) (R := (headSpec yws2 yrm2).room) (s := s) (m := m) (below := below) (meth := meth) (c := c) (d := 1000) hx hb hml hts0 hown (zTab_ok nf xs 19) hG hN (fun h => by cases h) hB ztrid_ok zCal_ok zMath_ok (zMets nf xs 1000) (by decide) (by decide) _ _ _ s6 0 0 s.heap [] LS (by show 0 + (_ - _) ≤ 1; rw [Nat.sub_self]; decide) (by show 0 + (_ - _) ≤ 6; rw [Nat.sub_self]; decide) hR va_S.rf hlv (fun H' locs' LS' g1 g2 g3 => ?_)
  dsimp only at g1 g3 ⊢
  rw [Nat.sub_self, Nat.sub_self]
  have hp106 := zMt_ok yR106
  obtain ⟨fs0, hfs0⟩ := lh0 hI.1.1.1
  obtain ⟨r', hr1, cell, hc1, hc2, hc3, -⟩ := g1.2 0 (10, .inr (.inr (.inr fs0))) hfs0 (show 10 < 1000 by decide)
  have hcls := (hG.1.1 10 _ hr1).2.1
  have hnm : r'.1 = "LaughLine" := (zCal_ok.2.2.1 _ _ hr1).trans rfl
  have hrun := vx_runV (p := p) (l := l) (e := e) (R := (headSpec yws2 yrm2).room) (s := s) (m := m) (below := below) (meth := meth) (c := c) (H := H') (locs := locs') (cells := 0 + 0) (slots := 0 + 0) (cc := method_3_code) (nL := 5) (Ts := yws2) (own := zown 19) (C := "LaughLine") (index := 7) (y := yRn) (bytes := (zY 106).2) (maxL := 4) (ret := some .int) (ws := zws zTs zY 106 4 (some .int)) (rm := yrm1) (mc := 1) (ms := 6) (n := 2) (b := B + 0) (As := [.int p0, .int p1]) (rest := [.int 0, .ref (B + 175)]) (g := F0 m 5 LS' [.int p1, .int p0, .ref (B + 0), .int 0, .ref (B + 175)])
    ⟨hx, hb, hml, hown, hts⟩ (yrid1 (p0 := p0) (p1 := p1) (nf := nf) (xs := xs) hl hI)
    (cwV 2 hts (fun w h => by
      rcases List.mem_append.mp h with h | h
      · refine ⟨List.mem_cons_of_mem _ (List.mem_append_left _ ?_), good_of_word (List.all_eq_true.mp yW2_good w ?_)⟩
        all_goals (simp only [List.mem_cons, List.not_mem_nil, or_false] at h; rcases h with rfl | rfl | rfl | rfl <;> simp [yW2, yRn, yown19])
      · refine ⟨List.mem_cons_of_mem _ (List.mem_append_right _ ?_), zCal_ok.2.1 w ?_⟩
        all_goals (rcases List.mem_cons.mp h with rfl | h; exact hp106.1; exact h)) rfl rfl rfl ⟨rfl, by decide, by decide, by decide +kernel⟩ ⟨by decide, by decide⟩)
    ⟨yPx_blind, ⟨cell, hc1, by rw [hc3]; rfl, by rw [← hnm, hc2]; exact hcls⟩, yPx_pre (as := [.ref 0, .int p0, .int p1]) g1 g2 hG hN hw hNc hU hSu⟩ rfl rfl (g3.1) rfl (show 2 * 0 + (1 + (1 + 0)) ≤ 8 by decide) (ztrid_ok 5 _ _ rfl).1 ⟨by decide, by decide⟩
  refine vx_calli hrun g2 (fun _ _ h => h) (fun _ h => h) (fun _ _ h => h) (fun E ce q9 u t H1 locs1 ht hal _ hbx k1 k2 k3 k4 k5 k6 => ?_) (fun r u t H1 locs1 ht hal hpo hbx k1 k2 k3 => ?_)
  · obtain ⟨hE12, h', hI', hk⟩ := hbx
    rw [ht] at hk
    rcases hE12 with rfl | rfl
    · refine vx_catch (own := zown 19) (name := yEx) hown [] ⟨0, 10, 13, 13⟩ [⟨0, 10, 17, 15⟩] htb (fun z h => by cases h) rfl (by decide) (hts _ (List.mem_cons_of_mem _ (List.mem_append_left _ (by simp [yW2, yown19])))) (va_tabs rfl rfl (hw (.castable yEx yEx) (List.mem_append_left _ (by unfold yLW1 vx_atS; simp [Bundle.ownAtoms, vx_no])))) k4 k5 k6 ?_
      refine lv_astore hx hb (ztrid_ok 13 _ _ rfl).1 g3 (by decide) rfl (fun ls' h9 => ?_)
      refine lv_iconst hx hb (ztrid_ok 15 _ _ rfl).1 (v := 1) (by decide) ?_
      exact W.iret hx hb hr (fun t' ht' hW' => ⟨⟨1, (), rfl, trivial, h', hI', by rw [ht']; exact hk⟩, k3.F ht'⟩) k3.2.2 (ztrid_ok 16 _ _ rfl).1 hlocks
    · refine vx_catch (own := zown 19) (name := yE2) hown [⟨0, 10, 13, 13⟩] ⟨0, 10, 17, 15⟩ [] htb (fun z h => Or.inr ?_) rfl (by decide) (hts _ (List.mem_cons_of_mem _ (List.mem_append_left _ (by simp [yW2, yown19])))) (va_tabs rfl rfl (hw (.castable yE2 yE2) (List.mem_append_right _ (by unfold yLW2 tx_at; simp [Bundle.ownAtomsX, vx_no])))) k4 k5 k6 ?_
      · rcases List.mem_cons.mp h with rfl | h
        · exact ⟨by decide, yEx, hts _ (List.mem_cons_of_mem _ (List.mem_append_left _ (by simp [yW2, yown19]))), hNc⟩
        · cases h
      · refine lv_astore hx hb (ztrid_ok 17 _ _ rfl).1 g3 (by decide) rfl (fun ls' h9 => ?_)
        refine lv_iconst hx hb (ztrid_ok 19 _ _ rfl).1 (v := 2) (by decide) ?_
        exact W.iret hx hb hr (fun t' ht' hW' => ⟨⟨2, (), rfl, trivial, h', hI', by rw [ht']; exact hk⟩, k3.F ht'⟩) k3.2.2 (ztrid_ok 20 _ _ rfl).1 hlocks
  · obtain ⟨h', hI', hk⟩ := hbx
    rw [ht] at hk
    obtain ⟨n2, cl2, w2, h2, r2, hI2, hlen2⟩ := rid2go (nf := nf) (xs := xs) (cl := lv_args 0 [.ref 0, .int p0, .int p1, .ref 175]) hI' r
    have hgr := zGo_g (ynew_len nf xs) _ _ _ r2
    have hz2 : zsl h2 ≤ zsl h' := by
      have h9 : zsl h2 + 1000000 * h'.length ≤ zsl h' + 1000000 * h2.length := hgr.2
      rw [hlen2] at h9
      omega
    refine zgo_ok (p := p) (l := l) (e := e) (R := (headSpec yws2 yrm2).room) (s := s) (m := m) (below := below) (meth := meth) (c := c) (d := 1000) hx hb hml hts0 hown (zTab_ok nf xs 19) hG hN (fun h => by cases h) hB ztrid_ok zCal_ok zMath_ok (zMets nf xs 1000) (by decide) (by decide) _ _ _ r2 (0 + 0 + 1) (0 + 0 + 6) H1 locs1 LS' (by show 0 + 0 + 1 + (h2.length - h'.length) ≤ 1; rw [hlen2]; omega) (by show 0 + 0 + 6 + (zsl h2 - zsl h') ≤ 6; omega) hk k3 g3 (fun H2 locs2 LS2 f1 f2 f3 => ?_)
    dsimp only at f1 f3 ⊢
    rw [show h2.length - h'.length = 0 by omega, show zsl h2 - zsl h' = 0 by omega]
    exact W.iret hx hb hr (fun t' ht' hW' => ⟨⟨w2, (), rfl, trivial, h2, hI2, by rw [ht']; exact f1⟩, f2.F ht'⟩) f2.2.2 (ztrid_ok 22 _ _ rfl).1 hlocks
