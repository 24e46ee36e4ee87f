/-! LaughLineLaw.rider: it answers 1, with nothing known of what came behind the cells. -/
def yRn : MethodName := ⟨"LaughLine", "rider", "(II)I"⟩
def yLn : MethodName := ⟨"LaughLineLaw", "rider", "(LLaughLine;II[J)I"⟩
def yhh : List (Nat × Nat × Nat × Nat) := [(0, 10, 13, 13), (0, 10, 17, 15)]
def yW2 : List Cond := [.methodLink "LaughLineLaw" 7 yRn, .instanceMethod yRn, .selects "LaughLine" yRn yRn, .initialized "LaughLine", .classLink "LaughLineLaw" 13 yEx, .initialized "LaughLineLaw"]
def yws2 : List Cond := Cond.codeWith yLn method_3_code 5 (some .int) yhh :: (yW2 ++ zTs)
theorem yW2_in : ∀ w ∈ yW2, w ∈ lw_tbl := zin_r [1237, 1238, 1239, 108, 1235, 107] (by decide +kernel)
theorem yW2_good : yW2.all goodWord = true := by decide +kernel
def yrm2 : Room := { frames := 31, cells := 1, slots := 6, locals := 3500 }
theorem yown19 : zown 19 = "LaughLineLaw" := rfl
theorem yRn_eq : (zY 106).1 = yRn := rfl
set_option maxHeartbeats 4000000 in
theorem yrid2 {l : Launch} (hl : l.stackTraces = false) {B : Nat} {xa : Nat → Nat} {ca : Nat → ClassId} {D : va_G} {nf : Bool} {xs : List Int32} {p0 p1 : Int32} :
    Met l yLn yws2 yrm2 (yPx B xa ca D (zXt nf xs) [.ref 0, .int p0, .int p1, .ref 175] (yHx ++ yHo)) (va_Qi (fun r (_ : Unit) => r = 1) (fun _ t => ∃ k : Nat, zHR B xa ca D zcls (yHx ++ yHo ++ List.replicate k zjunk) t.heap) (zA B)) 1 6 (zA B) := by
  refine va_MetW (cc := method_3_code) (maxL := 5) (ret := some .int) (hh := yhh) (by decide) rfl ?_
  intro p e s m args below meth c s₁ Bd hml hv
  obtain ⟨⟨rfl, hR, hG, hN⟩, hw, hU, hSu⟩ := hv
  have hx := Bd.exec
  have hb := Bd.bytes
  have hr := Bd.returns
  have hts := atoms_spec (ws := yws2) Bd.pre
  have hts0 : ∀ w ∈ Cond.codeWith yLn method_3_code 5 (some .int) yhh :: zTs, w.before (([.ref 0, .int p0, .int p1, .ref 175] : List Value).map (zcv B xa)).toArray s = true := fun w h => by
    rcases List.mem_cons.mp h with rfl | h
    · exact hts _ List.mem_cons_self
    · exact hts _ (List.mem_cons_of_mem _ (List.mem_append_right _ h))
  have hown : s.vm.findClass (zown 19) = some m.cls := findClass_of_methodNamed Bd.named
  have hlocks := Bd.notSynchronized
  have hB : B ≤ s.heap.size := by rw [hR.1]; omega
  have htb := vx_table (x := yLn) Bd (hts _ List.mem_cons_self)
  have hlv := lv_entry (([.ref 0, .int p0, .int p1, .ref 175] : List Value).map (zcv B xa)) (n := 5) (show (4 : Nat) ≤ 5 by decide)
  rw [lg_entry_eq]
  generalize (lg_sl (([.ref 0, .int p0, .int p1, .ref 175] : List Value).map (zcv B xa)) ++ List.replicate (5 - (lg_sl (([.ref 0, .int p0, .int p1, .ref 175] : List Value).map (zcv B xa))).length) Slot.unset).toArray = LS at hlv ⊢
  rw [zargs_cl] at hlv
  have s1 : zGo (zXt nf xs) zIT zmcl (zEv (zXt nf xs) zIT zmcl zMt 20) 19 false 5 ztrid 1 (0, lv_args 0 [.ref 0, .int p0, .int p1, .ref 175], [], yHx ++ yHo) (1, lv_args 0 [.ref 0, .int p0, .int p1, .ref 175], [.ref 175], yHx ++ yHo) := zGo_one (i := .aload_n 3) (len := 1) rfl (ystepL rfl)
  have s2 : zGo (zXt nf xs) zIT zmcl (zEv (zXt nf xs) zIT zmcl zMt 20) 19 false 5 ztrid 1 (1, lv_args 0 [.ref 0, .int p0, .int p1, .ref 175], [.ref 175], yHx ++ yHo) (2, lv_args 0 [.ref 0, .int p0, .int p1, .ref 175], [.int 0, .ref 175], yHx ++ yHo) := zGo_one (i := .iconst 0) (len := 1) rfl (ystepL rfl)
  have s3 : zGo (zXt nf xs) zIT zmcl (zEv (zXt nf xs) zIT zmcl zMt 20) 19 false 5 ztrid 1 (2, lv_args 0 [.ref 0, .int p0, .int p1, .ref 175], [.int 0, .ref 175], yHx ++ yHo) (3, lv_args 0 [.ref 0, .int p0, .int p1, .ref 175], [.ref 0, .int 0, .ref 175], yHx ++ yHo) := zGo_one (i := .aload_n 0) (len := 1) rfl (ystepL rfl)
  have s4 : zGo (zXt nf xs) zIT zmcl (zEv (zXt nf xs) zIT zmcl zMt 20) 19 false 5 ztrid 1 (3, lv_args 0 [.ref 0, .int p0, .int p1, .ref 175], [.ref 0, .int 0, .ref 175], yHx ++ yHo) (4, lv_args 0 [.ref 0, .int p0, .int p1, .ref 175], [.int p0, .ref 0, .int 0, .ref 175], yHx ++ yHo) := zGo_one (i := .iload_n 1) (len := 1) rfl (ystepL rfl)
  have s5 : zGo (zXt nf xs) zIT zmcl (zEv (zXt nf xs) zIT zmcl zMt 20) 19 false 5 ztrid 1 (4, lv_args 0 [.ref 0, .int p0, .int p1, .ref 175], [.int p0, .ref 0, .int 0, .ref 175], yHx ++ yHo) (5, lv_args 0 [.ref 0, .int p0, .int p1, .ref 175], [.int p1, .int p0, .ref 0, .int 0, .ref 175], yHx ++ yHo) := zGo_one (i := .iload_n 2) (len := 1) rfl (ystepL rfl)
  have s6 := zGo_trans _ _ _ _ _ s1 (zGo_trans _ _ _ _ _ s2 (zGo_trans _ _ _ _ _ s3 (zGo_trans _ _ _ _ _ s4 s5)))
  refine zgo_ok (p := p) (l := l) (e := e) (R := (headSpec yws2 yrm2).room) (s := s) (m := m) (below := below) (meth := meth) (c := c) (d := 20) hx hb hml hts0 hown (zTab_ok nf xs 19) hG hN (fun h => by cases h) hB ztrid_ok zCal_ok zMath_ok (zMets nf xs 20) (by decide) (by decide) _ _ _ s6 0 0 s.heap [] LS (by show 0 + (_ - _) ≤ 1; rw [Nat.sub_self]; decide) (by show 0 + (_ - _) ≤ 6; rw [Nat.sub_self]; decide) hR va_S.rf hlv (fun H' locs' LS' g1 g2 g3 => ?_)
  dsimp only at g1 g3 ⊢
  rw [Nat.sub_self, Nat.sub_self]
  have hp106 := zMt_ok yR106
  obtain ⟨r', hr1, cell, hc1, hc2, hc3, -⟩ := g1.2 0 (10, zobj (match yHx with | (_, .inr (.inr (.inr fs))) :: _ => fs | _ => [])) rfl (by decide)
  have hcls := (hG.1.1 10 _ hr1).2.1
  have hnm : r'.1 = "LaughLine" := (zCal_ok.2.2.1 _ _ hr1).trans rfl
  have hrun := vx_runV (p := p) (l := l) (e := e) (R := (headSpec yws2 yrm2).room) (s := s) (m := m) (below := below) (meth := meth) (c := c) (H := H') (locs := locs') (cells := 0 + 0) (slots := 0 + 0) (cc := method_3_code) (nL := 5) (Ts := yws2) (own := zown 19) (C := "LaughLine") (index := 7) (y := yRn) (bytes := (zY 106).2) (maxL := 4) (ret := some .int) (ws := zws zTs zY 106 4 (some .int)) (rm := yrm1) (mc := 1) (ms := 6) (n := 2) (b := B + 0) (As := [.int p0, .int p1]) (rest := [.int 0, .ref (B + 175)]) (g := F0 m 5 LS' [.int p1, .int p0, .ref (B + 0), .int 0, .ref (B + 175)])
    ⟨hx, hb, hml, hown, hts⟩ (yrid1 (p0 := p0) (p1 := p1) (nf := nf) (xs := xs) hl)
    (cwV 2 hts (fun w h => by
      rcases List.mem_append.mp h with h | h
      · refine ⟨List.mem_cons_of_mem _ (List.mem_append_left _ ?_), good_of_word (List.all_eq_true.mp yW2_good w ?_)⟩
        all_goals (simp only [List.mem_cons, List.not_mem_nil, or_false] at h; rcases h with rfl | rfl | rfl | rfl <;> simp [yW2, yRn, yown19])
      · refine ⟨List.mem_cons_of_mem _ (List.mem_append_right _ ?_), zCal_ok.2.1 w ?_⟩
        all_goals (rcases List.mem_cons.mp h with rfl | h; exact hp106.1; exact h)) rfl rfl rfl ⟨rfl, by decide, by decide, by decide +kernel⟩ ⟨by decide, by decide⟩)
    ⟨yPx_blind, ⟨cell, hc1, by rw [hc3]; rfl, by rw [← hnm, hc2]; exact hcls⟩, yPx_pre (as := [.ref 0, .int p0, .int p1]) g1 g2 hG hN hw hU hSu⟩ rfl rfl (g3.1) rfl (show 2 * 0 + (1 + (1 + 0)) ≤ 8 by decide) (ztrid_ok 5 _ _ rfl).1 ⟨by decide, by decide⟩
  refine vx_calli hrun g2 (fun _ _ h => h) (fun _ h => h) (fun _ _ h => h) (fun E ce q9 u t H1 locs1 ht hal _ hbx k1 k2 k3 k4 k5 k6 => ?_) (fun r u t H1 locs1 ht hal hpo => hpo.elim)
  obtain ⟨rfl, k, hk⟩ := hbx
  rw [ht] at hk
  refine vx_catch (own := zown 19) (name := yEx) hown [] ⟨0, 10, 13, 13⟩ [⟨0, 10, 17, 15⟩] htb (fun z h => by cases h) rfl (by decide) (hts _ (List.mem_cons_of_mem _ (List.mem_append_left _ (by simp [yW2, yown19])))) (va_tabs rfl rfl (hw (.castable yEx yEx) (by unfold yLW vx_atS; simp [Bundle.ownAtoms, vx_no]))) k4 k5 k6 ?_
  refine lv_astore hx hb (ztrid_ok 13 _ _ rfl).1 g3 (by decide) rfl (fun ls' h9 => ?_)
  refine lv_iconst hx hb (ztrid_ok 15 _ _ rfl).1 (v := 1) (by decide) ?_
  exact W.iret hx hb hr (fun t' ht' hW' => ⟨⟨1, (), rfl, rfl, k, by rw [ht']; exact hk⟩, k3.F ht'⟩) k3.2.2 (ztrid_ok 16 _ _ rfl).1 hlocks
