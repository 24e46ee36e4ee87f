/-! rider on fresh objects: the class throws, the law's own method catches it. -/
def yEx : String := "java/lang/IndexOutOfBoundsException"
def yNm : List String := ["java/lang/RuntimeException", "java/lang/Exception"]
def yLW : List Cond := Cond.classLink "LaughLine" 136 yEx :: Cond.initialized yEx :: vx_atS "LaughLine" 140 yEx yNm
def yokw (w : Cond) : Bool := w.onTables && (goodWord w || (match w with
  | .castable _ _ => true
  | .declares _ => true
  | _ => false))
theorem yLW_ok : yLW.all yokw = true := by decide +kernel
set_option maxRecDepth 1000000 in
theorem yLW_in : ∀ w ∈ yLW, w ∈ lw_tbl := zin_r [1241, 128, 125, 1263, 1272, 1275, 1278, 1280, 1264, 1265, 138, 139, 1266, 1271, 1276, 1296, 1253, 1297, 1255, 1298, 1257, 1267, 1269, 1259, 1292, 1293, 1295, 1259, 1283, 1284, 1285, 1286, 1245, 1286, 1287, 1288, 1289, 1247, 1289, 1290, 1291, 1292, 1249, 1282, 1242, 1243, 1250, 1251, 1252, 1254, 1256, 1258, 1262, 1261, 1260] (by decide +kernel)
theorem yokw_t {w : Cond} (h : w ∈ yLW) : w.onTables = true := by
  have h1 := List.all_eq_true.mp yLW_ok w h
  unfold yokw at h1
  rw [Bool.and_eq_true] at h1
  exact h1.1
theorem yNw_warm {w : Cond} {s U : State} (hw : w ∈ yLW) (hW : s.WarmedH U.vm) (h : va_Nw w s) : va_Nw w U := by
  have hk := List.all_eq_true.mp yLW_ok w hw
  unfold yokw at hk
  rw [Bool.and_eq_true, Bool.or_eq_true] at hk
  obtain ⟨h1, h2 | h2⟩ := hk
  · exact word_at hW (good_of_word h2) h
  · cases w with
    | castable C T => exact va_Nw.warmC hW h
    | declares x => exact va_Nw.warmD hW h
    | _ => cases h2
/-- what a throwing method wants of its start -/
def yPx (B : Nat) (xa : Nat → Nat) (ca : Nat → ClassId) (D : va_G) (X : zX) (as : List Value) (h : zH) : Array Value → State → Prop := fun a U =>
  zPc zTs B xa ca D zcls "LaughLine$Passenger" X zown zIT zY as h a U ∧ (∀ w ∈ yLW, va_Nw w U) ∧ vx_Zq Bundle.tN "UNASSIGNED_STACK" Bundle.steD (zA B) U U.heap ∧ vx_Zq Bundle.tN "SUPPRESSED_SENTINEL" Bundle.listD (zA B) U U.heap
theorem yPx_blind {B : Nat} {xa : Nat → Nat} {ca : Nat → ClassId} {D : va_G} {X : zX} {as : List Value} {h : zH} : FrameBlind (yPx B xa ca D X as h) := by
  intro a U g mk q
  obtain ⟨q1, q2, q3, q4⟩ := q
  have hW : U.WarmedH (U.calling g mk a).vm := State.WarmedH.refl U
  exact ⟨zPc_blind _ _ _ _ q1, fun w hw => yNw_warm hw hW (q2 w hw), vx_Zq.moved hW.alike q3, vx_Zq.moved hW.alike q4⟩
theorem yPx_pre {B : Nat} {xa : Nat → Nat} {ca : Nat → ClassId} {D : va_G} {X : zX} {as : List Value} {h : zH} {s : State} {H : Heap} {locs : List Loc} (hR : zHR B xa ca D zcls h H) (hS : va_S (zA B) s.heap H locs) (hG : zGS zTs B xa ca D zcls "LaughLine$Passenger" X zown s) (hN : zGN zIT zY zown s) (hw : ∀ w ∈ yLW, va_Nw w s) (hU : vx_Zq Bundle.tN "UNASSIGNED_STACK" Bundle.steD (zA B) s s.heap) (hSu : vx_Zq Bundle.tN "SUPPRESSED_SENTINEL" Bundle.listD (zA B) s s.heap) :
    ∀ U : State, U.heap = H → s.WarmedH U.vm → yPx B xa ca D X as h (as.map (zcv B xa)).toArray U := fun U hUh hW =>
  ⟨⟨rfl, by rw [hUh]; exact hR, zGS.moved hW (fun q g1 g2 => by rw [hUh]; exact hS.2.1 q g1 g2) hG, zGN.moved hW hN⟩, fun w h => yNw_warm h hW (hw w h), by rw [hUh]; exact vx_Zq.moved hW.alike (hU.kept hS.2.1), by rw [hUh]; exact vx_Zq.moved hW.alike (hSu.kept hS.2.1)⟩
/-- isRider on a fresh object: no -/
noncomputable def yir : Bool := match fev (yX0 none) zIT zmcl zMt fB 20 nX10_isRider ([(-2147483648, 2147483647)], 0) [.ref 0, .float 0] (176, yTx) with
  | none => false
  | some os => os.all (fun o => (match o.2.1 with
    | some (.int x) => decide (x = 0)
    | _ => false) && yeqH (hL o.2.2) (yHx ++ yVars 48))
theorem yir_ok : yir = true := by decide +kernel
theorem yisr (nf : Bool) (xs : List Int32) (p0 : Int32) : zEv (zXt nf xs) zIT zmcl zMt 20 nX10_isRider [.ref 0, .int p0] (yHx ++ yHo) (some (.int 0)) (yHx ++ yHo) := by
  have h := yir_ok
  unfold yir at h
  split at h
  · cases h
  · next os ho =>
    obtain ⟨o, m, ρ', r, h', a1, a2, a3, a0, a4, a5⟩ := fev_ok fB_ok (yX0_ok nf xs (o := none) (Or.inl rfl)) ymcl 20 nX10_isRider ([(-2147483648, 2147483647)], 0) _ _ _ ho (hok176 _) ([p0], [], yHo) [.ref 0, .int p0] (yHx ++ yHo) (yG0 (vals := [p0]) rfl rfl (yfull (n := 1))) (y0 (yv_r rfl) (y0 ⟨p0, rfl, rfl⟩ rfl)) (by rw [yTx_eq]; exact yA.app (yhs_vars (ρ := ([p0], [], yHo)) yHo_len) (yhs_plain yHx_plain))
    have h1 := List.all_eq_true.mp h o m
    rw [Bool.and_eq_true] at h1
    have e1 := yeqH_ok h1.2
    rw [e1] at a4
    have d1 := yA.drop 128 a4
    have t1 := yA.take 128 a4
    have dl : (yHx ++ yVars 48).drop 128 = yVars 48 := by rw [List.drop_append, yHx_len, List.drop_of_length_le (by rw [yHx_len]; decide)]; rfl
    have tl : (yHx ++ yVars 48).take 128 = yHx := by rw [List.take_append_of_le_length (by rw [yHx_len]; decide), List.take_of_length_le (by rw [yHx_len]; decide)]
    rw [dl] at d1
    rw [tl] at t1
    have e2 := yhs_vok (n := 48) (by rw [a1.2.2]; exact yHo_len) (yVars_len 48) (by decide +kernel) d1
    rw [a1.2.2] at e2
    have e3 := yhs_pe yHx_plain t1
    have e4 : h' = yHx ++ yHo := by rw [← List.take_append_drop 128 h', e2, e3]
    have e5 : r = some (.int 0) := by
      cases hq : o.2.1 with
      | none => rw [hq] at h1; cases h1.1
      | some v =>
        rw [hq] at h1 a3
        cases v with
        | int x =>
          have hx : x = 0 := of_decide_eq_true h1.1
          subst hx
          exact yrv_some a3 rfl
        | _ => cases h1.1
    rw [e4, e5] at a5
    exact a5
theorem yR106 : zMt 106 = some (10, false, 4, some .int, zt106) := rfl
def yrm1 : Room := { frames := 30, cells := 1, slots := 6, locals := 3000 }
set_option maxHeartbeats 4000000 in
theorem yrid1 {l : Launch} (hl : l.stackTraces = false) {B : Nat} {xa : Nat → Nat} {ca : Nat → ClassId} {D : va_G} {nf : Bool} {xs : List Int32} {p0 p1 : Int32} :
    vx_Met l (zY 106).1 (zws zTs zY 106 4 (some .int)) yrm1 (yPx B xa ca D (zXt nf xs) [.ref 0, .int p0, .int p1] (yHx ++ yHo)) (va_Qi (fun _ (_ : Unit) => False) (fun _ _ => True) (zA B)) (vx_X (fun _ : Unit => True) (fun E _ t => E = yEx ∧ ∃ k : Nat, zHR B xa ca D zcls (yHx ++ yHo ++ List.replicate k zjunk) t.heap) (zA B)) 1 6 (zA B) := by
  have hp := zMt_ok yR106
  obtain ⟨m1, m2, m3, m4, m5, m6, m7⟩ := hp
  refine vx_ofW (cc := (zY 106).2) (maxL := 4) (ret := some .int) m4 rfl ?_
  intro p e s m args below meth c s₁ Bd hml htab hv
  obtain ⟨⟨rfl, hR, hG, hN⟩, hw, hU, hSu⟩ := hv
  have hx := Bd.exec
  have hb := Bd.bytes
  have hts := atoms_spec (ws := zws zTs zY 106 4 (some .int)) Bd.pre
  have hown : s.vm.findClass (zown 10) = some m.cls := by rw [← show (zY 106).1.cls = zown 10 from m2]; exact findClass_of_methodNamed Bd.named
  have hlocks := Bd.notSynchronized
  have hB : B ≤ s.heap.size := by rw [hR.1]; omega
  have hlv := lv_entry (([.ref 0, .int p0, .int p1] : List Value).map (zcv B xa)) (n := 4) (show (3 : Nat) ≤ 4 by decide)
  rw [lg_entry_eq]
  generalize (lg_sl (([.ref 0, .int p0, .int p1] : List Value).map (zcv B xa)) ++ List.replicate (4 - (lg_sl (([.ref 0, .int p0, .int p1] : List Value).map (zcv B xa))).length) Slot.unset).toArray = LS at hlv ⊢
  rw [zargs_cl] at hlv
  have s1 : zGo (zXt nf xs) zIT zmcl (zEv (zXt nf xs) zIT zmcl zMt 20) 10 false 4 zt106 1 (0, lv_args 0 [.ref 0, .int p0, .int p1], [], yHx ++ yHo) (1, lv_args 0 [.ref 0, .int p0, .int p1], [.ref 0], yHx ++ yHo) := zGo_one (i := .aload_n 0) (len := 1) rfl (ystepL rfl)
  have s2 : zGo (zXt nf xs) zIT zmcl (zEv (zXt nf xs) zIT zmcl zMt 20) 10 false 4 zt106 1 (1, lv_args 0 [.ref 0, .int p0, .int p1], [.ref 0], yHx ++ yHo) (2, lv_args 0 [.ref 0, .int p0, .int p1], [.int p0, .ref 0], yHx ++ yHo) := zGo_one (i := .iload_n 1) (len := 1) rfl (ystepL rfl)
  have hc3 : zcall (zXt nf xs) zIT zmcl 10 (.invokevirtual 132) [.int p0, .ref 0] (yHx ++ yHo) = some (nX10_isRider, [.ref 0, .int p0], []) := rfl
  have s3 : zGo (zXt nf xs) zIT zmcl (zEv (zXt nf xs) zIT zmcl zMt 20) 10 false 4 zt106 1 (2, lv_args 0 [.ref 0, .int p0, .int p1], [.int p0, .ref 0], yHx ++ yHo) (5, lv_args 0 [.ref 0, .int p0, .int p1], [.int 0], yHx ++ yHo) := zGo_call (a := (2, lv_args 0 [.ref 0, .int p0, .int p1], [.int p0, .ref 0], yHx ++ yHo)) (i := .invokevirtual 132) (len := 3) rfl hc3 (yisr nf xs p0)
  have s4 : zGo (zXt nf xs) zIT zmcl (zEv (zXt nf xs) zIT zmcl zMt 20) 10 false 4 zt106 1 (5, lv_args 0 [.ref 0, .int p0, .int p1], [.int 0], yHx ++ yHo) (8, lv_args 0 [.ref 0, .int p0, .int p1], [], yHx ++ yHo) := zGo_one (i := .ifCond .ne 13) (len := 3) rfl (ystepI rfl)
  have s5 := zGo_trans _ _ _ _ _ s1 (zGo_trans _ _ _ _ _ s2 (zGo_trans _ _ _ _ _ s3 s4))
  refine zgo_ok (p := p) (l := l) (e := e) (R := (headSpec (zws zTs zY 106 4 (some .int)) yrm1).room) (s := s) (m := m) (below := below) (meth := meth) (c := c) (d := 20) hx hb hml hts hown (zTab_ok nf xs 10) hG hN (fun h => by cases h) hB m7 zCal_ok zMath_ok (zMets nf xs 20) (by decide) (by decide) _ _ _ s5 0 0 s.heap [] LS (by show 0 + (_ - _) ≤ 1; rw [Nat.sub_self]; decide) (by show 0 + (_ - _) ≤ 6; rw [Nat.sub_self]; decide) hR va_S.rf hlv (fun H' locs' LS' g1 g2 g3 => ?_)
  dsimp only at g1 g3 ⊢
  rw [Nat.sub_self, Nat.sub_self]
  obtain ⟨tx, hstr⟩ := hG.2.2.1 10 138 7 rfl
  have hat : ∀ w ∈ yLW, w.before (([.ref 0, .int p0, .int p1] : List Value).map (zcv B xa)).toArray s = true := fun w h => va_tabs (yokw_t h) rfl (hw w h)
  exact vx_throwS (own := "LaughLine") (cls := yEx) (text := tx) (names := yNm) (ik := 136) (is := 138) (ic := 140) (sa := xa 7) (A := zA B) hx hb hl hown (by decide +kernel) (by decide +kernel) (hat _ List.mem_cons_self) (hat _ (List.mem_cons_of_mem _ List.mem_cons_self)) hstr (fun w h => hat w (List.mem_cons_of_mem _ (List.mem_cons_of_mem _ h))) (fun w h => by unfold vx_ot; rw [yokw_t (w := w) h]; rfl) hU hSu g2 (g3.1.trans hml.symm) (m7 8 _ _ rfl).1 (m7 11 _ _ rfl).1 (m7 12 _ _ rfl).1 (m7 14 _ _ rfl).1 (m7 17 _ _ rfl).1 (fun x h => (htab x h).elim) (by decide) (show 0 + (13 * (2 + 1) + 43) ≤ 3000 by decide) (by decide) (by decide) hlocks
    (fun t ht hz hq => ⟨(), trivial, ⟨rfl, t.heap.size - H'.size, zHR_junk _ g1 (by omega) hq⟩, ⟨Nat.le_trans g2.1 hz, fun q h1 h2 => by rw [hq q (Nat.lt_of_lt_of_le h1 g2.1)]; exact g2.2.1 q h1 h2⟩⟩) g2.2.2 (by decide) (by decide)
