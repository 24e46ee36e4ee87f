/-! The class's rider: what it does to the Java machine: it answers, or throws one of two. -/
def yEx : String := "java/lang/IndexOutOfBoundsException"
def yE2 : String := "java/util/NoSuchElementException"
def yNm : List String := ["java/lang/RuntimeException", "java/lang/Exception"]
def yr2 : ByteArray := ⟨#[0x2a, 0x2b, 0xb7, 0x00, 0x0d, 0xb1]⟩
def yLW1 : List Cond := Cond.classLink "LaughLine" 136 yEx :: Cond.initialized yEx :: vx_atS "LaughLine" 140 yEx yNm
def yLW2 : List Cond := Cond.classLink "LaughLine" 171 yE2 :: Cond.initialized yE2 :: tx_at "LaughLine" 175 yE2 13 yr2 yNm
def yLW : List Cond := yLW1 ++ yLW2
def yokw (w : Cond) : Bool := w.onTables && (goodWord w || (match w with
  | .castable _ _ => true
  | .declares _ => true
  | _ => false))
theorem yLW_ok : yLW.all yokw = true := by decide +kernel
theorem yokw_t {w : Cond} (h : w ∈ yLW) : w.onTables = true := by
  have h1 := List.all_eq_true.mp yLW_ok w h
  unfold yokw at h1
  rw [Bool.and_eq_true] at h1
  exact h1.1
theorem yNw_warm {w : Cond} {s U : State} (hw : w ∈ yLW) (hW : s.WarmedH U.vm) (h : va_Nw w s) : va_Nw w U := by
  have hk := List.all_eq_true.mp yLW_ok w hw
  unfold yokw at hk
  rw [Bool.and_eq_true, Bool.or_eq_true] at hk
  obtain ⟨h1, h2 | h2⟩ := hk
  · exact word_at hW (good_of_word h2) h
  · cases w with
    | castable C T => exact va_Nw.warmC hW h
    | declares x => exact va_Nw.warmD hW h
    | _ => cases h2
/-- what a throwing method wants of its start -/
def yPx (B : Nat) (xa : Nat → Nat) (ca : Nat → ClassId) (D : va_G) (X : zX) (as : List Value) (h : zH) : Array Value → State → Prop := fun a U =>
  zPc zTs B xa ca D zcls "LaughLine$Passenger" X zown zIT zY as h a U ∧ (∀ w ∈ yLW, va_Nw w U) ∧ va_Nc yE2 yEx U ∧ vx_Zq Bundle.tN "UNASSIGNED_STACK" Bundle.steD (zA B) U U.heap ∧ vx_Zq Bundle.tN "SUPPRESSED_SENTINEL" Bundle.listD (zA B) U U.heap
theorem yPx_blind {B : Nat} {xa : Nat → Nat} {ca : Nat → ClassId} {D : va_G} {X : zX} {as : List Value} {h : zH} : FrameBlind (yPx B xa ca D X as h) := by
  intro a U g mk q
  obtain ⟨q1, q2, q5, q3, q4⟩ := q
  have hW : U.WarmedH (U.calling g mk a).vm := State.WarmedH.refl U
  exact ⟨zPc_blind _ _ _ _ q1, fun w hw => yNw_warm hw hW (q2 w hw), va_Nc.moved hW.alike q5, vx_Zq.moved hW.alike q3, vx_Zq.moved hW.alike q4⟩
theorem yPx_pre {B : Nat} {xa : Nat → Nat} {ca : Nat → ClassId} {D : va_G} {X : zX} {as : List Value} {h : zH} {s : State} {H : Heap} {locs : List Loc} (hR : zHR B xa ca D zcls h H) (hS : va_S (zA B) s.heap H locs) (hG : zGS zTs B xa ca D zcls "LaughLine$Passenger" X zown s) (hN : zGN zIT zY zown s) (hw : ∀ w ∈ yLW, va_Nw w s) (hNc : va_Nc yE2 yEx s) (hU : vx_Zq Bundle.tN "UNASSIGNED_STACK" Bundle.steD (zA B) s s.heap) (hSu : vx_Zq Bundle.tN "SUPPRESSED_SENTINEL" Bundle.listD (zA B) s s.heap) :
    ∀ U : State, U.heap = H → s.WarmedH U.vm → yPx B xa ca D X as h (as.map (zcv B xa)).toArray U := fun U hUh hW =>
  ⟨⟨rfl, by rw [hUh]; exact hR, zGS.moved hW (fun q g1 g2 => by rw [hUh]; exact hS.2.1 q g1 g2) hG, zGN.moved hW hN⟩, fun w h => yNw_warm h hW (hw w h), va_Nc.moved hW.alike hNc, by rw [hUh]; exact vx_Zq.moved hW.alike (hU.kept hS.2.1), by rw [hUh]; exact vx_Zq.moved hW.alike (hSu.kept hS.2.1)⟩
/-- the heap behind it: what holds between passes holds -/
def yPost (B : Nat) (xa : Nat → Nat) (ca : Nat → ClassId) (D : va_G) (t : State) : Prop := ∃ h' : zH, lInq h' ∧ zHR B xa ca D zcls h' t.heap
theorem rd_app {h j : zH} {a k : Nat} (ha : a < h.length) : rd (h ++ j) a k = rd h a k := by
  unfold rd
  rw [List.getElem?_append_left ha]
theorem qpr_lt {a k : Nat} (h : qpr a k = true) : a < 148 := by
  unfold qpr at h
  simp only [Bool.or_eq_true, Bool.and_eq_true] at h
  rcases h with ⟨q, -⟩ | ⟨q, -⟩ | ⟨q, -⟩ | ⟨q, -⟩ | ⟨q, -⟩ | ⟨q, -⟩ | ⟨q, -⟩ | ⟨q, -⟩ <;> (rw [Nat.eq_of_beq_eq_true q]; decide)
theorem lInq_app {h : zH} (k : Nat) (hI : lInq h) : lInq (h ++ List.replicate k zjunk) := by
  obtain ⟨⟨hH, x, x1, x2⟩, hXL⟩ := hI
  have hl : 176 ≤ h.length := by
    obtain ⟨e, he, -⟩ := hH.1 175 (by decide +kernel)
    have := (List.getElem?_eq_some_iff.mp he).1
    omega
  have hW : qW.1.length = 176 := by decide +kernel
  have hq : qv (h ++ List.replicate k zjunk) = qv h := by
    funext a j
    unfold qv
    cases hp : qpr a j with
    | false => rfl
    | true =>
      show qi _ a j = qi h a j
      have := qpr_lt hp
      unfold qi
      rw [rd_app (by omega)]
  have hx : ∀ a j : Nat, a < qW.1.length → rdx qG (h ++ List.replicate k zjunk) a j = rdx qG h a j := fun a j ha => by
    unfold rdx
    have : qG a j (h ++ List.replicate k zjunk) = qG a j h := by
      show (qgF (qv (h ++ List.replicate k zjunk)) a j).map Int32.ofInt = (qgF (qv h) a j).map Int32.ofInt
      rw [hq]
    rw [this, rd_app (by omega)]
  refine ⟨⟨⟨fun a ha => ?_, fun a j ha hj => ?_, fun e he => by cases he⟩, x, by rw [rd_app (by omega)]; exact x1, by rw [rd_app (by omega)]; exact x2⟩, lQ_junk k hl hXL (fun a j ha => rd_app ha)⟩
  · obtain ⟨e, h1, h2⟩ := hH.1 a ha
    exact ⟨e, by rw [List.getElem?_append_left (by omega)]; exact h1, h2⟩
  · obtain ⟨v, g1, g2⟩ := hH.2.1 a j ha hj
    exact ⟨v, by rw [hx a j ha]; exact g1, g2⟩
def yrm1 : Room := { frames := 1010, cells := 1, slots := 6, locals := 65000 }
theorem ridr_ok {pc : Nat} (h : ridr pc = true) : zt106 pc = some (.ireturn, 1) := by
  unfold ridr at h
  simp only [Bool.or_eq_true] at h
  rcases h with h | h | h | h | h | h | h | h <;> (rw [Nat.eq_of_beq_eq_true h]; rfl)
set_option maxHeartbeats 4000000 in
theorem yrid1 {l : Launch} (hl : l.stackTraces = false) {B : Nat} {xa : Nat → Nat} {ca : Nat → ClassId} {D : va_G} {nf : Bool} {xs : List Int32} {p0 p1 : Int32} {h0 : zH} (hI : lInq h0) :
    vx_Met l (zY 106).1 (zws zTs zY 106 4 (some .int)) yrm1 (yPx B xa ca D (zXt nf xs) [.ref 0, .int p0, .int p1] h0) (va_Qi (fun _ (_ : Unit) => True) (fun _ t => yPost B xa ca D t) (zA B)) (vx_X (fun _ : Unit => True) (fun E _ t => (E = yEx ∨ E = yE2) ∧ yPost B xa ca D t) (zA B)) 1 6 (zA B) := by
  have hp := zMt_ok yR106
  obtain ⟨m1, m2, m3, m4, m5, m6, m7⟩ := hp
  refine vx_ofW (cc := (zY 106).2) (maxL := 4) (ret := some .int) m4 rfl ?_
  intro p e s m args below meth c s₁ Bd hml htab hv
  obtain ⟨⟨rfl, hR, hG, hN⟩, hw, hNc, hU, hSu⟩ := hv
  have hx := Bd.exec
  have hb := Bd.bytes
  have hr := Bd.returns
  have hts := atoms_spec (ws := zws zTs zY 106 4 (some .int)) Bd.pre
  have hown : s.vm.findClass (zown 10) = some m.cls := by rw [← show (zY 106).1.cls = zown 10 from m2]; exact findClass_of_methodNamed Bd.named
  have hlocks := Bd.notSynchronized
  have hB : B ≤ s.heap.size := by rw [hR.1]; omega
  have hlv := lv_entry (([.ref 0, .int p0, .int p1] : List Value).map (zcv B xa)) (n := 4) (show (3 : Nat) ≤ 4 by decide)
  rw [lg_entry_eq]
  generalize (lg_sl (([.ref 0, .int p0, .int p1] : List Value).map (zcv B xa)) ++ List.replicate (4 - (lg_sl (([.ref 0, .int p0, .int p1] : List Value).map (zcv B xa))).length) Slot.unset).toArray = LS at hlv ⊢
  rw [zargs_cl] at hlv
  obtain ⟨n, pc, cl, cst, h', r, hI', hlen, hcases⟩ := ridgo (nf := nf) (xs := xs) hI p0 p1
  have hgr := zGo_g (ynew_len nf xs) _ _ _ r
  have hz : zsl h' ≤ zsl h0 := by
    have h9 : zsl h' + 1000000 * h0.length ≤ zsl h0 + 1000000 * h'.length := hgr.2
    rw [hlen] at h9
    omega
  refine zgo_ok (p := p) (l := l) (e := e) (R := (headSpec (zws zTs zY 106 4 (some .int)) yrm1).room) (s := s) (m := m) (below := below) (meth := meth) (c := c) (d := 1000) hx hb hml hts hown (zTab_ok nf xs 10) hG hN (fun h => by cases h) hB m7 zCal_ok zMath_ok (zMets nf xs 1000) (by decide) (by decide) _ _ _ r 0 0 s.heap [] LS (by show 0 + (h'.length - h0.length) ≤ 1; rw [hlen]; omega) (by show 0 + (zsl h' - zsl h0) ≤ 6; omega) hR va_S.rf hlv (fun H' locs' LS' g1 g2 g3 => ?_)
  dsimp only at g1 g3 ⊢
  rw [show h'.length - h0.length = 0 by omega, show zsl h' - zsl h0 = 0 by omega]
  have hat : ∀ w ∈ yLW, w.before (([.ref 0, .int p0, .int p1] : List Value).map (zcv B xa)).toArray s = true := fun w h => va_tabs (yokw_t h) rfl (hw w h)
  have hat1 : ∀ w ∈ yLW1, w.before (([.ref 0, .int p0, .int p1] : List Value).map (zcv B xa)).toArray s = true := fun w h => hat w (List.mem_append_left _ h)
  have hat2 : ∀ w ∈ yLW2, w.before (([.ref 0, .int p0, .int p1] : List Value).map (zcv B xa)).toArray s = true := fun w h => hat w (List.mem_append_right _ h)
  have hot1 : ∀ w ∈ yLW1, vx_ot w = true := fun w h => by unfold vx_ot; rw [yokw_t (w := w) (List.mem_append_left _ h)]; rfl
  have hot2 : ∀ w ∈ yLW2, vx_ot w = true := fun w h => by unfold vx_ot; rw [yokw_t (w := w) (List.mem_append_right _ h)]; rfl
  rcases hcases with ⟨rfl, rfl⟩ | ⟨rfl, rfl⟩ | ⟨hpc, z, rfl⟩
  · obtain ⟨tx, hstr⟩ := hG.2.2.1 10 138 7 rfl
    exact vx_throwS (own := "LaughLine") (cls := yEx) (text := tx) (names := yNm) (ik := 136) (is := 138) (ic := 140) (sa := xa 7) (A := zA B) hx hb hl hown (by decide +kernel) (by decide +kernel) (hat1 _ List.mem_cons_self) (hat1 _ (List.mem_cons_of_mem _ List.mem_cons_self)) hstr (fun w h => hat1 w (List.mem_cons_of_mem _ (List.mem_cons_of_mem _ h))) hot1 hU hSu g2 (g3.1.trans hml.symm) (m7 8 _ _ rfl).1 (m7 11 _ _ rfl).1 (m7 12 _ _ rfl).1 (m7 14 _ _ rfl).1 (m7 17 _ _ rfl).1 (fun x h => (htab x h).elim) (by decide) (show 0 + (13 * (2 + 1) + 43) ≤ 65000 by decide) (by decide) (by decide) hlocks
      (fun t ht hz' hq => ⟨(), trivial, ⟨Or.inl rfl, _, lInq_app (t.heap.size - H'.size) hI', zHR_junk _ g1 (by omega) hq⟩, ⟨Nat.le_trans g2.1 hz', fun q h1 h2 => by rw [hq q (Nat.lt_of_lt_of_le h1 g2.1)]; exact g2.2.1 q h1 h2⟩⟩) g2.2.2 (by decide) (by decide)
  · obtain ⟨tx, hstr⟩ := hG.2.2.1 10 173 8 rfl
    exact tx_throw (own := "LaughLine") (cls := yE2) (text := tx) (names := yNm) (ik := 171) (is := 173) (ic := 175) (sa := xa 8) (ix := 13) (rx := yr2) (A := zA B) hx hb hl (by decide +kernel) (by decide +kernel) (by decide +kernel) (by decide +kernel) hown (by decide +kernel) (by decide +kernel) (hat2 _ List.mem_cons_self) (hat2 _ (List.mem_cons_of_mem _ List.mem_cons_self)) hstr (fun w h => hat2 w (List.mem_cons_of_mem _ (List.mem_cons_of_mem _ h))) hot2 hU hSu g2 (g3.1.trans hml.symm) (m7 140 _ _ rfl).1 (m7 143 _ _ rfl).1 (m7 144 _ _ rfl).1 (m7 146 _ _ rfl).1 (m7 149 _ _ rfl).1 (fun x h => (htab x h).elim) (by decide) (show 0 + (13 * (2 + 1) + 43) ≤ 65000 by decide) (by decide) (by decide) hlocks
      (fun t ht hz' hq => ⟨(), trivial, ⟨Or.inr rfl, _, lInq_app (t.heap.size - H'.size) hI', zHR_junk _ g1 (by omega) hq⟩, ⟨Nat.le_trans g2.1 hz', fun q h1 h2 => by rw [hq q (Nat.lt_of_lt_of_le h1 g2.1)]; exact g2.2.1 q h1 h2⟩⟩) g2.2.2 (by decide) (by decide)
  · refine vx_ret (W.widen (k := 1) (n := 6) (by decide) (by decide) ?_)
    exact W.iret hx hb hr (fun t' ht' hW' => ⟨⟨z, (), rfl, trivial, h', hI', by rw [ht']; exact g1⟩, g2.F ht'⟩) g2.2.2 (m7 pc _ _ (ridr_ok hpc)).1 hlocks
