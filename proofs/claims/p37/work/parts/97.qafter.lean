/-! rider: behind the law's own method; the claim. -/
theorem lsing {nf : Bool} {xs : List Int32} {q : aQ} {ts : List aY} {ys : List Int32} {h : zH} (c2 : aCon qW qG (zEv (zXt nf xs) zIT zmcl zMt 952) q (fun _ => True)) (chk : lc1 q ts = true) (hI : lInq h) (hl : ts.length = ys.length) (hb : ∀ j : Nat, ∀ y : aY, ts[j]? = some y → y.1 = 0 ∧ y.2.1 ≤ (ys.getD j 0).toInt ∧ (ys.getD j 0).toInt ≤ y.2.2) : ∃ (z : Int32) (h2 : zH), zEv (zXt nf xs) zIT zmcl zMt 952 q.1 (.ref 128 :: ys.map Value.int) h (some (.int z)) h2 ∧ lInq h2 ∧ h2.length = h.length := by
  obtain ⟨⟨hH, x, x1, x2⟩, hXL⟩ := hI
  unfold lc1 at chk
  rw [Bool.and_eq_true] at chk
  obtain ⟨chkx, chk⟩ := chk
  split at chk
  · next A hA =>
    have hx : 0 ≤ x.toInt ∧ x.toInt ≤ 700 := by
      obtain ⟨v, g1, g2⟩ := hH.2.1 0 1 (by decide +kernel) (by decide +kernel)
      rw [qrdx (qG_off (by decide) (by decide)), x1] at g1
      cases g1
      rcases g2 with g2 | ⟨e, he, -⟩
      · have ht : apl (afm qW (asrt qW 0)) 1 = (0, 0, 700) := by decide +kernel
        rw [ht] at g2
        obtain ⟨y, y1, y2⟩ := g2
        cases y1
        exact y2
      · cases he
    have hE := lE_ok hx ys ts hl hb
    have hH1 : aH qW qG ([0, 0, 128, x.toInt] ++ ys.map Int32.toInt) lm h := by
      have m1 := aH_add (q := (1, 0, 1)) (b := .inl (3, 0)) (a := 0) (k := 1) (v := .int x) (aH_nil (ρ' := [0, 0, 128, x.toInt] ++ ys.map Int32.toInt) hH) (qden (k := 1) (c := 0) (r := 1) hE (by decide) rfl) (by decide +kernel) (by decide +kernel) (by rw [qrdx (qG_off (by decide) (by decide))]; exact x1) ⟨x, ⟨x.toInt, rfl, by rw [Int.add_zero, Int32.ofInt_toInt]⟩, rfl⟩
      exact aH_add (q := (2, 0, 2)) (b := .inl (3, 0)) (a := 128) (k := 2) (v := .int x) m1 (qden (k := 2) (c := 128) (r := 2) hE (by decide) rfl) (by decide +kernel) (by decide +kernel) (by rw [qrdx (qG_real (by decide +kernel) (by decide +kernel))]; exact x2) ⟨x, ⟨x.toInt, rfl, by rw [Int.add_zero, Int32.ofInt_toInt]⟩, rfl⟩
    have hst : aSt ([0, 0, 128, x.toInt] ++ ys.map Int32.toInt) (lA 4 ts.length) (ys.map Value.int) := by
      rw [hl]
      refine lA_st ys 4 (fun j hj => ⟨(ys.getD j 0).toInt, ?_, by rw [Int32.ofInt_toInt]⟩)
      rw [List.getElem?_append_right (by simp)]
      show (ys.map Int32.toInt)[4 + j - 4]? = _
      rw [show 4 + j - 4 = j by omega, List.getElem?_map, List.getElem?_eq_getElem hj, List.getD_eq_getElem?_getD, List.getElem?_eq_getElem hj]
      rfl
    have hs0 : aSt ([0, 0, 128, x.toInt] ++ ys.map Int32.toInt) (.inr (.inr (.inl 2)) :: lA 4 ts.length) (.ref 128 :: ys.map Value.int) := ⟨.ref 128, _, rfl, ⟨128, rfl, rfl⟩, hst⟩
    obtain ⟨r2, h2, g2, p, p1, ρ2, z1, z2, z3, z4, z5⟩ := acon_use (h0 := h) hA hE hH1 hs0 aF.rf c2 (fun _ _ _ _ _ => trivial)
    have chk := List.all_eq_true.mp chk p p1
    rw [Bool.and_eq_true] at chk
    obtain ⟨k1, k2⟩ := chk
    obtain ⟨z, rfl⟩ := lint_v k2 z3
    unfold lfin at k1
    rw [Bool.and_eq_true] at k1
    obtain ⟨k3, k4⟩ := k1
    obtain ⟨m', hm'⟩ := Option.isSome_iff_exists.mp k3
    obtain ⟨hK, hK2⟩ := akill_ok z2 hm' z4
    have e0 : m' = [] := by
      cases m' with
      | nil => rfl
      | cons a r => cases (hK2 a List.mem_cons_self).2
    subst e0
    refine ⟨z, h2, g2, ⟨⟨aH_nil hK, ?_⟩, lQ_keep hXL (zEv_KT _ _ _ _ _ _ g2 hXL.1.1) (KP_of z5) chkx⟩, z5.1⟩
    split at k4
    · next v w hv hw =>
      obtain ⟨wv, v1, v2⟩ := qamg (k := 1) (c := 0) (r := 1) z2 z4 (by decide) (z1.get rfl) hv
      obtain ⟨ww, w1, w2⟩ := qamg (k := 2) (c := 128) (r := 2) z2 z4 (by decide) (z1.get rfl) hw
      obtain ⟨u, rfl, rfl⟩ := lsm_ok z2 k4 v2 w2
      rw [qrdx (qG_off (by decide) (by decide))] at v1
      rw [qrdx (qG_real (by decide +kernel) (by decide +kernel))] at w1
      exact ⟨u, v1, w1⟩
    · cases k4
  · cases chk
theorem lk4 : lc1 qc117 [(0, -2147483648, 2147483647), (0, -2147483648, 2147483647)] = true := by decide +kernel
theorem lok_set {cl : zL} {i : Int32} {k : Nat} {v : Int32} (hl : lok cl i) (hk : 5 ≤ k) : lok (zset1 cl k (.int v)) i := by
  have hs : ∀ (j : Nat) (u : Value), j < 5 → zget cl j = some u → ¬ (j + 1 = k ∧ u.category = 2) → zget (zset1 cl k (.int v)) j = some u := fun j u hj hv hc => by
    unfold zset1
    rw [zget_tl (by omega)]
    refine zget_flt hv ?_
    simp only [Bool.and_eq_true, Bool.not_eq_true', beq_eq_false_iff_ne, Bool.and_eq_false_iff]
    refine ⟨by omega, ?_⟩
    by_cases q : j + 1 = k
    · exact Or.inr (fun e => hc ⟨q, e⟩)
    · exact Or.inl q
  exact ⟨hs 0 _ (by decide) hl.1 (fun q => by cases q.2), hs 1 _ (by decide) hl.2.1 (fun q => by cases q.2), hs 2 _ (by decide) hl.2.2.1 (fun q => by cases q.2), hs 3 _ (by decide) hl.2.2.2.1 (fun q => by cases q.2), hs 4 _ (by decide) hl.2.2.2.2 (fun q => by cases q.2)⟩
theorem lafter {nf : Bool} {xs : List Int32} {i r : Int32} {cl : zL} {h : zH} (hl : lok cl i) (hi : lin xs i) (hI : lInq h) : ∃ (cl2 : zL) (h2 : zH), lR nf xs (381, cl, [.int r], h) (1492, cl2, [], h2) ∧ lok cl2 i ∧ lInq h2 ∧ h2.length = h.length := by
  have hl1 : lok (zset1 cl 5 (.int r)) i := lok_set hl (by decide)
  obtain ⟨z, h2, e2, hI2, l2⟩ := lsing (nf := nf) (xs := xs) (ys := [lx xs i 1, lx xs i 2]) (qB_ok nf xs 216 qc117 (show qc117 ∈ qKB 216 from List.Mem.head _)).2 lk4 hI rfl (fun j y hy => by
    rcases j with _ | _ | j
    · cases hy; exact ⟨rfl, ab _⟩
    · cases hy; exact ⟨rfl, ab _⟩
    · exact absurd hy (by simp))
  obtain ⟨f1, k1⟩ := lh1 hI.1.1.1
  have s0 : zLaw nf xs 1 (381, cl, [.int r], h) (383, zset1 cl 5 (.int r), [], h) := lone (i := .istore 5) (len := 2) rfl (lsL rfl)
  have s1 : zLaw nf xs 1 (399, zset1 cl 5 (.int r), [.int z], h2) (401, zset1 (zset1 cl 5 (.int r)) 6 (.int z), [], h2) := lone (i := .istore 6) (len := 2) rfl (lsL rfl)
  exact ⟨_, h2, lRt ⟨1, s0⟩ (lRt ⟨1, la_r (k := 2) (pc := 383) (st := []) (h := h) rfl hl1.2.2.1⟩ (lRt ⟨5, la_s (pc := 384) (st := [.ref 128]) (h := h) (j := 1) rfl rfl rfl rfl rfl hl1 (hi.2 1 (by decide) (by decide))⟩ (lRt ⟨5, la_s (pc := 390) (st := [.int (lx xs i 1), .ref 128]) (h := h) (j := 2) rfl rfl rfl rfl rfl hl1 (hi.2 2 (by decide) (by decide))⟩ (lRt (lcall (cl := zset1 cl 5 (.int r)) (p := 396) (as := [.int (lx xs i 1), .int (lx xs i 2)]) (b := 128) (r := []) rfl rfl rfl rfl k1 rfl e2) (lRt ⟨1, s1⟩ ⟨1, lgoto (pc := 401) (q := 1492) rfl rfl⟩))))), lok_set hl1 (by decide), hI2, l2⟩
