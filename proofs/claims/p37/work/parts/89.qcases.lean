/-! The cases of the law's switch, but that of rider (by program: wip/eng/t12.py). -/
def lR (nf : Bool) (xs : List Int32) (a b : zSt) : Prop := ∃ n : Nat, zLaw nf xs n a b
theorem lRt {nf : Bool} {xs : List Int32} {a b d : zSt} : lR nf xs a b → lR nf xs b d → lR nf xs a d
  | ⟨_, h1⟩, ⟨_, h2⟩ => ⟨_, zLaw_trans h1 h2⟩
theorem lcv {nf : Bool} {xs : List Int32} {h : zH} {j mi n cls b : Nat} {as r : List Value} {fs : List Value} (hI : zIT 19 j = some (1, mi, n)) (hn : as.length = n) (hc : zmcl mi = cls) (hh : h[b]? = some (cls, .inr (.inr (.inr fs)))) (hw : zw8 r = true) : zcall (zXt nf xs) zIT zmcl 19 (.invokevirtual j) (as.reverse ++ .ref b :: r) h = some (mi, .ref b :: as, r) := by
  have d1 : (as.reverse ++ .ref b :: r).drop n = .ref b :: r := by rw [List.drop_append, List.drop_of_length_le (by simp; omega), List.length_reverse, hn, Nat.sub_self]; rfl
  have d2 : ((as.reverse ++ .ref b :: r).take n).reverse = as := by rw [List.take_append_of_le_length (by simp; omega), List.take_of_length_le (by simp; omega), List.reverse_reverse]
  simp only [zcall, hI, d1, d2, hh]
  rw [if_pos ⟨hc.symm, by simp; omega, hw⟩]
theorem lcall {nf : Bool} {xs : List Int32} {p j mi n cls b : Nat} {as r : List Value} {fs : List Value} {cl : zL} {h h1 : zH} {v : Value} (t : ztlaw p = some (.invokevirtual j, 3)) (hI : zIT 19 j = some (1, mi, n)) (hn : as.length = n) (hc : zmcl mi = cls) (hh : h[b]? = some (cls, .inr (.inr (.inr fs)))) (hw : zw8 r = true) (e : zEv (zXt nf xs) zIT zmcl zMt 952 mi (.ref b :: as) h (some v) h1) : lR nf xs (p, cl, as.reverse ++ .ref b :: r, h) (p + 3, cl, v :: r, h1) := ⟨1, lcl (a := (p, cl, as.reverse ++ .ref b :: r, h)) t (lcv hI hn hc hh hw) (zEv_le (by decide) e)⟩
theorem lint_v {ρ : List Int} {a : Option aV} {r : Option Value} (h : lint a = true) (hr : arv ρ a r) : ∃ z : Int32, r = some (.int z) := by
  unfold lint at h
  split at h
  · obtain ⟨v, rfl, x, -, rfl⟩ := hr
    exact ⟨x, rfl⟩
  · cases h
theorem llng_v {ρ : List Int} {a : Option aV} {r : Option Value} (h : llng a = true) (hr : arv ρ a r) : ∃ z : Int64, r = some (.long z) := by
  unfold llng at h
  split at h
  · obtain ⟨v, rfl, x, -, rfl⟩ := hr
    exact ⟨_, rfl⟩
  · cases h
theorem lnz_b (x : Int32) : 0 ≤ (lnz x).toInt ∧ (lnz x).toInt ≤ 1 := by
  unfold lnz
  split <;> decide
theorem lh0 {h : zH} (hH : aSh qW h) : ∃ fs : List Value, h[0]? = some (10, .inr (.inr (.inr fs))) := lhd (n := 0) hH (by decide +kernel) (by decide +kernel) (by decide +kernel)
theorem lh1 {h : zH} (hH : aSh qW h) : ∃ fs : List Value, h[128]? = some (11, .inr (.inr (.inr fs))) := lhd (n := 0) hH (by decide +kernel) (by decide +kernel) (by decide +kernel)
theorem licmp {nf : Bool} {xs : List Int32} {p q : Nat} {off : Int} {cl : zL} {z : Int32} {st : List Value} {h : zH} (t : ztlaw p = some (.if_icmp .eq off, 3)) (ho : (p : Int) + off = (q : Int)) : zLaw nf xs 1 (p, cl, .int z :: .int z :: st, h) (q, cl, st, h) := lone t (lsI (by
  show zbr (zicmp .eq z z) p off cl st h = some _
  rw [show zicmp .eq z z = true from decide_eq_true rfl]
  unfold zbr
  rw [ho, if_pos (Int.natCast_nonneg q), if_pos rfl]
  rfl))
theorem lw0 {nf : Bool} {xs : List Int32} {i : Int32} {cl : zL} {h : zH} (hl : lok cl i) (hi : lin xs i) (hI : lInq h) : ∃ h2 : zH, lR nf xs (204, cl, [], h) (1492, cl, [], h2) ∧ lInq h2 ∧ h2.length = h.length := by
  obtain ⟨r1, h1, r2, h2, e1, e2, hS1, hJ2, l1, l2, kp1, kp2, E, ρ, a, b, hE, ha, hb, hc⟩ := ltwoB (nf := nf) (xs := xs) (ys := [lx xs i 1, lx xs i 2, lx xs i 3, lx xs i 4, lx xs i 5]) (qB_ok nf xs 98 qc140 (show qc140 ∈ qKB 98 from List.Mem.head _)).2 (qB_ok nf xs 150 qc55 (show qc55 ∈ qKB 150 from List.Mem.head _)).2 lk0 hI.1 rfl (fun j y hy => by
    rcases j with _ | _ | _ | _ | _ | j
    · cases hy; exact ⟨rfl, ab _⟩
    · cases hy; exact ⟨rfl, ab _⟩
    · cases hy; exact ⟨rfl, ab _⟩
    · cases hy; exact ⟨rfl, ab _⟩
    · cases hy; exact ⟨rfl, ab _⟩
    · exact absurd hy (by simp))
  have hI2 : lInq h2 := ⟨hJ2, feed_pair ⟨hI.1, hI.2.1⟩ e1 e2 hS1 hJ2.1.1 kp1 kp2 (by decide +kernel) (by decide +kernel) (by decide +kernel) (by decide +kernel) (by decide +kernel) (by decide +kernel) (by decide +kernel) (by decide +kernel) (by decide +kernel), lB_keep (lB_keep hI.2.2 kp1 (by decide +kernel)) kp2 (by decide +kernel)⟩
  obtain ⟨f0, k0⟩ := lh0 hI.1.1.1
  obtain ⟨f1, k1⟩ := lh1 hS1
  unfold leI at hc
  rw [Bool.and_eq_true] at hc
  obtain ⟨z1, rfl⟩ := lint_v hc.1 ha
  obtain ⟨z2, rfl⟩ := lint_v hc.2 hb
  exact ⟨h2, lRt (⟨1, la_r (k := 1) (pc := 204) (st := []) (h := h) rfl hl.2.1⟩) (lRt (⟨5, la_s (pc := 205) (st := (.ref 0 :: [])) (h := h) (j := 1) rfl rfl rfl rfl rfl hl (hi.2 1 (by decide) (by decide))⟩) (lRt (⟨5, la_s (pc := 211) (st := (.int (lx xs i 1) :: (.ref 0 :: []))) (h := h) (j := 2) rfl rfl rfl rfl rfl hl (hi.2 2 (by decide) (by decide))⟩) (lRt (⟨5, la_s (pc := 217) (st := (.int (lx xs i 2) :: (.int (lx xs i 1) :: (.ref 0 :: [])))) (h := h) (j := 3) rfl rfl rfl rfl rfl hl (hi.2 3 (by decide) (by decide))⟩) (lRt (⟨5, la_s (pc := 223) (st := (.int (lx xs i 3) :: (.int (lx xs i 2) :: (.int (lx xs i 1) :: (.ref 0 :: []))))) (h := h) (j := 4) rfl rfl rfl rfl rfl hl (hi.2 4 (by decide) (by decide))⟩) (lRt (⟨5, la_s (pc := 229) (st := (.int (lx xs i 4) :: (.int (lx xs i 3) :: (.int (lx xs i 2) :: (.int (lx xs i 1) :: (.ref 0 :: [])))))) (h := h) (j := 5) rfl rfl rfl rfl rfl hl (hi.2 5 (by decide) (by decide))⟩) (lRt (lcall (cl := cl) (p := 235) (as := [.int (lx xs i 1), .int (lx xs i 2), .int (lx xs i 3), .int (lx xs i 4), .int (lx xs i 5)]) (b := 0) (r := []) rfl rfl rfl rfl k0 rfl e1) (lRt (⟨1, lpop (pc := 238) rfl⟩) (lRt (⟨1, la_r (k := 2) (pc := 239) (st := []) (h := h1) rfl hl.2.2.1⟩) (lRt (⟨5, la_s (pc := 240) (st := (.ref 128 :: [])) (h := h1) (j := 1) rfl rfl rfl rfl rfl hl (hi.2 1 (by decide) (by decide))⟩) (lRt (⟨5, la_s (pc := 246) (st := (.int (lx xs i 1) :: (.ref 128 :: []))) (h := h1) (j := 2) rfl rfl rfl rfl rfl hl (hi.2 2 (by decide) (by decide))⟩) (lRt (⟨5, la_s (pc := 252) (st := (.int (lx xs i 2) :: (.int (lx xs i 1) :: (.ref 128 :: [])))) (h := h1) (j := 3) rfl rfl rfl rfl rfl hl (hi.2 3 (by decide) (by decide))⟩) (lRt (⟨5, la_s (pc := 258) (st := (.int (lx xs i 3) :: (.int (lx xs i 2) :: (.int (lx xs i 1) :: (.ref 128 :: []))))) (h := h1) (j := 4) rfl rfl rfl rfl rfl hl (hi.2 4 (by decide) (by decide))⟩) (lRt (⟨5, la_s (pc := 264) (st := (.int (lx xs i 4) :: (.int (lx xs i 3) :: (.int (lx xs i 2) :: (.int (lx xs i 1) :: (.ref 128 :: [])))))) (h := h1) (j := 5) rfl rfl rfl rfl rfl hl (hi.2 5 (by decide) (by decide))⟩) (lRt (lcall (cl := cl) (p := 270) (as := [.int (lx xs i 1), .int (lx xs i 2), .int (lx xs i 3), .int (lx xs i 4), .int (lx xs i 5)]) (b := 128) (r := []) rfl rfl rfl rfl k1 rfl e2) (lRt (⟨1, lpop (pc := 273) rfl⟩) (⟨1, lgoto (pc := 274) (q := 1492) rfl rfl⟩)))))))))))))))), hI2, l2⟩
theorem lw1 {nf : Bool} {xs : List Int32} {i : Int32} {cl : zL} {h : zH} (hl : lok cl i) (hi : lin xs i) (hI : lInq h) : ∃ h2 : zH, lR nf xs (277, cl, [], h) (1492, cl, [], h2) ∧ lInq h2 ∧ h2.length = h.length := by
  obtain ⟨r1, h1, r2, h2, e1, e2, hS1, hJ2, l1, l2, kp1, kp2, E, ρ, a, b, hE, ha, hb, hc⟩ := ltwoB (nf := nf) (xs := xs) (ys := [lx xs i 1]) (qB_ok nf xs 100 qc237 (show qc237 ∈ qKB 100 from List.Mem.head _)).2 (qB_ok nf xs 181 qc282 (show qc282 ∈ qKB 181 from List.Mem.head _)).2 lk1 hI.1 rfl (fun j y hy => by
    rcases j with _ | j
    · cases hy; exact ⟨rfl, ab _⟩
    · exact absurd hy (by simp))
  obtain ⟨hrr, hX2, hN2⟩ := text_pair ⟨hI.1, hI.2.1⟩ e1 e2 hS1 hJ2.1.1 kp1 kp2 (by decide +kernel) (by decide +kernel) (by decide +kernel) (by decide +kernel) (lNs_of hI.2.2) (by decide +kernel) (by decide +kernel)
  have hI2 : lInq h2 := ⟨hJ2, hX2, text_B hI e1 e2 hS1 hJ2 hX2 kp1 kp2 (by decide +kernel) (by decide +kernel) (by decide +kernel) (by decide +kernel)⟩
  obtain ⟨f0, k0⟩ := lh0 hI.1.1.1
  obtain ⟨f1, k1⟩ := lh1 hS1
  unfold leI at hc
  rw [Bool.and_eq_true] at hc
  obtain ⟨z1, rfl⟩ := lint_v hc.1 ha
  obtain ⟨z2, rfl⟩ := lint_v hc.2 hb
  exact ⟨h2, lRt (⟨1, la_r (k := 1) (pc := 277) (st := []) (h := h) rfl hl.2.1⟩) (lRt (⟨5, la_s (pc := 278) (st := (.ref 0 :: [])) (h := h) (j := 1) rfl rfl rfl rfl rfl hl (hi.2 1 (by decide) (by decide))⟩) (lRt (lcall (cl := cl) (p := 284) (as := [.int (lx xs i 1)]) (b := 0) (r := []) rfl rfl rfl rfl k0 rfl e1) (lRt (⟨1, lpop (pc := 287) rfl⟩) (lRt (⟨1, la_r (k := 2) (pc := 288) (st := []) (h := h1) rfl hl.2.2.1⟩) (lRt (⟨5, la_s (pc := 289) (st := (.ref 128 :: [])) (h := h1) (j := 1) rfl rfl rfl rfl rfl hl (hi.2 1 (by decide) (by decide))⟩) (lRt (lcall (cl := cl) (p := 295) (as := [.int (lx xs i 1)]) (b := 128) (r := []) rfl rfl rfl rfl k1 rfl e2) (lRt (⟨1, lpop (pc := 298) rfl⟩) (⟨1, lgoto (pc := 299) (q := 1492) rfl rfl⟩)))))))), hI2, l2⟩
theorem lw2 {nf : Bool} {xs : List Int32} {i : Int32} {cl : zL} {h : zH} (hl : lok cl i) (hi : lin xs i) (hI : lInq h) : ∃ h2 : zH, lR nf xs (302, cl, [], h) (1492, cl, [], h2) ∧ lInq h2 ∧ h2.length = h.length := by
  obtain ⟨r1, h1, r2, h2, e1, e2, hS1, hX1, hI2, l1, l2, E, ρ, a, b, hE, ha, hb, hc⟩ := ltwoq (nf := nf) (xs := xs) (ys := [lx xs i 1]) (qB_ok nf xs 101 qc44 (show qc44 ∈ qKB 101 from List.Mem.head _)).2 (qB_ok nf xs 182 qc90 (show qc90 ∈ qKB 182 from List.Mem.head _)).2 lk2 hI rfl (fun j y hy => by
    rcases j with _ | j
    · cases hy; exact ⟨rfl, ab _⟩
    · exact absurd hy (by simp))
  obtain ⟨f0, k0⟩ := lh0 hI.1.1.1
  obtain ⟨f1, k1⟩ := lh1 hS1
  unfold leI at hc
  rw [Bool.and_eq_true] at hc
  obtain ⟨z1, rfl⟩ := lint_v hc.1 ha
  obtain ⟨z2, rfl⟩ := lint_v hc.2 hb
  exact ⟨h2, lRt (⟨1, la_r (k := 1) (pc := 302) (st := []) (h := h) rfl hl.2.1⟩) (lRt (⟨5, la_s (pc := 303) (st := (.ref 0 :: [])) (h := h) (j := 1) rfl rfl rfl rfl rfl hl (hi.2 1 (by decide) (by decide))⟩) (lRt (lcall (cl := cl) (p := 309) (as := [.int (lx xs i 1)]) (b := 0) (r := []) rfl rfl rfl rfl k0 rfl e1) (lRt (⟨1, lpop (pc := 312) rfl⟩) (lRt (⟨1, la_r (k := 2) (pc := 313) (st := []) (h := h1) rfl hl.2.2.1⟩) (lRt (⟨5, la_s (pc := 314) (st := (.ref 128 :: [])) (h := h1) (j := 1) rfl rfl rfl rfl rfl hl (hi.2 1 (by decide) (by decide))⟩) (lRt (lcall (cl := cl) (p := 320) (as := [.int (lx xs i 1)]) (b := 128) (r := []) rfl rfl rfl rfl k1 rfl e2) (lRt (⟨1, lpop (pc := 323) rfl⟩) (⟨1, lgoto (pc := 324) (q := 1492) rfl rfl⟩)))))))), hI2, l2⟩
theorem lw3 {nf : Bool} {xs : List Int32} {i : Int32} {cl : zL} {h : zH} (hl : lok cl i) (hi : lin xs i) (hI : lInq h) : ∃ h2 : zH, lR nf xs (327, cl, [], h) (1492, cl, [], h2) ∧ lInq h2 ∧ h2.length = h.length := by
  obtain ⟨r1, h1, r2, h2, e1, e2, hS1, hX1, hI2, l1, l2, E, ρ, a, b, hE, ha, hb, hc⟩ := ltwoq (nf := nf) (xs := xs) (ys := [lx xs i 1, lx xs i 2]) (qB_ok nf xs 102 qc141 (show qc141 ∈ qKB 102 from List.Mem.head _)).2 (qB_ok nf xs 183 qc145 (show qc145 ∈ qKB 183 from List.Mem.head _)).2 lk3 hI rfl (fun j y hy => by
    rcases j with _ | _ | j
    · cases hy; exact ⟨rfl, ab _⟩
    · cases hy; exact ⟨rfl, ab _⟩
    · exact absurd hy (by simp))
  obtain ⟨f0, k0⟩ := lh0 hI.1.1.1
  obtain ⟨f1, k1⟩ := lh1 hS1
  unfold leI at hc
  rw [Bool.and_eq_true] at hc
  obtain ⟨z1, rfl⟩ := lint_v hc.1 ha
  obtain ⟨z2, rfl⟩ := lint_v hc.2 hb
  exact ⟨h2, lRt (⟨1, la_r (k := 1) (pc := 327) (st := []) (h := h) rfl hl.2.1⟩) (lRt (⟨5, la_s (pc := 328) (st := (.ref 0 :: [])) (h := h) (j := 1) rfl rfl rfl rfl rfl hl (hi.2 1 (by decide) (by decide))⟩) (lRt (⟨5, la_s (pc := 334) (st := (.int (lx xs i 1) :: (.ref 0 :: []))) (h := h) (j := 2) rfl rfl rfl rfl rfl hl (hi.2 2 (by decide) (by decide))⟩) (lRt (lcall (cl := cl) (p := 340) (as := [.int (lx xs i 1), .int (lx xs i 2)]) (b := 0) (r := []) rfl rfl rfl rfl k0 rfl e1) (lRt (⟨1, lpop (pc := 343) rfl⟩) (lRt (⟨1, la_r (k := 2) (pc := 344) (st := []) (h := h1) rfl hl.2.2.1⟩) (lRt (⟨5, la_s (pc := 345) (st := (.ref 128 :: [])) (h := h1) (j := 1) rfl rfl rfl rfl rfl hl (hi.2 1 (by decide) (by decide))⟩) (lRt (⟨5, la_s (pc := 351) (st := (.int (lx xs i 1) :: (.ref 128 :: []))) (h := h1) (j := 2) rfl rfl rfl rfl rfl hl (hi.2 2 (by decide) (by decide))⟩) (lRt (lcall (cl := cl) (p := 357) (as := [.int (lx xs i 1), .int (lx xs i 2)]) (b := 128) (r := []) rfl rfl rfl rfl k1 rfl e2) (lRt (⟨1, lpop (pc := 360) rfl⟩) (⟨1, lgoto (pc := 361) (q := 1492) rfl rfl⟩)))))))))), hI2, l2⟩
theorem lw5 {nf : Bool} {xs : List Int32} {i : Int32} {cl : zL} {h : zH} (hl : lok cl i) (hi : lin xs i) (hI : lInq h) : ∃ h2 : zH, lR nf xs (404, cl, [], h) (1492, cl, [], h2) ∧ lInq h2 ∧ h2.length = h.length := by
  obtain ⟨r1, h1, r2, h2, e1, e2, hS1, hX1, hI2, l1, l2, E, ρ, a, b, hE, ha, hb, hc⟩ := ltwoq (nf := nf) (xs := xs) (ys := [lx xs i 1, lx xs i 2]) (qB_ok nf xs 107 qc45 (show qc45 ∈ qKB 107 from List.Mem.head _)).2 (qB_ok nf xs 217 qc118 (show qc118 ∈ qKB 217 from List.Mem.head _)).2 lk5 hI rfl (fun j y hy => by
    rcases j with _ | _ | j
    · cases hy; exact ⟨rfl, ab _⟩
    · cases hy; exact ⟨rfl, ab _⟩
    · exact absurd hy (by simp))
  obtain ⟨f0, k0⟩ := lh0 hI.1.1.1
  obtain ⟨f1, k1⟩ := lh1 hS1
  unfold leI at hc
  rw [Bool.and_eq_true] at hc
  obtain ⟨z1, rfl⟩ := lint_v hc.1 ha
  obtain ⟨z2, rfl⟩ := lint_v hc.2 hb
  exact ⟨h2, lRt (⟨1, la_r (k := 1) (pc := 404) (st := []) (h := h) rfl hl.2.1⟩) (lRt (⟨5, la_s (pc := 405) (st := (.ref 0 :: [])) (h := h) (j := 1) rfl rfl rfl rfl rfl hl (hi.2 1 (by decide) (by decide))⟩) (lRt (⟨5, la_s (pc := 411) (st := (.int (lx xs i 1) :: (.ref 0 :: []))) (h := h) (j := 2) rfl rfl rfl rfl rfl hl (hi.2 2 (by decide) (by decide))⟩) (lRt (lcall (cl := cl) (p := 417) (as := [.int (lx xs i 1), .int (lx xs i 2)]) (b := 0) (r := []) rfl rfl rfl rfl k0 rfl e1) (lRt (⟨1, lpop (pc := 420) rfl⟩) (lRt (⟨1, la_r (k := 2) (pc := 421) (st := []) (h := h1) rfl hl.2.2.1⟩) (lRt (⟨5, la_s (pc := 422) (st := (.ref 128 :: [])) (h := h1) (j := 1) rfl rfl rfl rfl rfl hl (hi.2 1 (by decide) (by decide))⟩) (lRt (⟨5, la_s (pc := 428) (st := (.int (lx xs i 1) :: (.ref 128 :: []))) (h := h1) (j := 2) rfl rfl rfl rfl rfl hl (hi.2 2 (by decide) (by decide))⟩) (lRt (lcall (cl := cl) (p := 434) (as := [.int (lx xs i 1), .int (lx xs i 2)]) (b := 128) (r := []) rfl rfl rfl rfl k1 rfl e2) (lRt (⟨1, lpop (pc := 437) rfl⟩) (⟨1, lgoto (pc := 438) (q := 1492) rfl rfl⟩)))))))))), hI2, l2⟩
theorem lw6 {nf : Bool} {xs : List Int32} {i : Int32} {cl : zL} {h : zH} (hl : lok cl i) (hi : lin xs i) (hI : lInq h) : ∃ h2 : zH, lR nf xs (441, cl, [], h) (1492, cl, [], h2) ∧ lInq h2 ∧ h2.length = h.length := by
  obtain ⟨r1, h1, r2, h2, e1, e2, hS1, hJ2, l1, l2, kp1, kp2, E, ρ, a, b, hE, ha, hb, hc⟩ := ltwoB (nf := nf) (xs := xs) (ys := [lx xs i 1, lx xs i 2]) (qB_ok nf xs 108 qc46 (show qc46 ∈ qKB 108 from List.Mem.head _)).2 (qB_ok nf xs 219 qc152 (show qc152 ∈ qKB 219 from List.Mem.head _)).2 lk6 hI.1 rfl (fun j y hy => by
    rcases j with _ | _ | j
    · cases hy; exact ⟨rfl, ab _⟩
    · cases hy; exact ⟨rfl, ab _⟩
    · exact absurd hy (by simp))
  have hrr := joke_pair hI e1 e2 hS1 kp1 (by decide +kernel) (by decide +kernel)
  have hI2 : lInq h2 := ⟨hJ2, lQ_keep (lQ_keep hI.2 (zEv_KT _ _ _ _ _ _ e1 hI.2.1.1) kp1 (by decide +kernel)) (zEv_KT _ _ _ _ _ _ e2 (zEv_KT _ _ _ _ _ _ e1 hI.2.1.1)) kp2 (by decide +kernel)⟩
  obtain ⟨f0, k0⟩ := lh0 hI.1.1.1
  obtain ⟨f1, k1⟩ := lh1 hS1
  unfold leI at hc
  rw [Bool.and_eq_true] at hc
  obtain ⟨z1, rfl⟩ := lint_v hc.1 ha
  obtain ⟨z2, rfl⟩ := lint_v hc.2 hb
  exact ⟨h2, lRt (⟨1, la_r (k := 1) (pc := 441) (st := []) (h := h) rfl hl.2.1⟩) (lRt (⟨5, la_s (pc := 442) (st := (.ref 0 :: [])) (h := h) (j := 1) rfl rfl rfl rfl rfl hl (hi.2 1 (by decide) (by decide))⟩) (lRt (⟨5, la_s (pc := 448) (st := (.int (lx xs i 1) :: (.ref 0 :: []))) (h := h) (j := 2) rfl rfl rfl rfl rfl hl (hi.2 2 (by decide) (by decide))⟩) (lRt (lcall (cl := cl) (p := 454) (as := [.int (lx xs i 1), .int (lx xs i 2)]) (b := 0) (r := []) rfl rfl rfl rfl k0 rfl e1) (lRt (⟨1, lpop (pc := 457) rfl⟩) (lRt (⟨1, la_r (k := 2) (pc := 458) (st := []) (h := h1) rfl hl.2.2.1⟩) (lRt (⟨5, la_s (pc := 459) (st := (.ref 128 :: [])) (h := h1) (j := 1) rfl rfl rfl rfl rfl hl (hi.2 1 (by decide) (by decide))⟩) (lRt (⟨5, la_s (pc := 465) (st := (.int (lx xs i 1) :: (.ref 128 :: []))) (h := h1) (j := 2) rfl rfl rfl rfl rfl hl (hi.2 2 (by decide) (by decide))⟩) (lRt (lcall (cl := cl) (p := 471) (as := [.int (lx xs i 1), .int (lx xs i 2)]) (b := 128) (r := []) rfl rfl rfl rfl k1 rfl e2) (lRt (⟨1, lpop (pc := 474) rfl⟩) (⟨1, lgoto (pc := 475) (q := 1492) rfl rfl⟩)))))))))), hI2, l2⟩
theorem lw7 {nf : Bool} {xs : List Int32} {i : Int32} {cl : zL} {h : zH} (hl : lok cl i) (hi : lin xs i) (hI : lInq h) : ∃ h2 : zH, lR nf xs (478, cl, [], h) (1492, cl, [], h2) ∧ lInq h2 ∧ h2.length = h.length := by
  obtain ⟨r1, h1, r2, h2, e1, e2, hS1, hX1, hI2, l1, l2, E, ρ, a, b, hE, ha, hb, hc⟩ := ltwoq (nf := nf) (xs := xs) (ys := [lx xs i 1, lx xs i 2]) (qB_ok nf xs 109 qc47 (show qc47 ∈ qKB 109 from List.Mem.head _)).2 (qB_ok nf xs 220 qc120 (show qc120 ∈ qKB 220 from List.Mem.head _)).2 lk7 hI rfl (fun j y hy => by
    rcases j with _ | _ | j
    · cases hy; exact ⟨rfl, ab _⟩
    · cases hy; exact ⟨rfl, ab _⟩
    · exact absurd hy (by simp))
  obtain ⟨f0, k0⟩ := lh0 hI.1.1.1
  obtain ⟨f1, k1⟩ := lh1 hS1
  unfold leI at hc
  rw [Bool.and_eq_true] at hc
  obtain ⟨z1, rfl⟩ := lint_v hc.1 ha
  obtain ⟨z2, rfl⟩ := lint_v hc.2 hb
  exact ⟨h2, lRt (⟨1, la_r (k := 1) (pc := 478) (st := []) (h := h) rfl hl.2.1⟩) (lRt (⟨5, la_s (pc := 479) (st := (.ref 0 :: [])) (h := h) (j := 1) rfl rfl rfl rfl rfl hl (hi.2 1 (by decide) (by decide))⟩) (lRt (⟨5, la_s (pc := 485) (st := (.int (lx xs i 1) :: (.ref 0 :: []))) (h := h) (j := 2) rfl rfl rfl rfl rfl hl (hi.2 2 (by decide) (by decide))⟩) (lRt (lcall (cl := cl) (p := 491) (as := [.int (lx xs i 1), .int (lx xs i 2)]) (b := 0) (r := []) rfl rfl rfl rfl k0 rfl e1) (lRt (⟨1, lpop (pc := 494) rfl⟩) (lRt (⟨1, la_r (k := 2) (pc := 495) (st := []) (h := h1) rfl hl.2.2.1⟩) (lRt (⟨5, la_s (pc := 496) (st := (.ref 128 :: [])) (h := h1) (j := 1) rfl rfl rfl rfl rfl hl (hi.2 1 (by decide) (by decide))⟩) (lRt (⟨5, la_s (pc := 502) (st := (.int (lx xs i 1) :: (.ref 128 :: []))) (h := h1) (j := 2) rfl rfl rfl rfl rfl hl (hi.2 2 (by decide) (by decide))⟩) (lRt (lcall (cl := cl) (p := 508) (as := [.int (lx xs i 1), .int (lx xs i 2)]) (b := 128) (r := []) rfl rfl rfl rfl k1 rfl e2) (lRt (⟨1, lpop (pc := 511) rfl⟩) (⟨1, lgoto (pc := 512) (q := 1492) rfl rfl⟩)))))))))), hI2, l2⟩
theorem lw8 {nf : Bool} {xs : List Int32} {i : Int32} {cl : zL} {h : zH} (hl : lok cl i) (hi : lin xs i) (hI : lInq h) : ∃ h2 : zH, lR nf xs (515, cl, [], h) (1492, cl, [], h2) ∧ lInq h2 ∧ h2.length = h.length := by
  obtain ⟨r1, h1, r2, h2, e1, e2, hS1, hJ2, l1, l2, kp1, kp2, E, ρ, a, b, hE, ha, hb, hc⟩ := ltwoB (nf := nf) (xs := xs) (ys := [lx xs i 1, lx xs i 2]) (qB_ok nf xs 110 qc48 (show qc48 ∈ qKB 110 from List.Mem.head _)).2 (qB_ok nf xs 221 qc121 (show qc121 ∈ qKB 221 from List.Mem.head _)).2 lk8 hI.1 rfl (fun j y hy => by
    rcases j with _ | _ | j
    · cases hy; exact ⟨rfl, ab _⟩
    · cases hy; exact ⟨rfl, ab _⟩
    · exact absurd hy (by simp))
  have hrr := told_pair hI e1 e2 hS1 kp1 (by decide +kernel) (by decide +kernel)
  have hI2 : lInq h2 := ⟨hJ2, lQ_keep (lQ_keep hI.2 (zEv_KT _ _ _ _ _ _ e1 hI.2.1.1) kp1 (by decide +kernel)) (zEv_KT _ _ _ _ _ _ e2 (zEv_KT _ _ _ _ _ _ e1 hI.2.1.1)) kp2 (by decide +kernel)⟩
  obtain ⟨f0, k0⟩ := lh0 hI.1.1.1
  obtain ⟨f1, k1⟩ := lh1 hS1
  unfold leI at hc
  rw [Bool.and_eq_true] at hc
  obtain ⟨z1, rfl⟩ := lint_v hc.1 ha
  obtain ⟨z2, rfl⟩ := lint_v hc.2 hb
  exact ⟨h2, lRt (⟨1, la_r (k := 1) (pc := 515) (st := []) (h := h) rfl hl.2.1⟩) (lRt (⟨5, la_s (pc := 516) (st := (.ref 0 :: [])) (h := h) (j := 1) rfl rfl rfl rfl rfl hl (hi.2 1 (by decide) (by decide))⟩) (lRt (⟨5, la_s (pc := 522) (st := (.int (lx xs i 1) :: (.ref 0 :: []))) (h := h) (j := 2) rfl rfl rfl rfl rfl hl (hi.2 2 (by decide) (by decide))⟩) (lRt (lcall (cl := cl) (p := 528) (as := [.int (lx xs i 1), .int (lx xs i 2)]) (b := 0) (r := []) rfl rfl rfl rfl k0 rfl e1) (lRt (⟨1, lpop (pc := 531) rfl⟩) (lRt (⟨1, la_r (k := 2) (pc := 532) (st := []) (h := h1) rfl hl.2.2.1⟩) (lRt (⟨5, la_s (pc := 533) (st := (.ref 128 :: [])) (h := h1) (j := 1) rfl rfl rfl rfl rfl hl (hi.2 1 (by decide) (by decide))⟩) (lRt (⟨5, la_s (pc := 539) (st := (.int (lx xs i 1) :: (.ref 128 :: []))) (h := h1) (j := 2) rfl rfl rfl rfl rfl hl (hi.2 2 (by decide) (by decide))⟩) (lRt (lcall (cl := cl) (p := 545) (as := [.int (lx xs i 1), .int (lx xs i 2)]) (b := 128) (r := []) rfl rfl rfl rfl k1 rfl e2) (lRt (⟨1, lpop (pc := 548) rfl⟩) (⟨1, lgoto (pc := 549) (q := 1492) rfl rfl⟩)))))))))), hI2, l2⟩
theorem lw9 {nf : Bool} {xs : List Int32} {i : Int32} {cl : zL} {h : zH} (hl : lok cl i) (hi : lin xs i) (hI : lInq h) : ∃ h2 : zH, lR nf xs (552, cl, [], h) (1492, cl, [], h2) ∧ lInq h2 ∧ h2.length = h.length := by
  obtain ⟨r1, h1, r2, h2, e1, e2, hS1, hX1, hI2, l1, l2, E, ρ, a, b, hE, ha, hb, hc⟩ := ltwoq (nf := nf) (xs := xs) (ys := [lx xs i 1]) (qB_ok nf xs 111 qc181 (show qc181 ∈ qKB 111 from List.Mem.head _)).2 (qB_ok nf xs 222 qc153 (show qc153 ∈ qKB 222 from List.Mem.head _)).2 lk9 hI rfl (fun j y hy => by
    rcases j with _ | j
    · cases hy; exact ⟨rfl, ab _⟩
    · exact absurd hy (by simp))
  obtain ⟨f0, k0⟩ := lh0 hI.1.1.1
  obtain ⟨f1, k1⟩ := lh1 hS1
  unfold leI at hc
  rw [Bool.and_eq_true] at hc
  obtain ⟨z1, rfl⟩ := lint_v hc.1 ha
  obtain ⟨z2, rfl⟩ := lint_v hc.2 hb
  exact ⟨h2, lRt (⟨1, la_r (k := 1) (pc := 552) (st := []) (h := h) rfl hl.2.1⟩) (lRt (⟨5, la_s (pc := 553) (st := (.ref 0 :: [])) (h := h) (j := 1) rfl rfl rfl rfl rfl hl (hi.2 1 (by decide) (by decide))⟩) (lRt (lcall (cl := cl) (p := 559) (as := [.int (lx xs i 1)]) (b := 0) (r := []) rfl rfl rfl rfl k0 rfl e1) (lRt (⟨1, lpop (pc := 562) rfl⟩) (lRt (⟨1, la_r (k := 2) (pc := 563) (st := []) (h := h1) rfl hl.2.2.1⟩) (lRt (⟨5, la_s (pc := 564) (st := (.ref 128 :: [])) (h := h1) (j := 1) rfl rfl rfl rfl rfl hl (hi.2 1 (by decide) (by decide))⟩) (lRt (lcall (cl := cl) (p := 570) (as := [.int (lx xs i 1)]) (b := 128) (r := []) rfl rfl rfl rfl k1 rfl e2) (lRt (⟨1, lpop (pc := 573) rfl⟩) (⟨1, lgoto (pc := 574) (q := 1492) rfl rfl⟩)))))))), hI2, l2⟩
theorem lw10 {nf : Bool} {xs : List Int32} {i : Int32} {cl : zL} {h : zH} (hl : lok cl i) (hi : lin xs i) (hI : lInq h) : ∃ (z1 z2 : Int64) (h1 h2 : zH), lR nf xs (577, cl, [], h) (599, cl, [.long z1], h1) ∧ lR nf xs (600, cl, [], h1) (622, cl, [.long z2], h2) ∧ lR nf xs (623, cl, [], h2) (1492, cl, [], h2) ∧ lInq h2 ∧ h1.length = h.length ∧ h2.length = h.length := by
  obtain ⟨r1, h1, r2, h2, e1, e2, hS1, hX1, hI2, l1, l2, E, ρ, a, b, hE, ha, hb, hc⟩ := ltwoq (nf := nf) (xs := xs) (ys := [lx xs i 1, lx xs i 2, lx xs i 3]) (qB_ok nf xs 112 qc182 (show qc182 ∈ qKB 112 from List.Mem.head _)).2 (qB_ok nf xs 223 qc200 (show qc200 ∈ qKB 223 from List.Mem.head _)).2 lk10 hI rfl (fun j y hy => by
    rcases j with _ | _ | _ | j
    · cases hy; exact ⟨rfl, ab _⟩
    · cases hy; exact ⟨rfl, ab _⟩
    · cases hy; exact ⟨rfl, ab _⟩
    · exact absurd hy (by simp))
  obtain ⟨f0, k0⟩ := lh0 hI.1.1.1
  obtain ⟨f1, k1⟩ := lh1 hS1
  unfold leL at hc
  rw [Bool.and_eq_true] at hc
  obtain ⟨z1, rfl⟩ := llng_v hc.1 ha
  obtain ⟨z2, rfl⟩ := llng_v hc.2 hb
  exact ⟨z1, z2, h1, h2, lRt (⟨1, la_r (k := 1) (pc := 577) (st := []) (h := h) rfl hl.2.1⟩) (lRt (⟨5, la_s (pc := 578) (st := (.ref 0 :: [])) (h := h) (j := 1) rfl rfl rfl rfl rfl hl (hi.2 1 (by decide) (by decide))⟩) (lRt (⟨5, la_s (pc := 584) (st := (.int (lx xs i 1) :: (.ref 0 :: []))) (h := h) (j := 2) rfl rfl rfl rfl rfl hl (hi.2 2 (by decide) (by decide))⟩) (lRt (⟨5, la_s (pc := 590) (st := (.int (lx xs i 2) :: (.int (lx xs i 1) :: (.ref 0 :: [])))) (h := h) (j := 3) rfl rfl rfl rfl rfl hl (hi.2 3 (by decide) (by decide))⟩) (lcall (cl := cl) (p := 596) (as := [.int (lx xs i 1), .int (lx xs i 2), .int (lx xs i 3)]) (b := 0) (r := []) rfl rfl rfl rfl k0 rfl e1)))), lRt (⟨1, la_r (k := 2) (pc := 600) (st := []) (h := h1) rfl hl.2.2.1⟩) (lRt (⟨5, la_s (pc := 601) (st := (.ref 128 :: [])) (h := h1) (j := 1) rfl rfl rfl rfl rfl hl (hi.2 1 (by decide) (by decide))⟩) (lRt (⟨5, la_s (pc := 607) (st := (.int (lx xs i 1) :: (.ref 128 :: []))) (h := h1) (j := 2) rfl rfl rfl rfl rfl hl (hi.2 2 (by decide) (by decide))⟩) (lRt (⟨5, la_s (pc := 613) (st := (.int (lx xs i 2) :: (.int (lx xs i 1) :: (.ref 128 :: [])))) (h := h1) (j := 3) rfl rfl rfl rfl rfl hl (hi.2 3 (by decide) (by decide))⟩) (lcall (cl := cl) (p := 619) (as := [.int (lx xs i 1), .int (lx xs i 2), .int (lx xs i 3)]) (b := 128) (r := []) rfl rfl rfl rfl k1 rfl e2)))), ⟨1, lgoto (pc := 623) (q := 1492) rfl rfl⟩, hI2, l1, l2⟩
theorem lw11 {nf : Bool} {xs : List Int32} {i : Int32} {cl : zL} {h : zH} (hl : lok cl i) (hi : lin xs i) (hI : lInq h) : ∃ h2 : zH, lR nf xs (626, cl, [], h) (1492, cl, [], h2) ∧ lInq h2 ∧ h2.length = h.length := by
  obtain ⟨r1, h1, r2, h2, e1, e2, hS1, hJ2, l1, l2, kp1, kp2, E, ρ, a, b, hE, ha, hb, hc⟩ := ltwoB (nf := nf) (xs := xs) (ys := [lx xs i 1, lnz (lx xs i 2)]) (qB_ok nf xs 114 qc183 (show qc183 ∈ qKB 114 from List.Mem.head _)).2 (qB_ok nf xs 225 qc201 (show qc201 ∈ qKB 225 from List.Mem.head _)).2 lk11 hI.1 rfl (fun j y hy => by
    rcases j with _ | _ | j
    · cases hy; exact ⟨rfl, ab _⟩
    · cases hy; exact ⟨rfl, lnz_b _⟩
    · exact absurd hy (by simp))
  obtain ⟨hrr, hZ2⟩ := ears_pair hI (lnz01 _) e1 e2 hS1 kp1 kp2 (by decide +kernel) (by decide +kernel) (by decide +kernel) (by decide +kernel)
  have hI2 : lInq h2 := ⟨hJ2, hZ2⟩
  obtain ⟨f0, k0⟩ := lh0 hI.1.1.1
  obtain ⟨f1, k1⟩ := lh1 hS1
  unfold leI at hc
  rw [Bool.and_eq_true] at hc
  obtain ⟨z1, rfl⟩ := lint_v hc.1 ha
  obtain ⟨z2, rfl⟩ := lint_v hc.2 hb
  exact ⟨h2, lRt (⟨1, la_r (k := 1) (pc := 626) (st := []) (h := h) rfl hl.2.1⟩) (lRt (⟨5, la_s (pc := 627) (st := (.ref 0 :: [])) (h := h) (j := 1) rfl rfl rfl rfl rfl hl (hi.2 1 (by decide) (by decide))⟩) (lRt (⟨5, la_s (pc := 633) (st := (.int (lx xs i 1) :: (.ref 0 :: []))) (h := h) (j := 2) rfl rfl rfl rfl rfl hl (hi.2 2 (by decide) (by decide))⟩) (lRt (lbool (pc := 639) (st := (.int (lx xs i 1) :: (.ref 0 :: []))) (h := h) (x := lx xs i 2) rfl rfl rfl rfl) (lRt (lcall (cl := cl) (p := 647) (as := [.int (lx xs i 1), .int (lnz (lx xs i 2))]) (b := 0) (r := []) rfl rfl rfl rfl k0 rfl e1) (lRt (⟨1, lpop (pc := 650) rfl⟩) (lRt (⟨1, la_r (k := 2) (pc := 651) (st := []) (h := h1) rfl hl.2.2.1⟩) (lRt (⟨5, la_s (pc := 652) (st := (.ref 128 :: [])) (h := h1) (j := 1) rfl rfl rfl rfl rfl hl (hi.2 1 (by decide) (by decide))⟩) (lRt (⟨5, la_s (pc := 658) (st := (.int (lx xs i 1) :: (.ref 128 :: []))) (h := h1) (j := 2) rfl rfl rfl rfl rfl hl (hi.2 2 (by decide) (by decide))⟩) (lRt (lbool (pc := 664) (st := (.int (lx xs i 1) :: (.ref 128 :: []))) (h := h1) (x := lx xs i 2) rfl rfl rfl rfl) (lRt (lcall (cl := cl) (p := 672) (as := [.int (lx xs i 1), .int (lnz (lx xs i 2))]) (b := 128) (r := []) rfl rfl rfl rfl k1 rfl e2) (lRt (⟨1, lpop (pc := 675) rfl⟩) (⟨1, lgoto (pc := 676) (q := 1492) rfl rfl⟩)))))))))))), hI2, l2⟩
theorem lw12 {nf : Bool} {xs : List Int32} {i : Int32} {cl : zL} {h : zH} (hl : lok cl i) (hi : lin xs i) (hI : lInq h) : ∃ h2 : zH, lR nf xs (679, cl, [], h) (1492, cl, [], h2) ∧ lInq h2 ∧ h2.length = h.length := by
  obtain ⟨r1, h1, r2, h2, e1, e2, hS1, hJ2, l1, l2, kp1, kp2, E, ρ, a, b, hE, ha, hb, hc⟩ := ltwoB (nf := nf) (xs := xs) (ys := [lx xs i 1, lx xs i 2]) (qB_ok nf xs 115 qc184 (show qc184 ∈ qKB 115 from List.Mem.head _)).2 (qB_ok nf xs 226 qc202 (show qc202 ∈ qKB 226 from List.Mem.head _)).2 lk12 hI.1 rfl (fun j y hy => by
    rcases j with _ | _ | j
    · cases hy; exact ⟨rfl, ab _⟩
    · cases hy; exact ⟨rfl, ab _⟩
    · exact absurd hy (by simp))
  obtain ⟨hrr, hZ2⟩ := seat_pair hI e1 e2 hS1 kp1 kp2 (by decide +kernel) (by decide +kernel) (by decide +kernel) (by decide +kernel)
  have hI2 : lInq h2 := ⟨hJ2, hZ2⟩
  obtain ⟨f0, k0⟩ := lh0 hI.1.1.1
  obtain ⟨f1, k1⟩ := lh1 hS1
  unfold leI at hc
  rw [Bool.and_eq_true] at hc
  obtain ⟨z1, rfl⟩ := lint_v hc.1 ha
  obtain ⟨z2, rfl⟩ := lint_v hc.2 hb
  exact ⟨h2, lRt (⟨1, la_r (k := 1) (pc := 679) (st := []) (h := h) rfl hl.2.1⟩) (lRt (⟨5, la_s (pc := 680) (st := (.ref 0 :: [])) (h := h) (j := 1) rfl rfl rfl rfl rfl hl (hi.2 1 (by decide) (by decide))⟩) (lRt (⟨5, la_s (pc := 686) (st := (.int (lx xs i 1) :: (.ref 0 :: []))) (h := h) (j := 2) rfl rfl rfl rfl rfl hl (hi.2 2 (by decide) (by decide))⟩) (lRt (lcall (cl := cl) (p := 692) (as := [.int (lx xs i 1), .int (lx xs i 2)]) (b := 0) (r := []) rfl rfl rfl rfl k0 rfl e1) (lRt (⟨1, lpop (pc := 695) rfl⟩) (lRt (⟨1, la_r (k := 2) (pc := 696) (st := []) (h := h1) rfl hl.2.2.1⟩) (lRt (⟨5, la_s (pc := 697) (st := (.ref 128 :: [])) (h := h1) (j := 1) rfl rfl rfl rfl rfl hl (hi.2 1 (by decide) (by decide))⟩) (lRt (⟨5, la_s (pc := 703) (st := (.int (lx xs i 1) :: (.ref 128 :: []))) (h := h1) (j := 2) rfl rfl rfl rfl rfl hl (hi.2 2 (by decide) (by decide))⟩) (lRt (lcall (cl := cl) (p := 709) (as := [.int (lx xs i 1), .int (lx xs i 2)]) (b := 128) (r := []) rfl rfl rfl rfl k1 rfl e2) (lRt (⟨1, lpop (pc := 712) rfl⟩) (⟨1, lgoto (pc := 713) (q := 1492) rfl rfl⟩)))))))))), hI2, l2⟩
theorem lw13 {nf : Bool} {xs : List Int32} {i : Int32} {cl : zL} {h : zH} (hl : lok cl i) (hi : lin xs i) (hI : lInq h) : ∃ h2 : zH, lR nf xs (716, cl, [], h) (1492, cl, [], h2) ∧ lInq h2 ∧ h2.length = h.length := by
  obtain ⟨r1, h1, r2, h2, e1, e2, hS1, hJ2, l1, l2, kp1, kp2, E, ρ, a, b, hE, ha, hb, hc⟩ := ltwoB (nf := nf) (xs := xs) (ys := [lx xs i 1, lx xs i 2, lnz (lx xs i 3)]) (qB_ok nf xs 116 qc185 (show qc185 ∈ qKB 116 from List.Mem.head _)).2 (qB_ok nf xs 227 qc203 (show qc203 ∈ qKB 227 from List.Mem.head _)).2 lk13 hI.1 rfl (fun j y hy => by
    rcases j with _ | _ | _ | j
    · cases hy; exact ⟨rfl, ab _⟩
    · cases hy; exact ⟨rfl, ab _⟩
    · cases hy; exact ⟨rfl, lnz_b _⟩
    · exact absurd hy (by simp))
  obtain ⟨hrr, hZ2⟩ := tell_pair hI (lnz01 _) e1 e2 hS1 kp1 kp2 (by decide +kernel) (by decide +kernel) (by decide +kernel) (by decide +kernel)
  have hI2 : lInq h2 := ⟨hJ2, hZ2⟩
  obtain ⟨f0, k0⟩ := lh0 hI.1.1.1
  obtain ⟨f1, k1⟩ := lh1 hS1
  unfold leI at hc
  rw [Bool.and_eq_true] at hc
  obtain ⟨z1, rfl⟩ := lint_v hc.1 ha
  obtain ⟨z2, rfl⟩ := lint_v hc.2 hb
  exact ⟨h2, lRt (⟨1, la_r (k := 1) (pc := 716) (st := []) (h := h) rfl hl.2.1⟩) (lRt (⟨5, la_s (pc := 717) (st := (.ref 0 :: [])) (h := h) (j := 1) rfl rfl rfl rfl rfl hl (hi.2 1 (by decide) (by decide))⟩) (lRt (⟨5, la_s (pc := 723) (st := (.int (lx xs i 1) :: (.ref 0 :: []))) (h := h) (j := 2) rfl rfl rfl rfl rfl hl (hi.2 2 (by decide) (by decide))⟩) (lRt (⟨5, la_s (pc := 729) (st := (.int (lx xs i 2) :: (.int (lx xs i 1) :: (.ref 0 :: [])))) (h := h) (j := 3) rfl rfl rfl rfl rfl hl (hi.2 3 (by decide) (by decide))⟩) (lRt (lbool (pc := 735) (st := (.int (lx xs i 2) :: (.int (lx xs i 1) :: (.ref 0 :: [])))) (h := h) (x := lx xs i 3) rfl rfl rfl rfl) (lRt (lcall (cl := cl) (p := 743) (as := [.int (lx xs i 1), .int (lx xs i 2), .int (lnz (lx xs i 3))]) (b := 0) (r := []) rfl rfl rfl rfl k0 rfl e1) (lRt (⟨1, lpop (pc := 746) rfl⟩) (lRt (⟨1, la_r (k := 2) (pc := 747) (st := []) (h := h1) rfl hl.2.2.1⟩) (lRt (⟨5, la_s (pc := 748) (st := (.ref 128 :: [])) (h := h1) (j := 1) rfl rfl rfl rfl rfl hl (hi.2 1 (by decide) (by decide))⟩) (lRt (⟨5, la_s (pc := 754) (st := (.int (lx xs i 1) :: (.ref 128 :: []))) (h := h1) (j := 2) rfl rfl rfl rfl rfl hl (hi.2 2 (by decide) (by decide))⟩) (lRt (⟨5, la_s (pc := 760) (st := (.int (lx xs i 2) :: (.int (lx xs i 1) :: (.ref 128 :: [])))) (h := h1) (j := 3) rfl rfl rfl rfl rfl hl (hi.2 3 (by decide) (by decide))⟩) (lRt (lbool (pc := 766) (st := (.int (lx xs i 2) :: (.int (lx xs i 1) :: (.ref 128 :: [])))) (h := h1) (x := lx xs i 3) rfl rfl rfl rfl) (lRt (lcall (cl := cl) (p := 774) (as := [.int (lx xs i 1), .int (lx xs i 2), .int (lnz (lx xs i 3))]) (b := 128) (r := []) rfl rfl rfl rfl k1 rfl e2) (lRt (⟨1, lpop (pc := 777) rfl⟩) (⟨1, lgoto (pc := 778) (q := 1492) rfl rfl⟩)))))))))))))), hI2, l2⟩
theorem lw14 {nf : Bool} {xs : List Int32} {i : Int32} {cl : zL} {h : zH} (hl : lok cl i) (hi : lin xs i) (hI : lInq h) : ∃ h2 : zH, lR nf xs (781, cl, [], h) (1492, cl, [], h2) ∧ lInq h2 ∧ h2.length = h.length := by
  obtain ⟨r1, h1, r2, h2, e1, e2, hS1, hJ2, l1, l2, kp1, kp2, E, ρ, a, b, hE, ha, hb, hc⟩ := ltwoB (nf := nf) (xs := xs) (ys := [lx xs i 1]) (qB_ok nf xs 120 qc238 (show qc238 ∈ qKB 120 from List.Mem.head _)).2 (qB_ok nf xs 228 qc234 (show qc234 ∈ qKB 228 from List.Mem.head _)).2 lk14 hI.1 rfl (fun j y hy => by
    rcases j with _ | j
    · cases hy; exact ⟨rfl, ab _⟩
    · exact absurd hy (by simp))
  have hH1 := lmid (nf := nf) (xs := xs) (ys := [lx xs i 1]) (qB_ok nf xs 120 qc238 (show qc238 ∈ qKB 120 from List.Mem.head _)).2 lkH14 hI.1 rfl (fun j y hy => by
    rcases j with _ | j
    · cases hy; exact ⟨rfl, ab _⟩
    · exact absurd hy (by simp)) e1
  obtain ⟨hrr, hZ2⟩ := go_pair (by decide) hI e1 e2 hH1 kp1 kp2 (by decide +kernel) (by decide +kernel) (by decide +kernel) (by decide +kernel) (by decide +kernel) (by decide +kernel)
  have hI2 : lInq h2 := ⟨hJ2, hZ2⟩
  obtain ⟨f0, k0⟩ := lh0 hI.1.1.1
  obtain ⟨f1, k1⟩ := lh1 hS1
  unfold leI at hc
  rw [Bool.and_eq_true] at hc
  obtain ⟨z1, rfl⟩ := lint_v hc.1 ha
  obtain ⟨z2, rfl⟩ := lint_v hc.2 hb
  exact ⟨h2, lRt (⟨1, la_r (k := 1) (pc := 781) (st := []) (h := h) rfl hl.2.1⟩) (lRt (⟨5, la_s (pc := 782) (st := (.ref 0 :: [])) (h := h) (j := 1) rfl rfl rfl rfl rfl hl (hi.2 1 (by decide) (by decide))⟩) (lRt (lcall (cl := cl) (p := 788) (as := [.int (lx xs i 1)]) (b := 0) (r := []) rfl rfl rfl rfl k0 rfl e1) (lRt (⟨1, lpop (pc := 791) rfl⟩) (lRt (⟨1, la_r (k := 2) (pc := 792) (st := []) (h := h1) rfl hl.2.2.1⟩) (lRt (⟨5, la_s (pc := 793) (st := (.ref 128 :: [])) (h := h1) (j := 1) rfl rfl rfl rfl rfl hl (hi.2 1 (by decide) (by decide))⟩) (lRt (lcall (cl := cl) (p := 799) (as := [.int (lx xs i 1)]) (b := 128) (r := []) rfl rfl rfl rfl k1 rfl e2) (lRt (⟨1, lpop (pc := 802) rfl⟩) (⟨1, lgoto (pc := 803) (q := 1492) rfl rfl⟩)))))))), hI2, l2⟩
theorem lw15 {nf : Bool} {xs : List Int32} {i : Int32} {cl : zL} {h : zH} (hl : lok cl i) (hi : lin xs i) (hI : lInq h) : ∃ h2 : zH, lR nf xs (806, cl, [], h) (1492, cl, [], h2) ∧ lInq h2 ∧ h2.length = h.length := by
  obtain ⟨r1, h1, r2, h2, e1, e2, hS1, hX1, hI2, l1, l2, E, ρ, a, b, hE, ha, hb, hc⟩ := ltwoq (nf := nf) (xs := xs) (ys := [lx xs i 1, lx xs i 2]) (qB_ok nf xs 122 qc253 (show qc253 ∈ qKB 122 from List.Mem.head _)).2 (qB_ok nf xs 229 qc248 (show qc248 ∈ qKB 229 from List.Mem.head _)).2 lk15 hI rfl (fun j y hy => by
    rcases j with _ | _ | j
    · cases hy; exact ⟨rfl, ab _⟩
    · cases hy; exact ⟨rfl, ab _⟩
    · exact absurd hy (by simp))
  obtain ⟨f0, k0⟩ := lh0 hI.1.1.1
  obtain ⟨f1, k1⟩ := lh1 hS1
  unfold leI at hc
  rw [Bool.and_eq_true] at hc
  obtain ⟨z1, rfl⟩ := lint_v hc.1 ha
  obtain ⟨z2, rfl⟩ := lint_v hc.2 hb
  exact ⟨h2, lRt (⟨1, la_r (k := 1) (pc := 806) (st := []) (h := h) rfl hl.2.1⟩) (lRt (⟨5, la_s (pc := 807) (st := (.ref 0 :: [])) (h := h) (j := 1) rfl rfl rfl rfl rfl hl (hi.2 1 (by decide) (by decide))⟩) (lRt (⟨5, la_s (pc := 813) (st := (.int (lx xs i 1) :: (.ref 0 :: []))) (h := h) (j := 2) rfl rfl rfl rfl rfl hl (hi.2 2 (by decide) (by decide))⟩) (lRt (lcall (cl := cl) (p := 819) (as := [.int (lx xs i 1), .int (lx xs i 2)]) (b := 0) (r := []) rfl rfl rfl rfl k0 rfl e1) (lRt (⟨1, lpop (pc := 822) rfl⟩) (lRt (⟨1, la_r (k := 2) (pc := 823) (st := []) (h := h1) rfl hl.2.2.1⟩) (lRt (⟨5, la_s (pc := 824) (st := (.ref 128 :: [])) (h := h1) (j := 1) rfl rfl rfl rfl rfl hl (hi.2 1 (by decide) (by decide))⟩) (lRt (⟨5, la_s (pc := 830) (st := (.int (lx xs i 1) :: (.ref 128 :: []))) (h := h1) (j := 2) rfl rfl rfl rfl rfl hl (hi.2 2 (by decide) (by decide))⟩) (lRt (lcall (cl := cl) (p := 836) (as := [.int (lx xs i 1), .int (lx xs i 2)]) (b := 128) (r := []) rfl rfl rfl rfl k1 rfl e2) (lRt (⟨1, lpop (pc := 839) rfl⟩) (⟨1, lgoto (pc := 840) (q := 1492) rfl rfl⟩)))))))))), hI2, l2⟩
theorem lw16 {nf : Bool} {xs : List Int32} {i : Int32} {cl : zL} {h : zH} (hl : lok cl i) (hi : lin xs i) (hI : lInq h) : ∃ h2 : zH, lR nf xs (843, cl, [], h) (1492, cl, [], h2) ∧ lInq h2 ∧ h2.length = h.length := by
  obtain ⟨r1, h1, r2, h2, e1, e2, hS1, hX1, hI2, l1, l2, E, ρ, a, b, hE, ha, hb, hc⟩ := ltwoq (nf := nf) (xs := xs) (ys := [lx xs i 1]) (qB_ok nf xs 123 qc240 (show qc240 ∈ qKB 123 from List.Mem.head _)).2 (qB_ok nf xs 230 qc235 (show qc235 ∈ qKB 230 from List.Mem.head _)).2 lk16 hI rfl (fun j y hy => by
    rcases j with _ | j
    · cases hy; exact ⟨rfl, ab _⟩
    · exact absurd hy (by simp))
  obtain ⟨f0, k0⟩ := lh0 hI.1.1.1
  obtain ⟨f1, k1⟩ := lh1 hS1
  unfold leI at hc
  rw [Bool.and_eq_true] at hc
  obtain ⟨z1, rfl⟩ := lint_v hc.1 ha
  obtain ⟨z2, rfl⟩ := lint_v hc.2 hb
  exact ⟨h2, lRt (⟨1, la_r (k := 1) (pc := 843) (st := []) (h := h) rfl hl.2.1⟩) (lRt (⟨5, la_s (pc := 844) (st := (.ref 0 :: [])) (h := h) (j := 1) rfl rfl rfl rfl rfl hl (hi.2 1 (by decide) (by decide))⟩) (lRt (lcall (cl := cl) (p := 850) (as := [.int (lx xs i 1)]) (b := 0) (r := []) rfl rfl rfl rfl k0 rfl e1) (lRt (⟨1, lpop (pc := 853) rfl⟩) (lRt (⟨1, la_r (k := 2) (pc := 854) (st := []) (h := h1) rfl hl.2.2.1⟩) (lRt (⟨5, la_s (pc := 855) (st := (.ref 128 :: [])) (h := h1) (j := 1) rfl rfl rfl rfl rfl hl (hi.2 1 (by decide) (by decide))⟩) (lRt (lcall (cl := cl) (p := 861) (as := [.int (lx xs i 1)]) (b := 128) (r := []) rfl rfl rfl rfl k1 rfl e2) (lRt (⟨1, lpop (pc := 864) rfl⟩) (⟨1, lgoto (pc := 865) (q := 1492) rfl rfl⟩)))))))), hI2, l2⟩
theorem lw17 {nf : Bool} {xs : List Int32} {i : Int32} {cl : zL} {h : zH} (hl : lok cl i) (hi : lin xs i) (hI : lInq h) : ∃ h2 : zH, lR nf xs (868, cl, [], h) (1492, cl, [], h2) ∧ lInq h2 ∧ h2.length = h.length := by
  obtain ⟨r1, h1, r2, h2, e1, e2, hS1, hX1, hI2, l1, l2, E, ρ, a, b, hE, ha, hb, hc⟩ := ltwoq (nf := nf) (xs := xs) (ys := []) (qB_ok nf xs 124 qc230 (show qc230 ∈ qKB 124 from List.Mem.head _)).2 (qB_ok nf xs 231 qc236 (show qc236 ∈ qKB 231 from List.Mem.head _)).2 lk17 hI rfl (fun j y hy => by
    exact absurd hy (by simp))
  obtain ⟨f0, k0⟩ := lh0 hI.1.1.1
  obtain ⟨f1, k1⟩ := lh1 hS1
  unfold leI at hc
  rw [Bool.and_eq_true] at hc
  obtain ⟨z1, rfl⟩ := lint_v hc.1 ha
  obtain ⟨z2, rfl⟩ := lint_v hc.2 hb
  exact ⟨h2, lRt (⟨1, la_r (k := 1) (pc := 868) (st := []) (h := h) rfl hl.2.1⟩) (lRt (lcall (cl := cl) (p := 869) (as := []) (b := 0) (r := []) rfl rfl rfl rfl k0 rfl e1) (lRt (⟨1, lpop (pc := 872) rfl⟩) (lRt (⟨1, la_r (k := 2) (pc := 873) (st := []) (h := h1) rfl hl.2.2.1⟩) (lRt (lcall (cl := cl) (p := 874) (as := []) (b := 128) (r := []) rfl rfl rfl rfl k1 rfl e2) (lRt (⟨1, lpop (pc := 877) rfl⟩) (⟨1, lgoto (pc := 878) (q := 1492) rfl rfl⟩)))))), hI2, l2⟩
theorem lw18 {nf : Bool} {xs : List Int32} {i : Int32} {cl : zL} {h : zH} (hl : lok cl i) (hi : lin xs i) (hI : lInq h) : ∃ h2 : zH, lR nf xs (881, cl, [], h) (1492, cl, [], h2) ∧ lInq h2 ∧ h2.length = h.length := by
  obtain ⟨r1, h1, r2, h2, e1, e2, hS1, hX1, hI2, l1, l2, E, ρ, a, b, hE, ha, hb, hc⟩ := ltwoq (nf := nf) (xs := xs) (ys := [lx xs i 1, lx xs i 2]) (qB_ok nf xs 128 qc255 (show qc255 ∈ qKB 128 from List.Mem.head _)).2 (qB_ok nf xs 234 qc264 (show qc264 ∈ qKB 234 from List.Mem.head _)).2 lk18 hI rfl (fun j y hy => by
    rcases j with _ | _ | j
    · cases hy; exact ⟨rfl, ab _⟩
    · cases hy; exact ⟨rfl, ab _⟩
    · exact absurd hy (by simp))
  obtain ⟨f0, k0⟩ := lh0 hI.1.1.1
  obtain ⟨f1, k1⟩ := lh1 hS1
  unfold leI at hc
  rw [Bool.and_eq_true] at hc
  obtain ⟨z1, rfl⟩ := lint_v hc.1 ha
  obtain ⟨z2, rfl⟩ := lint_v hc.2 hb
  exact ⟨h2, lRt (⟨1, la_r (k := 1) (pc := 881) (st := []) (h := h) rfl hl.2.1⟩) (lRt (⟨5, la_s (pc := 882) (st := (.ref 0 :: [])) (h := h) (j := 1) rfl rfl rfl rfl rfl hl (hi.2 1 (by decide) (by decide))⟩) (lRt (⟨5, la_s (pc := 888) (st := (.int (lx xs i 1) :: (.ref 0 :: []))) (h := h) (j := 2) rfl rfl rfl rfl rfl hl (hi.2 2 (by decide) (by decide))⟩) (lRt (lcall (cl := cl) (p := 894) (as := [.int (lx xs i 1), .int (lx xs i 2)]) (b := 0) (r := []) rfl rfl rfl rfl k0 rfl e1) (lRt (⟨1, lpop (pc := 897) rfl⟩) (lRt (⟨1, la_r (k := 2) (pc := 898) (st := []) (h := h1) rfl hl.2.2.1⟩) (lRt (⟨5, la_s (pc := 899) (st := (.ref 128 :: [])) (h := h1) (j := 1) rfl rfl rfl rfl rfl hl (hi.2 1 (by decide) (by decide))⟩) (lRt (⟨5, la_s (pc := 905) (st := (.int (lx xs i 1) :: (.ref 128 :: []))) (h := h1) (j := 2) rfl rfl rfl rfl rfl hl (hi.2 2 (by decide) (by decide))⟩) (lRt (lcall (cl := cl) (p := 911) (as := [.int (lx xs i 1), .int (lx xs i 2)]) (b := 128) (r := []) rfl rfl rfl rfl k1 rfl e2) (lRt (⟨1, lpop (pc := 914) rfl⟩) (⟨1, lgoto (pc := 915) (q := 1492) rfl rfl⟩)))))))))), hI2, l2⟩
theorem lw19 {nf : Bool} {xs : List Int32} {i : Int32} {cl : zL} {h : zH} (hl : lok cl i) (hi : lin xs i) (hI : lInq h) : ∃ h2 : zH, lR nf xs (918, cl, [], h) (1492, cl, [], h2) ∧ lInq h2 ∧ h2.length = h.length := by
  obtain ⟨r1, h1, r2, h2, e1, e2, hS1, hX1, hI2, l1, l2, E, ρ, a, b, hE, ha, hb, hc⟩ := ltwoq (nf := nf) (xs := xs) (ys := [lx xs i 1, lx xs i 2, lx xs i 3]) (qB_ok nf xs 129 qc256 (show qc256 ∈ qKB 129 from List.Mem.head _)).2 (qB_ok nf xs 235 qc265 (show qc265 ∈ qKB 235 from List.Mem.head _)).2 lk19 hI rfl (fun j y hy => by
    rcases j with _ | _ | _ | j
    · cases hy; exact ⟨rfl, ab _⟩
    · cases hy; exact ⟨rfl, ab _⟩
    · cases hy; exact ⟨rfl, ab _⟩
    · exact absurd hy (by simp))
  obtain ⟨f0, k0⟩ := lh0 hI.1.1.1
  obtain ⟨f1, k1⟩ := lh1 hS1
  unfold leI at hc
  rw [Bool.and_eq_true] at hc
  obtain ⟨z1, rfl⟩ := lint_v hc.1 ha
  obtain ⟨z2, rfl⟩ := lint_v hc.2 hb
  exact ⟨h2, lRt (⟨1, la_r (k := 1) (pc := 918) (st := []) (h := h) rfl hl.2.1⟩) (lRt (⟨5, la_s (pc := 919) (st := (.ref 0 :: [])) (h := h) (j := 1) rfl rfl rfl rfl rfl hl (hi.2 1 (by decide) (by decide))⟩) (lRt (⟨5, la_s (pc := 925) (st := (.int (lx xs i 1) :: (.ref 0 :: []))) (h := h) (j := 2) rfl rfl rfl rfl rfl hl (hi.2 2 (by decide) (by decide))⟩) (lRt (⟨5, la_s (pc := 931) (st := (.int (lx xs i 2) :: (.int (lx xs i 1) :: (.ref 0 :: [])))) (h := h) (j := 3) rfl rfl rfl rfl rfl hl (hi.2 3 (by decide) (by decide))⟩) (lRt (lcall (cl := cl) (p := 937) (as := [.int (lx xs i 1), .int (lx xs i 2), .int (lx xs i 3)]) (b := 0) (r := []) rfl rfl rfl rfl k0 rfl e1) (lRt (⟨1, lpop (pc := 940) rfl⟩) (lRt (⟨1, la_r (k := 2) (pc := 941) (st := []) (h := h1) rfl hl.2.2.1⟩) (lRt (⟨5, la_s (pc := 942) (st := (.ref 128 :: [])) (h := h1) (j := 1) rfl rfl rfl rfl rfl hl (hi.2 1 (by decide) (by decide))⟩) (lRt (⟨5, la_s (pc := 948) (st := (.int (lx xs i 1) :: (.ref 128 :: []))) (h := h1) (j := 2) rfl rfl rfl rfl rfl hl (hi.2 2 (by decide) (by decide))⟩) (lRt (⟨5, la_s (pc := 954) (st := (.int (lx xs i 2) :: (.int (lx xs i 1) :: (.ref 128 :: [])))) (h := h1) (j := 3) rfl rfl rfl rfl rfl hl (hi.2 3 (by decide) (by decide))⟩) (lRt (lcall (cl := cl) (p := 960) (as := [.int (lx xs i 1), .int (lx xs i 2), .int (lx xs i 3)]) (b := 128) (r := []) rfl rfl rfl rfl k1 rfl e2) (lRt (⟨1, lpop (pc := 963) rfl⟩) (⟨1, lgoto (pc := 964) (q := 1492) rfl rfl⟩)))))))))))), hI2, l2⟩
theorem lw20 {nf : Bool} {xs : List Int32} {i : Int32} {cl : zL} {h : zH} (hl : lok cl i) (hi : lin xs i) (hI : lInq h) : ∃ h2 : zH, lR nf xs (967, cl, [], h) (1492, cl, [], h2) ∧ lInq h2 ∧ h2.length = h.length := by
  obtain ⟨r1, h1, r2, h2, e1, e2, hS1, hX1, hI2, l1, l2, E, ρ, a, b, hE, ha, hb, hc⟩ := ltwoq (nf := nf) (xs := xs) (ys := [lx xs i 1]) (qB_ok nf xs 130 qc257 (show qc257 ∈ qKB 130 from List.Mem.head _)).2 (qB_ok nf xs 237 qc274 (show qc274 ∈ qKB 237 from List.Mem.head _)).2 lk20 hI rfl (fun j y hy => by
    rcases j with _ | j
    · cases hy; exact ⟨rfl, ab _⟩
    · exact absurd hy (by simp))
  obtain ⟨f0, k0⟩ := lh0 hI.1.1.1
  obtain ⟨f1, k1⟩ := lh1 hS1
  unfold leI at hc
  rw [Bool.and_eq_true] at hc
  obtain ⟨z1, rfl⟩ := lint_v hc.1 ha
  obtain ⟨z2, rfl⟩ := lint_v hc.2 hb
  exact ⟨h2, lRt (⟨1, la_r (k := 1) (pc := 967) (st := []) (h := h) rfl hl.2.1⟩) (lRt (⟨5, la_s (pc := 968) (st := (.ref 0 :: [])) (h := h) (j := 1) rfl rfl rfl rfl rfl hl (hi.2 1 (by decide) (by decide))⟩) (lRt (lcall (cl := cl) (p := 974) (as := [.int (lx xs i 1)]) (b := 0) (r := []) rfl rfl rfl rfl k0 rfl e1) (lRt (⟨1, lpop (pc := 977) rfl⟩) (lRt (⟨1, la_r (k := 2) (pc := 978) (st := []) (h := h1) rfl hl.2.2.1⟩) (lRt (⟨5, la_s (pc := 979) (st := (.ref 128 :: [])) (h := h1) (j := 1) rfl rfl rfl rfl rfl hl (hi.2 1 (by decide) (by decide))⟩) (lRt (lcall (cl := cl) (p := 985) (as := [.int (lx xs i 1)]) (b := 128) (r := []) rfl rfl rfl rfl k1 rfl e2) (lRt (⟨1, lpop (pc := 988) rfl⟩) (⟨1, lgoto (pc := 989) (q := 1492) rfl rfl⟩)))))))), hI2, l2⟩
theorem lw21 {nf : Bool} {xs : List Int32} {i : Int32} {cl : zL} {h : zH} (hl : lok cl i) (hi : lin xs i) (hI : lInq h) : ∃ h2 : zH, lR nf xs (992, cl, [], h) (1492, cl, [], h2) ∧ lInq h2 ∧ h2.length = h.length := by
  obtain ⟨r1, h1, r2, h2, e1, e2, hS1, hX1, hI2, l1, l2, E, ρ, a, b, hE, ha, hb, hc⟩ := ltwoq (nf := nf) (xs := xs) (ys := [lx xs i 1]) (qB_ok nf xs 134 qc258 (show qc258 ∈ qKB 134 from List.Mem.head _)).2 (qB_ok nf xs 238 qc266 (show qc266 ∈ qKB 238 from List.Mem.head _)).2 lk21 hI rfl (fun j y hy => by
    rcases j with _ | j
    · cases hy; exact ⟨rfl, ab _⟩
    · exact absurd hy (by simp))
  obtain ⟨f0, k0⟩ := lh0 hI.1.1.1
  obtain ⟨f1, k1⟩ := lh1 hS1
  unfold leI at hc
  rw [Bool.and_eq_true] at hc
  obtain ⟨z1, rfl⟩ := lint_v hc.1 ha
  obtain ⟨z2, rfl⟩ := lint_v hc.2 hb
  exact ⟨h2, lRt (⟨1, la_r (k := 1) (pc := 992) (st := []) (h := h) rfl hl.2.1⟩) (lRt (⟨5, la_s (pc := 993) (st := (.ref 0 :: [])) (h := h) (j := 1) rfl rfl rfl rfl rfl hl (hi.2 1 (by decide) (by decide))⟩) (lRt (lcall (cl := cl) (p := 999) (as := [.int (lx xs i 1)]) (b := 0) (r := []) rfl rfl rfl rfl k0 rfl e1) (lRt (⟨1, lpop (pc := 1002) rfl⟩) (lRt (⟨1, la_r (k := 2) (pc := 1003) (st := []) (h := h1) rfl hl.2.2.1⟩) (lRt (⟨5, la_s (pc := 1004) (st := (.ref 128 :: [])) (h := h1) (j := 1) rfl rfl rfl rfl rfl hl (hi.2 1 (by decide) (by decide))⟩) (lRt (lcall (cl := cl) (p := 1010) (as := [.int (lx xs i 1)]) (b := 128) (r := []) rfl rfl rfl rfl k1 rfl e2) (lRt (⟨1, lpop (pc := 1013) rfl⟩) (⟨1, lgoto (pc := 1014) (q := 1492) rfl rfl⟩)))))))), hI2, l2⟩
theorem lw22 {nf : Bool} {xs : List Int32} {i : Int32} {cl : zL} {h : zH} (hl : lok cl i) (hi : lin xs i) (hI : lInq h) : ∃ h2 : zH, lR nf xs (1017, cl, [], h) (1492, cl, [], h2) ∧ lInq h2 ∧ h2.length = h.length := by
  obtain ⟨r1, h1, r2, h2, e1, e2, hS1, hX1, hI2, l1, l2, E, ρ, a, b, hE, ha, hb, hc⟩ := ltwoq (nf := nf) (xs := xs) (ys := [lx xs i 1, lx xs i 2]) (qB_ok nf xs 140 qc262 (show qc262 ∈ qKB 140 from List.Mem.head _)).2 (qB_ok nf xs 243 qc267 (show qc267 ∈ qKB 243 from List.Mem.head _)).2 lk22 hI rfl (fun j y hy => by
    rcases j with _ | _ | j
    · cases hy; exact ⟨rfl, ab _⟩
    · cases hy; exact ⟨rfl, ab _⟩
    · exact absurd hy (by simp))
  obtain ⟨f0, k0⟩ := lh0 hI.1.1.1
  obtain ⟨f1, k1⟩ := lh1 hS1
  unfold leI at hc
  rw [Bool.and_eq_true] at hc
  obtain ⟨z1, rfl⟩ := lint_v hc.1 ha
  obtain ⟨z2, rfl⟩ := lint_v hc.2 hb
  exact ⟨h2, lRt (⟨1, la_r (k := 1) (pc := 1017) (st := []) (h := h) rfl hl.2.1⟩) (lRt (⟨5, la_s (pc := 1018) (st := (.ref 0 :: [])) (h := h) (j := 1) rfl rfl rfl rfl rfl hl (hi.2 1 (by decide) (by decide))⟩) (lRt (⟨5, la_s (pc := 1024) (st := (.int (lx xs i 1) :: (.ref 0 :: []))) (h := h) (j := 2) rfl rfl rfl rfl rfl hl (hi.2 2 (by decide) (by decide))⟩) (lRt (lcall (cl := cl) (p := 1030) (as := [.int (lx xs i 1), .int (lx xs i 2)]) (b := 0) (r := []) rfl rfl rfl rfl k0 rfl e1) (lRt (⟨1, lpop (pc := 1033) rfl⟩) (lRt (⟨1, la_r (k := 2) (pc := 1034) (st := []) (h := h1) rfl hl.2.2.1⟩) (lRt (⟨5, la_s (pc := 1035) (st := (.ref 128 :: [])) (h := h1) (j := 1) rfl rfl rfl rfl rfl hl (hi.2 1 (by decide) (by decide))⟩) (lRt (⟨5, la_s (pc := 1041) (st := (.int (lx xs i 1) :: (.ref 128 :: []))) (h := h1) (j := 2) rfl rfl rfl rfl rfl hl (hi.2 2 (by decide) (by decide))⟩) (lRt (lcall (cl := cl) (p := 1047) (as := [.int (lx xs i 1), .int (lx xs i 2)]) (b := 128) (r := []) rfl rfl rfl rfl k1 rfl e2) (lRt (⟨1, lpop (pc := 1050) rfl⟩) (⟨1, lgoto (pc := 1051) (q := 1492) rfl rfl⟩)))))))))), hI2, l2⟩
theorem lw23 {nf : Bool} {xs : List Int32} {i : Int32} {cl : zL} {h : zH} (hl : lok cl i) (hi : lin xs i) (hI : lInq h) : ∃ h2 : zH, lR nf xs (1054, cl, [], h) (1492, cl, [], h2) ∧ lInq h2 ∧ h2.length = h.length := by
  obtain ⟨r1, h1, r2, h2, e1, e2, hS1, hX1, hI2, l1, l2, E, ρ, a, b, hE, ha, hb, hc⟩ := ltwoq (nf := nf) (xs := xs) (ys := [lx xs i 1, lx xs i 2, lx xs i 3]) (qB_ok nf xs 141 qc263 (show qc263 ∈ qKB 141 from List.Mem.head _)).2 (qB_ok nf xs 244 qc268 (show qc268 ∈ qKB 244 from List.Mem.head _)).2 lk23 hI rfl (fun j y hy => by
    rcases j with _ | _ | _ | j
    · cases hy; exact ⟨rfl, ab _⟩
    · cases hy; exact ⟨rfl, ab _⟩
    · cases hy; exact ⟨rfl, ab _⟩
    · exact absurd hy (by simp))
  obtain ⟨f0, k0⟩ := lh0 hI.1.1.1
  obtain ⟨f1, k1⟩ := lh1 hS1
  unfold leI at hc
  rw [Bool.and_eq_true] at hc
  obtain ⟨z1, rfl⟩ := lint_v hc.1 ha
  obtain ⟨z2, rfl⟩ := lint_v hc.2 hb
  exact ⟨h2, lRt (⟨1, la_r (k := 1) (pc := 1054) (st := []) (h := h) rfl hl.2.1⟩) (lRt (⟨5, la_s (pc := 1055) (st := (.ref 0 :: [])) (h := h) (j := 1) rfl rfl rfl rfl rfl hl (hi.2 1 (by decide) (by decide))⟩) (lRt (⟨5, la_s (pc := 1061) (st := (.int (lx xs i 1) :: (.ref 0 :: []))) (h := h) (j := 2) rfl rfl rfl rfl rfl hl (hi.2 2 (by decide) (by decide))⟩) (lRt (⟨5, la_s (pc := 1067) (st := (.int (lx xs i 2) :: (.int (lx xs i 1) :: (.ref 0 :: [])))) (h := h) (j := 3) rfl rfl rfl rfl rfl hl (hi.2 3 (by decide) (by decide))⟩) (lRt (lcall (cl := cl) (p := 1073) (as := [.int (lx xs i 1), .int (lx xs i 2), .int (lx xs i 3)]) (b := 0) (r := []) rfl rfl rfl rfl k0 rfl e1) (lRt (⟨1, lpop (pc := 1076) rfl⟩) (lRt (⟨1, la_r (k := 2) (pc := 1077) (st := []) (h := h1) rfl hl.2.2.1⟩) (lRt (⟨5, la_s (pc := 1078) (st := (.ref 128 :: [])) (h := h1) (j := 1) rfl rfl rfl rfl rfl hl (hi.2 1 (by decide) (by decide))⟩) (lRt (⟨5, la_s (pc := 1084) (st := (.int (lx xs i 1) :: (.ref 128 :: []))) (h := h1) (j := 2) rfl rfl rfl rfl rfl hl (hi.2 2 (by decide) (by decide))⟩) (lRt (⟨5, la_s (pc := 1090) (st := (.int (lx xs i 2) :: (.int (lx xs i 1) :: (.ref 128 :: [])))) (h := h1) (j := 3) rfl rfl rfl rfl rfl hl (hi.2 3 (by decide) (by decide))⟩) (lRt (lcall (cl := cl) (p := 1096) (as := [.int (lx xs i 1), .int (lx xs i 2), .int (lx xs i 3)]) (b := 128) (r := []) rfl rfl rfl rfl k1 rfl e2) (lRt (⟨1, lpop (pc := 1099) rfl⟩) (⟨1, lgoto (pc := 1100) (q := 1492) rfl rfl⟩)))))))))))), hI2, l2⟩
theorem lw24 {nf : Bool} {xs : List Int32} {i : Int32} {cl : zL} {h : zH} (hl : lok cl i) (hi : lin xs i) (hI : lInq h) : ∃ h2 : zH, lR nf xs (1103, cl, [], h) (1492, cl, [], h2) ∧ lInq h2 ∧ h2.length = h.length := by
  obtain ⟨r1, h1, r2, h2, e1, e2, hS1, hX1, hI2, l1, l2, E, ρ, a, b, hE, ha, hb, hc⟩ := ltwoq (nf := nf) (xs := xs) (ys := [lx xs i 1, lx xs i 2]) (qB_ok nf xs 136 qc259 (show qc259 ∈ qKB 136 from List.Mem.head _)).2 (qB_ok nf xs 246 qc269 (show qc269 ∈ qKB 246 from List.Mem.head _)).2 lk24 hI rfl (fun j y hy => by
    rcases j with _ | _ | j
    · cases hy; exact ⟨rfl, ab _⟩
    · cases hy; exact ⟨rfl, ab _⟩
    · exact absurd hy (by simp))
  obtain ⟨f0, k0⟩ := lh0 hI.1.1.1
  obtain ⟨f1, k1⟩ := lh1 hS1
  unfold leI at hc
  rw [Bool.and_eq_true] at hc
  obtain ⟨z1, rfl⟩ := lint_v hc.1 ha
  obtain ⟨z2, rfl⟩ := lint_v hc.2 hb
  exact ⟨h2, lRt (⟨1, la_r (k := 1) (pc := 1103) (st := []) (h := h) rfl hl.2.1⟩) (lRt (⟨5, la_s (pc := 1104) (st := (.ref 0 :: [])) (h := h) (j := 1) rfl rfl rfl rfl rfl hl (hi.2 1 (by decide) (by decide))⟩) (lRt (⟨5, la_s (pc := 1110) (st := (.int (lx xs i 1) :: (.ref 0 :: []))) (h := h) (j := 2) rfl rfl rfl rfl rfl hl (hi.2 2 (by decide) (by decide))⟩) (lRt (lcall (cl := cl) (p := 1116) (as := [.int (lx xs i 1), .int (lx xs i 2)]) (b := 0) (r := []) rfl rfl rfl rfl k0 rfl e1) (lRt (⟨1, lpop (pc := 1119) rfl⟩) (lRt (⟨1, la_r (k := 2) (pc := 1120) (st := []) (h := h1) rfl hl.2.2.1⟩) (lRt (⟨5, la_s (pc := 1121) (st := (.ref 128 :: [])) (h := h1) (j := 1) rfl rfl rfl rfl rfl hl (hi.2 1 (by decide) (by decide))⟩) (lRt (⟨5, la_s (pc := 1127) (st := (.int (lx xs i 1) :: (.ref 128 :: []))) (h := h1) (j := 2) rfl rfl rfl rfl rfl hl (hi.2 2 (by decide) (by decide))⟩) (lRt (lcall (cl := cl) (p := 1133) (as := [.int (lx xs i 1), .int (lx xs i 2)]) (b := 128) (r := []) rfl rfl rfl rfl k1 rfl e2) (lRt (⟨1, lpop (pc := 1136) rfl⟩) (⟨1, lgoto (pc := 1137) (q := 1492) rfl rfl⟩)))))))))), hI2, l2⟩
theorem lw25 {nf : Bool} {xs : List Int32} {i : Int32} {cl : zL} {h : zH} (hl : lok cl i) (hi : lin xs i) (hI : lInq h) : ∃ h2 : zH, lR nf xs (1140, cl, [], h) (1492, cl, [], h2) ∧ lInq h2 ∧ h2.length = h.length := by
  obtain ⟨r1, h1, r2, h2, e1, e2, hS1, hX1, hI2, l1, l2, E, ρ, a, b, hE, ha, hb, hc⟩ := ltwoq (nf := nf) (xs := xs) (ys := []) (qB_ok nf xs 137 qc260 (show qc260 ∈ qKB 137 from List.Mem.head _)).2 (qB_ok nf xs 247 qc270 (show qc270 ∈ qKB 247 from List.Mem.head _)).2 lk25 hI rfl (fun j y hy => by
    exact absurd hy (by simp))
  obtain ⟨f0, k0⟩ := lh0 hI.1.1.1
  obtain ⟨f1, k1⟩ := lh1 hS1
  unfold leI at hc
  rw [Bool.and_eq_true] at hc
  obtain ⟨z1, rfl⟩ := lint_v hc.1 ha
  obtain ⟨z2, rfl⟩ := lint_v hc.2 hb
  exact ⟨h2, lRt (⟨1, la_r (k := 1) (pc := 1140) (st := []) (h := h) rfl hl.2.1⟩) (lRt (lcall (cl := cl) (p := 1141) (as := []) (b := 0) (r := []) rfl rfl rfl rfl k0 rfl e1) (lRt (⟨1, lpop (pc := 1144) rfl⟩) (lRt (⟨1, la_r (k := 2) (pc := 1145) (st := []) (h := h1) rfl hl.2.2.1⟩) (lRt (lcall (cl := cl) (p := 1146) (as := []) (b := 128) (r := []) rfl rfl rfl rfl k1 rfl e2) (lRt (⟨1, lpop (pc := 1149) rfl⟩) (⟨1, lgoto (pc := 1150) (q := 1492) rfl rfl⟩)))))), hI2, l2⟩
theorem lw26 {nf : Bool} {xs : List Int32} {i : Int32} {cl : zL} {h : zH} (hl : lok cl i) (hi : lin xs i) (hI : lInq h) : ∃ h2 : zH, lR nf xs (1153, cl, [], h) (1492, cl, [], h2) ∧ lInq h2 ∧ h2.length = h.length := by
  obtain ⟨r1, h1, r2, h2, e1, e2, hS1, hX1, hI2, l1, l2, E, ρ, a, b, hE, ha, hb, hc⟩ := ltwoq (nf := nf) (xs := xs) (ys := [lx xs i 1]) (qB_ok nf xs 138 qc261 (show qc261 ∈ qKB 138 from List.Mem.head _)).2 (qB_ok nf xs 248 qc250 (show qc250 ∈ qKB 248 from List.Mem.head _)).2 lk26 hI rfl (fun j y hy => by
    rcases j with _ | j
    · cases hy; exact ⟨rfl, ab _⟩
    · exact absurd hy (by simp))
  obtain ⟨f0, k0⟩ := lh0 hI.1.1.1
  obtain ⟨f1, k1⟩ := lh1 hS1
  unfold leI at hc
  rw [Bool.and_eq_true] at hc
  obtain ⟨z1, rfl⟩ := lint_v hc.1 ha
  obtain ⟨z2, rfl⟩ := lint_v hc.2 hb
  exact ⟨h2, lRt (⟨1, la_r (k := 1) (pc := 1153) (st := []) (h := h) rfl hl.2.1⟩) (lRt (⟨5, la_s (pc := 1154) (st := (.ref 0 :: [])) (h := h) (j := 1) rfl rfl rfl rfl rfl hl (hi.2 1 (by decide) (by decide))⟩) (lRt (lcall (cl := cl) (p := 1160) (as := [.int (lx xs i 1)]) (b := 0) (r := []) rfl rfl rfl rfl k0 rfl e1) (lRt (⟨1, lpop (pc := 1163) rfl⟩) (lRt (⟨1, la_r (k := 2) (pc := 1164) (st := []) (h := h1) rfl hl.2.2.1⟩) (lRt (⟨5, la_s (pc := 1165) (st := (.ref 128 :: [])) (h := h1) (j := 1) rfl rfl rfl rfl rfl hl (hi.2 1 (by decide) (by decide))⟩) (lRt (lcall (cl := cl) (p := 1171) (as := [.int (lx xs i 1)]) (b := 128) (r := []) rfl rfl rfl rfl k1 rfl e2) (lRt (⟨1, lpop (pc := 1174) rfl⟩) (⟨1, lgoto (pc := 1175) (q := 1492) rfl rfl⟩)))))))), hI2, l2⟩
theorem lw27 {nf : Bool} {xs : List Int32} {i : Int32} {cl : zL} {h : zH} (hl : lok cl i) (hi : lin xs i) (hI : lInq h) : ∃ h2 : zH, lR nf xs (1178, cl, [], h) (1492, cl, [], h2) ∧ lInq h2 ∧ h2.length = h.length := by
  obtain ⟨r1, h1, r2, h2, e1, e2, hS1, hJ2, l1, l2, kp1, kp2, E, ρ, a, b, hE, ha, hb, hc⟩ := ltwoB (nf := nf) (xs := xs) (ys := [lx xs i 1, lx xs i 2, lnz (lx xs i 3)]) (qB_ok nf xs 145 qc52 (show qc52 ∈ qKB 145 from List.Mem.head _)).2 (qB_ok nf xs 249 qc123 (show qc123 ∈ qKB 249 from List.Mem.head _)).2 lk27 hI.1 rfl (fun j y hy => by
    rcases j with _ | _ | _ | j
    · cases hy; exact ⟨rfl, ab _⟩
    · cases hy; exact ⟨rfl, ab _⟩
    · cases hy; exact ⟨rfl, lnz_b _⟩
    · exact absurd hy (by simp))
  obtain ⟨hrr, hZ2⟩ := note_pair (lI_of hI) e1 e2 hS1 kp1 kp2 (by decide +kernel) (by decide +kernel) (by decide +kernel) (by decide +kernel) (by decide +kernel) (by decide +kernel) (by decide +kernel)
  have hI2 : lInq h2 := ⟨hJ2, nt_fin hI kp1 kp2 (by decide +kernel) (by decide +kernel) hZ2⟩
  obtain ⟨f0, k0⟩ := lh0 hI.1.1.1
  obtain ⟨f1, k1⟩ := lh1 hS1
  unfold leI at hc
  rw [Bool.and_eq_true] at hc
  obtain ⟨z1, rfl⟩ := lint_v hc.1 ha
  obtain ⟨z2, rfl⟩ := lint_v hc.2 hb
  exact ⟨h2, lRt (⟨1, la_r (k := 1) (pc := 1178) (st := []) (h := h) rfl hl.2.1⟩) (lRt (⟨5, la_s (pc := 1179) (st := (.ref 0 :: [])) (h := h) (j := 1) rfl rfl rfl rfl rfl hl (hi.2 1 (by decide) (by decide))⟩) (lRt (⟨5, la_s (pc := 1185) (st := (.int (lx xs i 1) :: (.ref 0 :: []))) (h := h) (j := 2) rfl rfl rfl rfl rfl hl (hi.2 2 (by decide) (by decide))⟩) (lRt (⟨5, la_s (pc := 1191) (st := (.int (lx xs i 2) :: (.int (lx xs i 1) :: (.ref 0 :: [])))) (h := h) (j := 3) rfl rfl rfl rfl rfl hl (hi.2 3 (by decide) (by decide))⟩) (lRt (lbool (pc := 1197) (st := (.int (lx xs i 2) :: (.int (lx xs i 1) :: (.ref 0 :: [])))) (h := h) (x := lx xs i 3) rfl rfl rfl rfl) (lRt (lcall (cl := cl) (p := 1205) (as := [.int (lx xs i 1), .int (lx xs i 2), .int (lnz (lx xs i 3))]) (b := 0) (r := []) rfl rfl rfl rfl k0 rfl e1) (lRt (⟨1, lpop (pc := 1208) rfl⟩) (lRt (⟨1, la_r (k := 2) (pc := 1209) (st := []) (h := h1) rfl hl.2.2.1⟩) (lRt (⟨5, la_s (pc := 1210) (st := (.ref 128 :: [])) (h := h1) (j := 1) rfl rfl rfl rfl rfl hl (hi.2 1 (by decide) (by decide))⟩) (lRt (⟨5, la_s (pc := 1216) (st := (.int (lx xs i 1) :: (.ref 128 :: []))) (h := h1) (j := 2) rfl rfl rfl rfl rfl hl (hi.2 2 (by decide) (by decide))⟩) (lRt (⟨5, la_s (pc := 1222) (st := (.int (lx xs i 2) :: (.int (lx xs i 1) :: (.ref 128 :: [])))) (h := h1) (j := 3) rfl rfl rfl rfl rfl hl (hi.2 3 (by decide) (by decide))⟩) (lRt (lbool (pc := 1228) (st := (.int (lx xs i 2) :: (.int (lx xs i 1) :: (.ref 128 :: [])))) (h := h1) (x := lx xs i 3) rfl rfl rfl rfl) (lRt (lcall (cl := cl) (p := 1236) (as := [.int (lx xs i 1), .int (lx xs i 2), .int (lnz (lx xs i 3))]) (b := 128) (r := []) rfl rfl rfl rfl k1 rfl e2) (lRt (⟨1, lpop (pc := 1239) rfl⟩) (⟨1, lgoto (pc := 1240) (q := 1492) rfl rfl⟩)))))))))))))), hI2, l2⟩
theorem lw28 {nf : Bool} {xs : List Int32} {i : Int32} {cl : zL} {h : zH} (hl : lok cl i) (hi : lin xs i) (hI : lInq h) : ∃ h2 : zH, lR nf xs (1243, cl, [], h) (1492, cl, [], h2) ∧ lInq h2 ∧ h2.length = h.length := by
  obtain ⟨r1, h1, r2, h2, e1, e2, hS1, hJ2, l1, l2, kp1, kp2, E, ρ, a, b, hE, ha, hb, hc⟩ := ltwoB (nf := nf) (xs := xs) (ys := [lx xs i 1]) (qB_ok nf xs 146 qc53 (show qc53 ∈ qKB 146 from List.Mem.head _)).2 (qB_ok nf xs 250 qc124 (show qc124 ∈ qKB 250 from List.Mem.head _)).2 lk28 hI.1 rfl (fun j y hy => by
    rcases j with _ | j
    · cases hy; exact ⟨rfl, ab _⟩
    · exact absurd hy (by simp))
  obtain ⟨hrr, hZ2⟩ := out_pair (lI_of hI) e1 e2 hS1 kp1 kp2 (by decide +kernel) (by decide +kernel) (by decide +kernel) (by decide +kernel) (by decide +kernel) (by decide +kernel) (by decide +kernel)
  have hI2 : lInq h2 := ⟨hJ2, nt_fin hI kp1 kp2 (by decide +kernel) (by decide +kernel) hZ2⟩
  obtain ⟨f0, k0⟩ := lh0 hI.1.1.1
  obtain ⟨f1, k1⟩ := lh1 hS1
  unfold leI at hc
  rw [Bool.and_eq_true] at hc
  obtain ⟨z1, rfl⟩ := lint_v hc.1 ha
  obtain ⟨z2, rfl⟩ := lint_v hc.2 hb
  exact ⟨h2, lRt (⟨1, la_r (k := 1) (pc := 1243) (st := []) (h := h) rfl hl.2.1⟩) (lRt (⟨5, la_s (pc := 1244) (st := (.ref 0 :: [])) (h := h) (j := 1) rfl rfl rfl rfl rfl hl (hi.2 1 (by decide) (by decide))⟩) (lRt (lcall (cl := cl) (p := 1250) (as := [.int (lx xs i 1)]) (b := 0) (r := []) rfl rfl rfl rfl k0 rfl e1) (lRt (⟨1, lpop (pc := 1253) rfl⟩) (lRt (⟨1, la_r (k := 2) (pc := 1254) (st := []) (h := h1) rfl hl.2.2.1⟩) (lRt (⟨5, la_s (pc := 1255) (st := (.ref 128 :: [])) (h := h1) (j := 1) rfl rfl rfl rfl rfl hl (hi.2 1 (by decide) (by decide))⟩) (lRt (lcall (cl := cl) (p := 1261) (as := [.int (lx xs i 1)]) (b := 128) (r := []) rfl rfl rfl rfl k1 rfl e2) (lRt (⟨1, lpop (pc := 1264) rfl⟩) (⟨1, lgoto (pc := 1265) (q := 1492) rfl rfl⟩)))))))), hI2, l2⟩
theorem lw29 {nf : Bool} {xs : List Int32} {i : Int32} {cl : zL} {h : zH} (hl : lok cl i) (hi : lin xs i) (hI : lInq h) : ∃ h2 : zH, lR nf xs (1268, cl, [], h) (1492, cl, [], h2) ∧ lInq h2 ∧ h2.length = h.length := by
  obtain ⟨r1, h1, r2, h2, e1, e2, hS1, hX1, hI2, l1, l2, E, ρ, a, b, hE, ha, hb, hc⟩ := ltwoq (nf := nf) (xs := xs) (ys := [lx xs i 1]) (qB_ok nf xs 147 qc54 (show qc54 ∈ qKB 147 from List.Mem.head _)).2 (qB_ok nf xs 251 qc125 (show qc125 ∈ qKB 251 from List.Mem.head _)).2 lk29 hI rfl (fun j y hy => by
    rcases j with _ | j
    · cases hy; exact ⟨rfl, ab _⟩
    · exact absurd hy (by simp))
  obtain ⟨f0, k0⟩ := lh0 hI.1.1.1
  obtain ⟨f1, k1⟩ := lh1 hS1
  unfold leI at hc
  rw [Bool.and_eq_true] at hc
  obtain ⟨z1, rfl⟩ := lint_v hc.1 ha
  obtain ⟨z2, rfl⟩ := lint_v hc.2 hb
  exact ⟨h2, lRt (⟨1, la_r (k := 1) (pc := 1268) (st := []) (h := h) rfl hl.2.1⟩) (lRt (⟨5, la_s (pc := 1269) (st := (.ref 0 :: [])) (h := h) (j := 1) rfl rfl rfl rfl rfl hl (hi.2 1 (by decide) (by decide))⟩) (lRt (lcall (cl := cl) (p := 1275) (as := [.int (lx xs i 1)]) (b := 0) (r := []) rfl rfl rfl rfl k0 rfl e1) (lRt (⟨1, lpop (pc := 1278) rfl⟩) (lRt (⟨1, la_r (k := 2) (pc := 1279) (st := []) (h := h1) rfl hl.2.2.1⟩) (lRt (⟨5, la_s (pc := 1280) (st := (.ref 128 :: [])) (h := h1) (j := 1) rfl rfl rfl rfl rfl hl (hi.2 1 (by decide) (by decide))⟩) (lRt (lcall (cl := cl) (p := 1286) (as := [.int (lx xs i 1)]) (b := 128) (r := []) rfl rfl rfl rfl k1 rfl e2) (lRt (⟨1, lpop (pc := 1289) rfl⟩) (⟨1, lgoto (pc := 1290) (q := 1492) rfl rfl⟩)))))))), hI2, l2⟩
theorem lw30 {nf : Bool} {xs : List Int32} {i : Int32} {cl : zL} {h : zH} (hl : lok cl i) (hi : lin xs i) (hI : lInq h) : ∃ h2 : zH, lR nf xs (1293, cl, [], h) (1492, cl, [], h2) ∧ lInq h2 ∧ h2.length = h.length := by
  obtain ⟨r1, h1, r2, h2, e1, e2, hS1, hX1, hI2, l1, l2, E, ρ, a, b, hE, ha, hb, hc⟩ := ltwoq (nf := nf) (xs := xs) (ys := [lx xs i 1]) (qB_ok nf xs 148 qc246 (show qc246 ∈ qKB 148 from List.Mem.head _)).2 (qB_ok nf xs 254 qc272 (show qc272 ∈ qKB 254 from List.Mem.head _)).2 lk30 hI rfl (fun j y hy => by
    rcases j with _ | j
    · cases hy; exact ⟨rfl, ab _⟩
    · exact absurd hy (by simp))
  obtain ⟨f0, k0⟩ := lh0 hI.1.1.1
  obtain ⟨f1, k1⟩ := lh1 hS1
  unfold leI at hc
  rw [Bool.and_eq_true] at hc
  obtain ⟨z1, rfl⟩ := lint_v hc.1 ha
  obtain ⟨z2, rfl⟩ := lint_v hc.2 hb
  exact ⟨h2, lRt (⟨1, la_r (k := 1) (pc := 1293) (st := []) (h := h) rfl hl.2.1⟩) (lRt (⟨5, la_s (pc := 1294) (st := (.ref 0 :: [])) (h := h) (j := 1) rfl rfl rfl rfl rfl hl (hi.2 1 (by decide) (by decide))⟩) (lRt (lcall (cl := cl) (p := 1300) (as := [.int (lx xs i 1)]) (b := 0) (r := []) rfl rfl rfl rfl k0 rfl e1) (lRt (⟨1, lpop (pc := 1303) rfl⟩) (lRt (⟨1, la_r (k := 2) (pc := 1304) (st := []) (h := h1) rfl hl.2.2.1⟩) (lRt (⟨5, la_s (pc := 1305) (st := (.ref 128 :: [])) (h := h1) (j := 1) rfl rfl rfl rfl rfl hl (hi.2 1 (by decide) (by decide))⟩) (lRt (lcall (cl := cl) (p := 1311) (as := [.int (lx xs i 1)]) (b := 128) (r := []) rfl rfl rfl rfl k1 rfl e2) (lRt (⟨1, lpop (pc := 1314) rfl⟩) (⟨1, lgoto (pc := 1315) (q := 1492) rfl rfl⟩)))))))), hI2, l2⟩
theorem lw31 {nf : Bool} {xs : List Int32} {i : Int32} {cl : zL} {h : zH} (hl : lok cl i) (hi : lin xs i) (hI : lInq h) : ∃ h2 : zH, lR nf xs (1318, cl, [], h) (1492, cl, [], h2) ∧ lInq h2 ∧ h2.length = h.length := by
  obtain ⟨r1, h1, r2, h2, e1, e2, hS1, hX1, hI2, l1, l2, E, ρ, a, b, hE, ha, hb, hc⟩ := ltwoq (nf := nf) (xs := xs) (ys := [lx xs i 1, lx xs i 2, lx xs i 3, lx xs i 4]) (qB_ok nf xs 126 qc254 (show qc254 ∈ qKB 126 from List.Mem.head _)).2 (qB_ok nf xs 255 qc251 (show qc251 ∈ qKB 255 from List.Mem.head _)).2 lk31 hI rfl (fun j y hy => by
    rcases j with _ | _ | _ | _ | j
    · cases hy; exact ⟨rfl, ab _⟩
    · cases hy; exact ⟨rfl, ab _⟩
    · cases hy; exact ⟨rfl, ab _⟩
    · cases hy; exact ⟨rfl, ab _⟩
    · exact absurd hy (by simp))
  obtain ⟨f0, k0⟩ := lh0 hI.1.1.1
  obtain ⟨f1, k1⟩ := lh1 hS1
  unfold leI at hc
  rw [Bool.and_eq_true] at hc
  obtain ⟨z1, rfl⟩ := lint_v hc.1 ha
  obtain ⟨z2, rfl⟩ := lint_v hc.2 hb
  exact ⟨h2, lRt (⟨1, la_r (k := 1) (pc := 1318) (st := []) (h := h) rfl hl.2.1⟩) (lRt (⟨5, la_s (pc := 1319) (st := (.ref 0 :: [])) (h := h) (j := 1) rfl rfl rfl rfl rfl hl (hi.2 1 (by decide) (by decide))⟩) (lRt (⟨5, la_s (pc := 1325) (st := (.int (lx xs i 1) :: (.ref 0 :: []))) (h := h) (j := 2) rfl rfl rfl rfl rfl hl (hi.2 2 (by decide) (by decide))⟩) (lRt (⟨5, la_s (pc := 1331) (st := (.int (lx xs i 2) :: (.int (lx xs i 1) :: (.ref 0 :: [])))) (h := h) (j := 3) rfl rfl rfl rfl rfl hl (hi.2 3 (by decide) (by decide))⟩) (lRt (⟨5, la_s (pc := 1337) (st := (.int (lx xs i 3) :: (.int (lx xs i 2) :: (.int (lx xs i 1) :: (.ref 0 :: []))))) (h := h) (j := 4) rfl rfl rfl rfl rfl hl (hi.2 4 (by decide) (by decide))⟩) (lRt (lcall (cl := cl) (p := 1343) (as := [.int (lx xs i 1), .int (lx xs i 2), .int (lx xs i 3), .int (lx xs i 4)]) (b := 0) (r := []) rfl rfl rfl rfl k0 rfl e1) (lRt (⟨1, lpop (pc := 1346) rfl⟩) (lRt (⟨1, la_r (k := 2) (pc := 1347) (st := []) (h := h1) rfl hl.2.2.1⟩) (lRt (⟨5, la_s (pc := 1348) (st := (.ref 128 :: [])) (h := h1) (j := 1) rfl rfl rfl rfl rfl hl (hi.2 1 (by decide) (by decide))⟩) (lRt (⟨5, la_s (pc := 1354) (st := (.int (lx xs i 1) :: (.ref 128 :: []))) (h := h1) (j := 2) rfl rfl rfl rfl rfl hl (hi.2 2 (by decide) (by decide))⟩) (lRt (⟨5, la_s (pc := 1360) (st := (.int (lx xs i 2) :: (.int (lx xs i 1) :: (.ref 128 :: [])))) (h := h1) (j := 3) rfl rfl rfl rfl rfl hl (hi.2 3 (by decide) (by decide))⟩) (lRt (⟨5, la_s (pc := 1366) (st := (.int (lx xs i 3) :: (.int (lx xs i 2) :: (.int (lx xs i 1) :: (.ref 128 :: []))))) (h := h1) (j := 4) rfl rfl rfl rfl rfl hl (hi.2 4 (by decide) (by decide))⟩) (lRt (lcall (cl := cl) (p := 1372) (as := [.int (lx xs i 1), .int (lx xs i 2), .int (lx xs i 3), .int (lx xs i 4)]) (b := 128) (r := []) rfl rfl rfl rfl k1 rfl e2) (lRt (⟨1, lpop (pc := 1375) rfl⟩) (⟨1, lgoto (pc := 1376) (q := 1492) rfl rfl⟩)))))))))))))), hI2, l2⟩
theorem lw32 {nf : Bool} {xs : List Int32} {i : Int32} {cl : zL} {h : zH} (hl : lok cl i) (hi : lin xs i) (hI : lInq h) : ∃ h2 : zH, lR nf xs (1379, cl, [], h) (1492, cl, [], h2) ∧ lInq h2 ∧ h2.length = h.length := by
  obtain ⟨r1, h1, r2, h2, e1, e2, hS1, hX1, hI2, l1, l2, E, ρ, a, b, hE, ha, hb, hc⟩ := ltwoq (nf := nf) (xs := xs) (ys := [lx xs i 1, lx xs i 2, lx xs i 3]) (qB_ok nf xs 125 qc241 (show qc241 ∈ qKB 125 from List.Mem.head _)).2 (qB_ok nf xs 256 qc252 (show qc252 ∈ qKB 256 from List.Mem.head _)).2 lk32 hI rfl (fun j y hy => by
    rcases j with _ | _ | _ | j
    · cases hy; exact ⟨rfl, ab _⟩
    · cases hy; exact ⟨rfl, ab _⟩
    · cases hy; exact ⟨rfl, ab _⟩
    · exact absurd hy (by simp))
  obtain ⟨f0, k0⟩ := lh0 hI.1.1.1
  obtain ⟨f1, k1⟩ := lh1 hS1
  unfold leI at hc
  rw [Bool.and_eq_true] at hc
  obtain ⟨z1, rfl⟩ := lint_v hc.1 ha
  obtain ⟨z2, rfl⟩ := lint_v hc.2 hb
  exact ⟨h2, lRt (⟨1, la_r (k := 1) (pc := 1379) (st := []) (h := h) rfl hl.2.1⟩) (lRt (⟨5, la_s (pc := 1380) (st := (.ref 0 :: [])) (h := h) (j := 1) rfl rfl rfl rfl rfl hl (hi.2 1 (by decide) (by decide))⟩) (lRt (⟨5, la_s (pc := 1386) (st := (.int (lx xs i 1) :: (.ref 0 :: []))) (h := h) (j := 2) rfl rfl rfl rfl rfl hl (hi.2 2 (by decide) (by decide))⟩) (lRt (⟨5, la_s (pc := 1392) (st := (.int (lx xs i 2) :: (.int (lx xs i 1) :: (.ref 0 :: [])))) (h := h) (j := 3) rfl rfl rfl rfl rfl hl (hi.2 3 (by decide) (by decide))⟩) (lRt (lcall (cl := cl) (p := 1398) (as := [.int (lx xs i 1), .int (lx xs i 2), .int (lx xs i 3)]) (b := 0) (r := []) rfl rfl rfl rfl k0 rfl e1) (lRt (⟨1, lpop (pc := 1401) rfl⟩) (lRt (⟨1, la_r (k := 2) (pc := 1402) (st := []) (h := h1) rfl hl.2.2.1⟩) (lRt (⟨5, la_s (pc := 1403) (st := (.ref 128 :: [])) (h := h1) (j := 1) rfl rfl rfl rfl rfl hl (hi.2 1 (by decide) (by decide))⟩) (lRt (⟨5, la_s (pc := 1409) (st := (.int (lx xs i 1) :: (.ref 128 :: []))) (h := h1) (j := 2) rfl rfl rfl rfl rfl hl (hi.2 2 (by decide) (by decide))⟩) (lRt (⟨5, la_s (pc := 1415) (st := (.int (lx xs i 2) :: (.int (lx xs i 1) :: (.ref 128 :: [])))) (h := h1) (j := 3) rfl rfl rfl rfl rfl hl (hi.2 3 (by decide) (by decide))⟩) (lRt (lcall (cl := cl) (p := 1421) (as := [.int (lx xs i 1), .int (lx xs i 2), .int (lx xs i 3)]) (b := 128) (r := []) rfl rfl rfl rfl k1 rfl e2) (lRt (⟨1, lpop (pc := 1424) rfl⟩) (⟨1, lgoto (pc := 1425) (q := 1492) rfl rfl⟩)))))))))))), hI2, l2⟩
theorem lw33 {nf : Bool} {xs : List Int32} {i : Int32} {cl : zL} {h : zH} (hl : lok cl i) (hi : lin xs i) (hI : lInq h) : ∃ h2 : zH, lR nf xs (1428, cl, [], h) (1492, cl, [], h2) ∧ lInq h2 ∧ h2.length = h.length := by
  obtain ⟨r1, h1, r2, h2, e1, e2, hS1, hJ2, l1, l2, kp1, kp2, E, ρ, a, b, hE, ha, hb, hc⟩ := ltwoB (nf := nf) (xs := xs) (ys := []) (qB_ok nf xs 117 qc49 (show qc49 ∈ qKB 117 from List.Mem.head _)).2 (qB_ok nf xs 257 qc156 (show qc156 ∈ qKB 257 from List.Mem.head _)).2 lk33 hI.1 rfl (fun j y hy => by
    exact absurd hy (by simp))
  obtain ⟨hrr, hZ2⟩ := undo_pair hI e1 e2 hS1 kp1 kp2 (by decide +kernel) (by decide +kernel) (by decide +kernel) (by decide +kernel)
  have hI2 : lInq h2 := ⟨hJ2, hZ2⟩
  obtain ⟨f0, k0⟩ := lh0 hI.1.1.1
  obtain ⟨f1, k1⟩ := lh1 hS1
  unfold leI at hc
  rw [Bool.and_eq_true] at hc
  obtain ⟨z1, rfl⟩ := lint_v hc.1 ha
  obtain ⟨z2, rfl⟩ := lint_v hc.2 hb
  exact ⟨h2, lRt (⟨1, la_r (k := 1) (pc := 1428) (st := []) (h := h) rfl hl.2.1⟩) (lRt (lcall (cl := cl) (p := 1429) (as := []) (b := 0) (r := []) rfl rfl rfl rfl k0 rfl e1) (lRt (⟨1, lpop (pc := 1432) rfl⟩) (lRt (⟨1, la_r (k := 2) (pc := 1433) (st := []) (h := h1) rfl hl.2.2.1⟩) (lRt (lcall (cl := cl) (p := 1434) (as := []) (b := 128) (r := []) rfl rfl rfl rfl k1 rfl e2) (lRt (⟨1, lpop (pc := 1437) rfl⟩) (⟨1, lgoto (pc := 1438) (q := 1492) rfl rfl⟩)))))), hI2, l2⟩
theorem lw34 {nf : Bool} {xs : List Int32} {i : Int32} {cl : zL} {h : zH} (hl : lok cl i) (hi : lin xs i) (hI : lInq h) : ∃ h2 : zH, lR nf xs (1441, cl, [], h) (1492, cl, [], h2) ∧ lInq h2 ∧ h2.length = h.length := by
  obtain ⟨r1, h1, r2, h2, e1, e2, hS1, hJ2, l1, l2, kp1, kp2, E, ρ, a, b, hE, ha, hb, hc⟩ := ltwoB (nf := nf) (xs := xs) (ys := []) (qB_ok nf xs 118 qc186 (show qc186 ∈ qKB 118 from List.Mem.head _)).2 (qB_ok nf xs 258 qc157 (show qc157 ∈ qKB 258 from List.Mem.head _)).2 lk34 hI.1 rfl (fun j y hy => by
    exact absurd hy (by simp))
  obtain ⟨hrr, hZ2⟩ := keep_pairB hI e1 e2 hS1 kp1 kp2 (by decide +kernel) (by decide +kernel) (by decide +kernel) (by decide +kernel)
  have hI2 : lInq h2 := ⟨hJ2, hZ2⟩
  obtain ⟨f0, k0⟩ := lh0 hI.1.1.1
  obtain ⟨f1, k1⟩ := lh1 hS1
  unfold leI at hc
  rw [Bool.and_eq_true] at hc
  obtain ⟨z1, rfl⟩ := lint_v hc.1 ha
  obtain ⟨z2, rfl⟩ := lint_v hc.2 hb
  exact ⟨h2, lRt (⟨1, la_r (k := 1) (pc := 1441) (st := []) (h := h) rfl hl.2.1⟩) (lRt (lcall (cl := cl) (p := 1442) (as := []) (b := 0) (r := []) rfl rfl rfl rfl k0 rfl e1) (lRt (⟨1, lpop (pc := 1445) rfl⟩) (lRt (⟨1, la_r (k := 2) (pc := 1446) (st := []) (h := h1) rfl hl.2.2.1⟩) (lRt (lcall (cl := cl) (p := 1447) (as := []) (b := 128) (r := []) rfl rfl rfl rfl k1 rfl e2) (lRt (⟨1, lpop (pc := 1450) rfl⟩) (⟨1, lgoto (pc := 1451) (q := 1492) rfl rfl⟩)))))), hI2, l2⟩
theorem lw35 {nf : Bool} {xs : List Int32} {i : Int32} {cl : zL} {h : zH} (hl : lok cl i) (hi : lin xs i) (hI : lInq h) : ∃ h2 : zH, lR nf xs (1454, cl, [], h) (1492, cl, [], h2) ∧ lInq h2 ∧ h2.length = h.length := by
  obtain ⟨r1, h1, r2, h2, e1, e2, hS1, hJ2, l1, l2, kp1, kp2, E, ρ, a, b, hE, ha, hb, hc⟩ := ltwoB (nf := nf) (xs := xs) (ys := []) (qB_ok nf xs 119 qc187 (show qc187 ∈ qKB 119 from List.Mem.head _)).2 (qB_ok nf xs 259 qc158 (show qc158 ∈ qKB 259 from List.Mem.head _)).2 lk35 hI.1 rfl (fun j y hy => by
    exact absurd hy (by simp))
  obtain ⟨hrr, hZ2⟩ := back_pairB hI e1 e2 hS1 kp1 kp2 (by decide +kernel) (by decide +kernel) (by decide +kernel) (by decide +kernel)
  have hI2 : lInq h2 := ⟨hJ2, hZ2⟩
  obtain ⟨f0, k0⟩ := lh0 hI.1.1.1
  obtain ⟨f1, k1⟩ := lh1 hS1
  unfold leI at hc
  rw [Bool.and_eq_true] at hc
  obtain ⟨z, rfl⟩ := lint_v hc.1 ha
  obtain ⟨z2, rfl⟩ := lint_v hc.2 hb
  cases hrr
  exact ⟨h2, lRt (⟨1, la_r (k := 1) (pc := 1454) (st := []) (h := h) rfl hl.2.1⟩) (lRt (lcall (cl := cl) (p := 1455) (as := []) (b := 0) (r := []) rfl rfl rfl rfl k0 rfl e1) (lRt (⟨1, la_r (k := 2) (pc := 1458) (st := [.int z]) (h := h1) rfl hl.2.2.1⟩) (lRt (lcall (cl := cl) (p := 1459) (as := []) (b := 128) (r := [.int z]) rfl rfl rfl rfl k1 rfl e2) (⟨1, licmp (p := 1462) (q := 1492) rfl rfl⟩)))), hI2, l2⟩
theorem lw36 {nf : Bool} {xs : List Int32} {i : Int32} {cl : zL} {h : zH} (hl : lok cl i) (hi : lin xs i) (hI : lInq h) : ∃ h2 : zH, lR nf xs (1467, cl, [], h) (1492, cl, [], h2) ∧ lInq h2 ∧ h2.length = h.length := by
  obtain ⟨r1, h1, r2, h2, e1, e2, hS1, hX1, hI2, l1, l2, E, ρ, a, b, hE, ha, hb, hc⟩ := ltwoq (nf := nf) (xs := xs) (ys := [lx xs i 1]) (qB_ok nf xs 113 qc142 (show qc142 ∈ qKB 113 from List.Mem.head _)).2 (qB_ok nf xs 261 qc204 (show qc204 ∈ qKB 261 from List.Mem.head _)).2 lk36 hI rfl (fun j y hy => by
    rcases j with _ | j
    · cases hy; exact ⟨rfl, ab _⟩
    · exact absurd hy (by simp))
  obtain ⟨f0, k0⟩ := lh0 hI.1.1.1
  obtain ⟨f1, k1⟩ := lh1 hS1
  unfold leI at hc
  rw [Bool.and_eq_true] at hc
  obtain ⟨z1, rfl⟩ := lint_v hc.1 ha
  obtain ⟨z2, rfl⟩ := lint_v hc.2 hb
  exact ⟨h2, lRt (⟨1, la_r (k := 1) (pc := 1467) (st := []) (h := h) rfl hl.2.1⟩) (lRt (⟨5, la_s (pc := 1468) (st := (.ref 0 :: [])) (h := h) (j := 1) rfl rfl rfl rfl rfl hl (hi.2 1 (by decide) (by decide))⟩) (lRt (lcall (cl := cl) (p := 1474) (as := [.int (lx xs i 1)]) (b := 0) (r := []) rfl rfl rfl rfl k0 rfl e1) (lRt (⟨1, lpop (pc := 1477) rfl⟩) (lRt (⟨1, la_r (k := 2) (pc := 1478) (st := []) (h := h1) rfl hl.2.2.1⟩) (lRt (⟨5, la_s (pc := 1479) (st := (.ref 128 :: [])) (h := h1) (j := 1) rfl rfl rfl rfl rfl hl (hi.2 1 (by decide) (by decide))⟩) (lRt (lcall (cl := cl) (p := 1485) (as := [.int (lx xs i 1)]) (b := 128) (r := []) rfl rfl rfl rfl k1 rfl e2) (lRt (⟨1, lpop (pc := 1488) rfl⟩) (⟨1, lgoto (pc := 1489) (q := 1492) rfl rfl⟩)))))))), hI2, l2⟩
