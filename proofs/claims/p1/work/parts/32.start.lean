/-! From the law's entry to its loop's head; a short script; the switch. -/
theorem yce_pe {ρ : yR} {a c : zE} (hp : yplain a = true) (h : yce ρ a c) : c = a := by
  obtain ⟨t, a⟩ := a
  rcases a with l | l | l | fs
  · exact h
  · exact h
  · exact yce_refs h (of_decide_eq_true hp)
  · have h' : (decide (t < 100) && fs.all (fun v => !ysym v)) = true := hp
    rw [Bool.and_eq_true] at h'
    obtain ⟨gs, rfl, hg⟩ := yce_obj h (of_decide_eq_true h'.1)
    have e : gs = fs := by
      have h2 : ∀ {as bs : List Value}, as.all (fun v => !ysym v) = true → yvs ρ as bs → bs = as := by
        intro as
        induction as with
        | nil => intro bs _ h; exact h
        | cons a as ih =>
          intro bs hd h
          obtain ⟨b, bs', e, hr, h⟩ := h
          rw [List.all_cons, Bool.and_eq_true] at hd
          rw [e, ih hd.2 h, yv_c hr (by simpa using hd.1)]
      exact h2 h'.2 hg
    rw [e]
theorem yhs_pe {ρ : yR} : ∀ {h c : zH}, h.all yplain = true → yhs ρ h c → c = h
  | [], _, _, h => h
  | a :: as, _, hp, ⟨b, bs, e, hr, h⟩ => by
    rw [List.all_cons, Bool.and_eq_true] at hp
    rw [e, yce_pe hp.1 hr, yhs_pe hp.2 h]
noncomputable def yin2 : Bool := match fev (yX0 none) zIT zmcl zMt fB 20 nX11_init ([], 0) [.ref 128] (129, yTj) with
  | none => false
  | some os => os.all (fun o => (match o.2.1 with
    | none => true
    | some _ => false) && (yvok 0 ((hL o.2.2).take 128) && yeqH ((hL o.2.2).drop 128) yHm))
theorem yTi_eq : hL (1, yTi) = [(10, zobj zD10)] := yeqH_ok (by decide +kernel)
theorem yTj_eq : hL (129, yTj) = yVars 128 ++ [(11, zobj zD11)] := yeqH_ok (by decide +kernel)
theorem yin2_ok : yin2 = true := by decide +kernel
theorem yHm_plain : yHm.all yplain = true := by decide +kernel
theorem yHm_len : yHm.length = 47 := by decide +kernel
theorem yinit1 (hk : ∀ nf, yin1 nf = true) (nf : Bool) (xs : List Int32) : zEv (zXt nf xs) zIT zmcl zMt 20 nX10_init [.ref 0] [(10, zobj zD10)] none yHx := by
  have h := hk nf
  unfold yin1 at h
  split at h
  · cases h
  · next os ho =>
    obtain ⟨o, m, ρ', r, h', a1, a2, a3, a0, a4, a5⟩ := fev_ok fB_ok (yX0_ok nf xs (o := some nf) (Or.inr rfl)) ymcl 20 nX10_init ([], 0) _ _ _ ho (show 1 ≤ 256 by decide) ([], [], []) [.ref 0] [(10, zobj zD10)] ⟨rfl, rfl, fun k q x hq _ => by cases hq⟩ (y0 (yv_r rfl) rfl) (by rw [yTi_eq]; exact yhs_plain (by decide +kernel))
    have h1 := List.all_eq_true.mp h o m
    rw [Bool.and_eq_true] at h1
    have e1 := yeqH_ok h1.2
    rw [e1] at a4
    have e2 := yhs_pe yHx_plain a4
    have e3 : r = none := by
      cases hq : o.2.1 with
      | none => rw [hq] at a3; exact a3
      | some v => rw [hq] at h1; cases h1.1
    rw [e2, e3] at a5
    exact a5
theorem yinit2 (nf : Bool) (xs : List Int32) : zEv (zXt nf xs) zIT zmcl zMt 20 nX11_init [.ref 128] (yHx ++ [(11, zobj zD11)]) none (yHx ++ yHm) := by
  have h := yin2_ok
  unfold yin2 at h
  split at h
  · cases h
  · next os ho =>
    obtain ⟨o, m, ρ', r, h', a1, a2, a3, a0, a4, a5⟩ := fev_ok fB_ok (yX0_ok nf xs (o := none) (Or.inl rfl)) ymcl 20 nX11_init ([], 0) _ _ _ ho (show 129 ≤ 256 by decide) ([], [], yHx) [.ref 128] (yHx ++ [(11, zobj zD11)]) ⟨rfl, rfl, fun k q x hq _ => by cases hq⟩ (y0 (yv_r rfl) rfl) (by rw [yTj_eq]; exact yA.app (yhs_plain (by decide +kernel)) (yhs_vars (ρ := ([], [], yHx)) yHx_len))
    have h1 := List.all_eq_true.mp h o m
    rw [Bool.and_eq_true, Bool.and_eq_true] at h1
    have e1 := yeqH_ok h1.2.2
    have d1 := yA.drop 128 a4
    have t1 := yA.take 128 a4
    rw [e1] at d1
    have e2 := yhs_pe yHm_plain d1
    have l0 : h'.length = 175 := by
      have h9 := congrArg List.length e2
      rw [yHm_len, List.length_drop] at h9
      omega
    have l1 : ((hL o.2.2).take 128).length = 128 := by
      have h9 := yA.len a4
      rw [l0] at h9
      rw [List.length_take]
      omega
    have e4 := yhs_vok (n := 128) (by rw [a1.2.2]; exact yHx_len) l1 h1.2.1 t1
    rw [a1.2.2] at e4
    have e3 : r = none := by
      cases hq : o.2.1 with
      | none => rw [hq] at a3; exact a3
      | some v => rw [hq] at h1; cases h1.1
    have e5 : h' = yHx ++ yHm := by
      rw [← List.take_append_drop 128 h', e4, e2]
    rw [e5, e3] at a5
    exact a5
theorem ystart (hk : ∀ nf, yin1 nf = true) (nf : Bool) (xs : List Int32) : ∃ n : Nat, zLaw nf xs n (0, [(0, .retAddr 6)], [], []) (23, yLS 0, [], yHx ++ yHo) := by
  have s1 : zLaw nf xs 1 (0, [(0, .retAddr 6)], [], []) (3, [(0, .retAddr 6)], [.ref 0], [(10, zobj zD10)]) := zGo_one (i := .new 8) (len := 3) rfl (ystepH rfl)
  have s2 : zLaw nf xs 1 (3, [(0, .retAddr 6)], [.ref 0], [(10, zobj zD10)]) (4, [(0, .retAddr 6)], [.ref 0, .ref 0], [(10, zobj zD10)]) := zGo_one (i := .dup) (len := 1) rfl (ystepI rfl)
  have s3 : zLaw nf xs 1 (4, [(0, .retAddr 6)], [.ref 0, .ref 0], [(10, zobj zD10)]) (7, [(0, .retAddr 6)], [.ref 0], yHx) := zGo_call (a := (4, [(0, .retAddr 6)], [.ref 0, .ref 0], [(10, zobj zD10)])) (i := .invokespecial 17) (len := 3) (mi := nX10_init) (as := [.ref 0]) (rest := [.ref 0]) rfl rfl (yinit1 hk nf xs)
  have s4 : zLaw nf xs 1 (7, [(0, .retAddr 6)], [.ref 0], yHx) (8, [(1, .ref 0), (0, .retAddr 6)], [], yHx) := zGo_one (i := .astore_n 1) (len := 1) rfl (ystepL rfl)
  have s5 : zLaw nf xs 1 (8, [(1, .ref 0), (0, .retAddr 6)], [], yHx) (11, [(1, .ref 0), (0, .retAddr 6)], [.ref yHx.length], yHx ++ [(11, zobj zD11)]) := zGo_one (i := .new 18) (len := 3) rfl (ystepH rfl)
  rw [yHx_len] at s5
  have s6 : zLaw nf xs 1 (11, [(1, .ref 0), (0, .retAddr 6)], [.ref 128], yHx ++ [(11, zobj zD11)]) (12, [(1, .ref 0), (0, .retAddr 6)], [.ref 128, .ref 128], yHx ++ [(11, zobj zD11)]) := zGo_one (i := .dup) (len := 1) rfl (ystepI rfl)
  have s7 : zLaw nf xs 1 (12, [(1, .ref 0), (0, .retAddr 6)], [.ref 128, .ref 128], yHx ++ [(11, zobj zD11)]) (15, [(1, .ref 0), (0, .retAddr 6)], [.ref 128], yHx ++ yHm) := zGo_call (a := (12, [(1, .ref 0), (0, .retAddr 6)], [.ref 128, .ref 128], yHx ++ [(11, zobj zD11)])) (i := .invokespecial 20) (len := 3) (mi := nX11_init) (as := [.ref 128]) (rest := [.ref 128]) rfl rfl (yinit2 nf xs)
  have s8 : zLaw nf xs 1 (15, [(1, .ref 0), (0, .retAddr 6)], [.ref 128], yHx ++ yHm) (16, [(2, .ref 128), (1, .ref 0), (0, .retAddr 6)], [], yHx ++ yHm) := zGo_one (i := .astore_n 2) (len := 1) rfl (ystepL rfl)
  have s9 : zLaw nf xs 1 (16, [(2, .ref 128), (1, .ref 0), (0, .retAddr 6)], [], yHx ++ yHm) (17, [(2, .ref 128), (1, .ref 0), (0, .retAddr 6)], [.int 1], yHx ++ yHm) := zGo_one (i := .iconst 1) (len := 1) rfl (ystepL rfl)
  have s10 : zLaw nf xs 1 (17, [(2, .ref 128), (1, .ref 0), (0, .retAddr 6)], [.int 1], yHx ++ yHm) (19, [(2, .ref 128), (1, .ref 0), (0, .retAddr 6)], [.ref 175], yHx ++ yHo) := by
    refine zGo_one (i := .newarray .long) (len := 2) rfl (ystepH ?_)
    have hl : (yHx ++ yHm).length = 175 := by rw [List.length_append, yHx_len, yHm_len]
    dsimp only [zstH]
    rw [if_neg (by decide), hl]
    unfold yHo
    rw [List.append_assoc]
    rfl
  have s11 : zLaw nf xs 1 (19, [(2, .ref 128), (1, .ref 0), (0, .retAddr 6)], [.ref 175], yHx ++ yHo) (20, [(3, .ref 175), (2, .ref 128), (1, .ref 0), (0, .retAddr 6)], [], yHx ++ yHo) := zGo_one (i := .astore_n 3) (len := 1) rfl (ystepL rfl)
  have s12 : zLaw nf xs 1 (20, [(3, .ref 175), (2, .ref 128), (1, .ref 0), (0, .retAddr 6)], [], yHx ++ yHo) (21, [(3, .ref 175), (2, .ref 128), (1, .ref 0), (0, .retAddr 6)], [.int 0], yHx ++ yHo) := zGo_one (i := .iconst 0) (len := 1) rfl (ystepL rfl)
  have s13 : zLaw nf xs 1 (21, [(3, .ref 175), (2, .ref 128), (1, .ref 0), (0, .retAddr 6)], [.int 0], yHx ++ yHo) (23, yLS 0, [], yHx ++ yHo) := zGo_one (i := .istore 4) (len := 2) rfl (ystepL rfl)
  exact ⟨_, zLaw_trans s1 (zLaw_trans s2 (zLaw_trans s3 (zLaw_trans s4 (zLaw_trans s5 (zLaw_trans s6 (zLaw_trans s7 (zLaw_trans s8 (zLaw_trans s9 (zLaw_trans s10 (zLaw_trans s11 (zLaw_trans s12 s13)))))))))))⟩
theorem ysh : ∀ L : Nat, L < 6 → zicmp .gt 0 (Int32.ofNat L - (Int8.ofInt 6).toInt32) = true := by decide
theorem yshort (nf : Bool) (xs : List Int32) (h : zH) (hL : xs.length < 6) : ∃ n : Nat, zLaw nf xs n (23, yLS 0, [], h) (1528, yLS 0, [.int 1], h) := by
  have s1 : zLaw nf xs 1 (23, yLS 0, [], h) (25, yLS 0, [.int 0], h) := zGo_one (i := .iload 4) (len := 2) rfl (ystepL rfl)
  have s2 : zLaw nf xs 1 (25, yLS 0, [.int 0], h) (26, yLS 0, [.retAddr 6, .int 0], h) := zGo_one (i := .aload_n 0) (len := 1) rfl (ystepL rfl)
  have s3 : zLaw nf xs 1 (26, yLS 0, [.retAddr 6, .int 0], h) (27, yLS 0, [.int (Int32.ofNat xs.length), .int 0], h) := zGo_one (i := .arraylength) (len := 1) rfl (ystepH rfl)
  have s4 : zLaw nf xs 1 (27, yLS 0, [.int (Int32.ofNat xs.length), .int 0], h) (29, yLS 0, [.int (Int8.ofInt 6).toInt32, .int (Int32.ofNat xs.length), .int 0], h) := zGo_one (i := .bipush 6) (len := 2) rfl (ystepL rfl)
  have s5 : zLaw nf xs 1 (29, yLS 0, [.int (Int8.ofInt 6).toInt32, .int (Int32.ofNat xs.length), .int 0], h) (30, yLS 0, [.int (Int32.ofNat xs.length - (Int8.ofInt 6).toInt32), .int 0], h) := zGo_one (i := .isub) (len := 1) rfl (ystepI rfl)
  have s6 : zLaw nf xs 1 (30, yLS 0, [.int (Int32.ofNat xs.length - (Int8.ofInt 6).toInt32), .int 0], h) (1527, yLS 0, [], h) := by
    refine zGo_one (i := .if_icmp .gt 1497) (len := 3) rfl (ystepI ?_)
    show zbr (zicmp .gt 0 (Int32.ofNat xs.length - (Int8.ofInt 6).toInt32)) 30 1497 (yLS 0) [] h = some _
    rw [ysh _ hL]
    rfl
  have s7 : zLaw nf xs 1 (1527, yLS 0, [], h) (1528, yLS 0, [.int 1], h) := zGo_one (i := .iconst 1) (len := 1) rfl (ystepL rfl)
  exact ⟨_, zLaw_trans s1 (zLaw_trans s2 (zLaw_trans s3 (zLaw_trans s4 (zLaw_trans s5 (zLaw_trans s6 s7)))))⟩
def yoffs : List Nat := [204, 277, 302, 327, 364, 432, 469, 506, 543, 580, 605, 655, 708, 745, 810, 835, 872, 897, 910, 947, 996, 1021, 1046, 1083, 1132, 1169, 1182, 1207, 1272, 1297, 1322, 1347, 1408, 1457, 1470, 1483, 1496]
theorem yhd (nf : Bool) (x0 x1 x2 x3 x4 x5 : Int32) (h : zH) : zLaw nf [x0, x1, x2, x3, x4, x5] 11 (23, yLS 0, [], h) (40, yLS 0, [.int (x0 &&& 63)], h) := by
  refine zLaw_trans (n := 10) (m := 1) (b := (39, yLS 0, [.int 63, .int x0], h)) (lstr (n := 10) (pc := 23) (pc' := 39) (i := 0) (i' := 0) (st := []) (st' := [.int 63, .float 0]) (by decide +kernel) rfl rfl nf x0 x1 x2 x3 x4 x5 0 0 h) (zGo_one (i := .iand) (len := 1) rfl (ystepI rfl))
theorem ysw_def (nf : Bool) (xs : List Int32) (y : Int32) (h : zH) (hd : y.toInt < 0 ∨ 36 < y.toInt) : zLaw nf xs 1 (40, yLS 0, [.int y], h) (1521, yLS 0, [], h) := by
  refine zGo_one (i := .tableswitch 1481 0 36 #[164, 237, 262, 287, 324, 392, 429, 466, 503, 540, 565, 615, 668, 705, 770, 795, 832, 857, 870, 907, 956, 981, 1006, 1043, 1092, 1129, 1142, 1167, 1232, 1257, 1282, 1307, 1368, 1417, 1430, 1443, 1456]) (len := 164) rfl (ystepI ?_)
  dsimp only [zstI]
  rw [if_pos hd]
  rfl
theorem ysw_in (nf : Bool) (xs : List Int32) (y : Int32) (hd : ¬ (y.toInt < 0 ∨ 36 < y.toInt)) : ∃ k p : Nat, yoffs[k]? = some p ∧ ∀ h : zH, zLaw nf xs 1 (40, yLS 0, [.int y], h) (p, yLS 0, [], h) := by
  have h0 : 0 ≤ y.toInt ∧ y.toInt ≤ 36 := by omega
  obtain ⟨k, hk⟩ : ∃ k : Nat, y.toInt = (k : Int) := ⟨y.toInt.toNat, by omega⟩
  have hk2 : k ≤ 36 := by omega
  have hlk : ∀ k : Nat, k ≤ 36 → ∃ p : Nat, yoffs[k]? = some p ∧ ∃ off : Int, (#[164, 237, 262, 287, 324, 392, 429, 466, 503, 540, 565, 615, 668, 705, 770, 795, 832, 857, 870, 907, 956, 981, 1006, 1043, 1092, 1129, 1142, 1167, 1232, 1257, 1282, 1307, 1368, 1417, 1430, 1443, 1456] : Array Int)[k]? = some off ∧ (40 : Int) + off = (p : Int) := by decide
  obtain ⟨p, hp, off, ho, he⟩ := hlk k hk2
  refine ⟨k, p, hp, fun h => zGo_one (i := .tableswitch 1481 0 36 #[164, 237, 262, 287, 324, 392, 429, 466, 503, 540, 565, 615, 668, 705, 770, 795, 832, 857, 870, 907, 956, 981, 1006, 1043, 1092, 1129, 1142, 1167, 1232, 1257, 1282, 1307, 1368, 1417, 1430, 1443, 1456]) (len := 164) rfl (ystepI ?_)⟩
  dsimp only [zstI]
  rw [if_neg hd, hk, show ((k : Int) - 0).toNat = k by omega, ho]
  dsimp only
  unfold zjump
  rw [show ((40 : Nat) : Int) + off = (p : Int) from he, if_pos (Int.natCast_nonneg p)]
  rfl
