/-! The law's loop, pass by pass, on the Java machine. -/
theorem yLW1_in : ∀ w ∈ yLW1, w ∈ lw_tbl := zin_r [1241, 128, 125, 1263, 1272, 1275, 1278, 1280, 1264, 1265, 138, 139, 1266, 1271, 1276, 1296, 1253, 1297, 1255, 1298, 1257, 1267, 1269, 1259, 1292, 1293, 1295, 1259, 1283, 1284, 1285, 1286, 1245, 1286, 1287, 1288, 1289, 1247, 1289, 1290, 1291, 1292, 1249, 1282, 1242, 1243, 1250, 1251, 1252, 1254, 1256, 1258, 1262, 1261, 1260] (by decide +kernel)
theorem yLW2_in : ∀ w ∈ yLW2, w ∈ lw_tbl := zin_r [1307, 129, 125, 1263, 1272, 1275, 1278, 1280, 1264, 1265, 138, 139, 1266, 1271, 1276, 1296, 1253, 1297, 1255, 1298, 1257, 1267, 1269, 1259, 1292, 1293, 1295, 1259, 1318, 1319, 1320, 1286, 1245, 1286, 1287, 1288, 1289, 1247, 1289, 1290, 1291, 1292, 1249, 1317, 1308, 1309, 1310, 1274, 1311, 1312, 1313, 1314, 1262, 1261, 1315] (by decide +kernel)
theorem yW2_in : ∀ w ∈ yW2, w ∈ lw_tbl := zin_r [1237, 1238, 1239, 108, 1235, 1236, 107] (by decide +kernel)
theorem ycw_in : Cond.codeWith yLn method_3_code 5 (some .int) yhh ∈ lw_tbl := List.mem_of_getElem? (i := 1234) (by decide +kernel)
theorem ylw_in : GoodIn lw_tbl (va_wsS "LaughLineLaw" 39 yLn yws2) := by
  have h0 : ∀ w ∈ ([.methodLink "LaughLineLaw" 39 yLn, .static yLn, .initialized "LaughLineLaw"] : List Cond), w ∈ lw_tbl := zin_r [1232, 1233, 107] (by decide +kernel)
  intro w hw
  unfold va_wsS at hw
  rcases List.mem_append.mp hw with hw | hw
  · refine ⟨h0 w ?_, good_of_word ?_⟩
    all_goals (simp only [List.mem_cons, List.not_mem_nil, or_false] at hw; rcases hw with rfl | rfl | rfl <;> first | rfl | simp [yLn])
  · rcases List.mem_cons.mp hw with rfl | hw
    · exact ⟨ycw_in, good_of_word rfl⟩
    · rcases List.mem_append.mp hw with hw | hw
      · exact ⟨yW2_in w hw, good_of_word (List.all_eq_true.mp yW2_good w hw)⟩
      · exact ⟨zTs_in w hw, zCal_ok.2.1 w hw⟩
/-! One call of the reference's rider. -/
def lc1 (q : aQ) (ts : List aY) : Bool := xkq q.2.2.2.2.1 && match acon qW q.2.2.2.2.1 (lE ts) lm (.inr (.inr (.inl 2)) :: lA 4 ts.length) q with
  | some A => A.2.2.all (fun p => lfin p && lint p.2.1)
  | none => false
/-! The loop's head. -/
theorem li_len {n : Nat} (h : n ≤ 3072) : (Int32.ofNat n).toInt = (n : Int) := by
  rw [show Int32.ofNat n = Int32.ofInt (n : Int) from (Int32.ofInt_eq_ofNat).symm, ai32 (by omega) (by omega)]
theorem l6 : ((Int8.ofInt 6).toInt32 : Int32) = Int32.ofInt 6 := by decide
theorem lsub {n : Nat} (h : n ≤ 3072) : (Int32.ofNat n - (Int8.ofInt 6).toInt32).toInt = (n : Int) - 6 := by
  have e : Int32.ofNat n - (Int8.ofInt 6).toInt32 = Int32.ofInt ((n : Int) - 6) := by
    rw [l6, show Int32.ofNat n = Int32.ofInt (n : Int) from (Int32.ofInt_eq_ofNat).symm, ← Int32.ofInt_sub]
  rw [e, ai32 (by omega) (by omega)]
theorem lgt_t {i n : Nat} (hi : i ≤ 3072) (hn : n ≤ 3072) (h : n < i + 6) : zicmp .gt (Int32.ofNat i) (Int32.ofNat n - (Int8.ofInt 6).toInt32) = true := by
  show decide (Int32.ofNat n - (Int8.ofInt 6).toInt32 < Int32.ofNat i) = true
  refine decide_eq_true (Int32.lt_iff_toInt_lt.mpr ?_)
  rw [lsub hn, li_len hi]
  omega
theorem lgt_f {i n : Nat} (hi : i ≤ 3072) (hn : n ≤ 3072) (h : i + 6 ≤ n) : zicmp .gt (Int32.ofNat i) (Int32.ofNat n - (Int8.ofInt 6).toInt32) = false := by
  show decide (Int32.ofNat n - (Int8.ofInt 6).toInt32 < Int32.ofNat i) = false
  refine decide_eq_false (fun q => ?_)
  have := Int32.lt_iff_toInt_lt.mp q
  rw [lsub hn, li_len hi] at this
  omega
theorem lhead_out {nf : Bool} {xs : List Int32} {cl : zL} {h : zH} {i : Nat} (hl : lok cl (Int32.ofNat i)) (hi : i ≤ 3072) (hx : xs.length ≤ 3072) (ho : xs.length < i + 6) : lR nf xs (23, cl, [], h) (1499, cl, [.int 1], h) := by
  have s1 : zLaw nf xs 1 (23, cl, [], h) (25, cl, [.int (Int32.ofNat i)], h) := lone (i := .iload 4) (len := 2) rfl (lsL (by simp only [zstL]; rw [hl.2.2.2.2]))
  have s2 : zLaw nf xs 1 (25, cl, [.int (Int32.ofNat i)], h) (26, cl, [.retAddr 6, .int (Int32.ofNat i)], h) := lone (i := .aload_n 0) (len := 1) rfl (lsL (by simp only [zstL]; rw [show zget cl ((0 : Fin 4) : Nat) = some (.retAddr 6) from hl.1]))
  have s3 : zLaw nf xs 1 (26, cl, [.retAddr 6, .int (Int32.ofNat i)], h) (27, cl, [.int (Int32.ofNat xs.length), .int (Int32.ofNat i)], h) := lone (i := .arraylength) (len := 1) rfl (lsH rfl)
  have s4 : zLaw nf xs 1 (27, cl, [.int (Int32.ofNat xs.length), .int (Int32.ofNat i)], h) (29, cl, [.int (Int8.ofInt 6).toInt32, .int (Int32.ofNat xs.length), .int (Int32.ofNat i)], h) := lone (i := .bipush 6) (len := 2) rfl (lsL rfl)
  have s5 : zLaw nf xs 1 (29, cl, [.int (Int8.ofInt 6).toInt32, .int (Int32.ofNat xs.length), .int (Int32.ofNat i)], h) (30, cl, [.int (Int32.ofNat xs.length - (Int8.ofInt 6).toInt32), .int (Int32.ofNat i)], h) := lone (i := .isub) (len := 1) rfl (lsI rfl)
  have s6 : zLaw nf xs 1 (30, cl, [.int (Int32.ofNat xs.length - (Int8.ofInt 6).toInt32), .int (Int32.ofNat i)], h) (1498, cl, [], h) := by
    refine lone (i := .if_icmp .gt 1468) (len := 3) rfl (lsI ?_)
    show zbr (zicmp .gt (Int32.ofNat i) (Int32.ofNat xs.length - (Int8.ofInt 6).toInt32)) 30 1468 cl [] h = some _
    rw [lgt_t hi hx ho]
    rfl
  have s7 : zLaw nf xs 1 (1498, cl, [], h) (1499, cl, [.int 1], h) := lone (i := .iconst 1) (len := 1) rfl (lsL rfl)
  exact ⟨_, zLaw_trans s1 (zLaw_trans s2 (zLaw_trans s3 (zLaw_trans s4 (zLaw_trans s5 (zLaw_trans s6 s7)))))⟩
theorem lhead_in {nf : Bool} {xs : List Int32} {cl : zL} {h : zH} {i : Nat} (hl : lok cl (Int32.ofNat i)) (hi : i ≤ 3072) (hx : xs.length ≤ 3072) (ho : i + 6 ≤ xs.length) (hd : zidx (Int32.ofNat i) xs.length = true) : lR nf xs (23, cl, [], h) (40, cl, [.int (xs.getD (Int32.ofNat i).toNatClampNeg 0 &&& 63)], h) := by
  have s1 : zLaw nf xs 1 (23, cl, [], h) (25, cl, [.int (Int32.ofNat i)], h) := lone (i := .iload 4) (len := 2) rfl (lsL (by simp only [zstL]; rw [hl.2.2.2.2]))
  have s2 : zLaw nf xs 1 (25, cl, [.int (Int32.ofNat i)], h) (26, cl, [.retAddr 6, .int (Int32.ofNat i)], h) := lone (i := .aload_n 0) (len := 1) rfl (lsL (by simp only [zstL]; rw [show zget cl ((0 : Fin 4) : Nat) = some (.retAddr 6) from hl.1]))
  have s3 : zLaw nf xs 1 (26, cl, [.retAddr 6, .int (Int32.ofNat i)], h) (27, cl, [.int (Int32.ofNat xs.length), .int (Int32.ofNat i)], h) := lone (i := .arraylength) (len := 1) rfl (lsH rfl)
  have s4 : zLaw nf xs 1 (27, cl, [.int (Int32.ofNat xs.length), .int (Int32.ofNat i)], h) (29, cl, [.int (Int8.ofInt 6).toInt32, .int (Int32.ofNat xs.length), .int (Int32.ofNat i)], h) := lone (i := .bipush 6) (len := 2) rfl (lsL rfl)
  have s5 : zLaw nf xs 1 (29, cl, [.int (Int8.ofInt 6).toInt32, .int (Int32.ofNat xs.length), .int (Int32.ofNat i)], h) (30, cl, [.int (Int32.ofNat xs.length - (Int8.ofInt 6).toInt32), .int (Int32.ofNat i)], h) := lone (i := .isub) (len := 1) rfl (lsI rfl)
  have s6 : zLaw nf xs 1 (30, cl, [.int (Int32.ofNat xs.length - (Int8.ofInt 6).toInt32), .int (Int32.ofNat i)], h) (33, cl, [], h) := by
    refine lone (i := .if_icmp .gt 1468) (len := 3) rfl (lsI ?_)
    show zbr (zicmp .gt (Int32.ofNat i) (Int32.ofNat xs.length - (Int8.ofInt 6).toInt32)) 30 1468 cl [] h = some _
    rw [lgt_f hi hx ho]
    rfl
  have s7 : zLaw nf xs 1 (33, cl, [], h) (34, cl, [.retAddr 6], h) := lone (i := .aload_n 0) (len := 1) rfl (lsL (by simp only [zstL]; rw [show zget cl ((0 : Fin 4) : Nat) = some (.retAddr 6) from hl.1]))
  have s8 : zLaw nf xs 1 (34, cl, [.retAddr 6], h) (36, cl, [.int (Int32.ofNat i), .retAddr 6], h) := lone (i := .iload 4) (len := 2) rfl (lsL (by simp only [zstL]; rw [hl.2.2.2.2]))
  have s9 : zLaw nf xs 1 (36, cl, [.int (Int32.ofNat i), .retAddr 6], h) (37, cl, [.int (xs.getD (Int32.ofNat i).toNatClampNeg 0)], h) := lone (i := .iaload) (len := 1) rfl (lsH (by
    have hz : zxarr (zXt nf xs) 6 = some (false, xs) := rfl
    simp only [zstH, hz]
    rw [if_pos hd]))
  have s10 : zLaw nf xs 1 (37, cl, [.int (xs.getD (Int32.ofNat i).toNatClampNeg 0)], h) (39, cl, [.int 63, .int (xs.getD (Int32.ofNat i).toNatClampNeg 0)], h) := lone (i := .bipush 63) (len := 2) rfl (lsL rfl)
  have s11 : zLaw nf xs 1 (39, cl, [.int 63, .int (xs.getD (Int32.ofNat i).toNatClampNeg 0)], h) (40, cl, [.int (xs.getD (Int32.ofNat i).toNatClampNeg 0 &&& 63)], h) := lone (i := .iand) (len := 1) rfl (lsI rfl)
  exact ⟨_, zLaw_trans s1 (zLaw_trans s2 (zLaw_trans s3 (zLaw_trans s4 (zLaw_trans s5 (zLaw_trans s6 (zLaw_trans s7 (zLaw_trans s8 (zLaw_trans s9 (zLaw_trans s10 s11)))))))))⟩
theorem ltail {nf : Bool} {xs : List Int32} {cl : zL} {h : zH} {i : Nat} (hl : lok cl (Int32.ofNat i)) : ∃ cl' : zL, lR nf xs (1492, cl, [], h) (23, cl', [], h) ∧ lok cl' (Int32.ofNat (i + 6)) := by
  refine ⟨zset1 cl 4 (.int (Int32.ofNat i + Int32.ofInt 6)), ⟨2, zLaw_trans (n := 1) (m := 1) (b := (1495, zset1 cl 4 (.int (Int32.ofNat i + Int32.ofInt 6)), [], h)) (lone (i := .iinc 4 6) (len := 3) rfl (lsL (by simp only [zstL]; rw [hl.2.2.2.2]; rfl))) (lgoto (pc := 1495) (q := 23) rfl rfl)⟩, ?_⟩
  have hs : ∀ (k : Nat) (v : Value), ¬ k = 4 → zget cl k = some v → ¬ (k + 1 = 4 ∧ v.category = 2) → zget (zset1 cl 4 (.int (Int32.ofNat i + Int32.ofInt 6))) k = some v := fun k v hk hv hc => by
    unfold zset1
    rw [zget_tl hk]
    refine zget_flt hv ?_
    simp only [Bool.and_eq_true, Bool.not_eq_true', beq_eq_false_iff_ne, Bool.and_eq_false_iff]
    refine ⟨hk, ?_⟩
    by_cases q : k + 1 = 4
    · exact Or.inr (fun e => hc ⟨q, e⟩)
    · exact Or.inl q
  refine ⟨hs 0 _ (by decide) hl.1 (fun q => by cases q.2), hs 1 _ (by decide) hl.2.1 (fun q => by cases q.2), hs 2 _ (by decide) hl.2.2.1 (fun q => by cases q.2), hs 3 _ (by decide) hl.2.2.2.1 (fun q => by cases q.2), ?_⟩
  unfold zset1
  rw [zget_hd]
  congr 2
  rw [show Int32.ofNat i = Int32.ofInt (i : Int) from (Int32.ofInt_eq_ofNat).symm, show Int32.ofNat (i + 6) = Int32.ofInt ((i + 6 : Nat) : Int) from (Int32.ofInt_eq_ofNat).symm, ← Int32.ofInt_add]
  rfl
theorem lidx {i n j : Nat} (hn : n ≤ 3072) (h : i + j < n) : zidx (Int32.ofNat i + Int32.ofInt (j : Int)) n = true := by
  have e : Int32.ofNat i + Int32.ofInt (j : Int) = Int32.ofInt ((i + j : Nat) : Int) := by
    rw [show Int32.ofNat i = Int32.ofInt (i : Int) from (Int32.ofInt_eq_ofNat).symm, ← Int32.ofInt_add]
    rfl
  have t : (Int32.ofInt ((i + j : Nat) : Int)).toInt = ((i + j : Nat) : Int) := ai32 (by omega) (by omega)
  rw [e]
  unfold zidx
  rw [Bool.and_eq_true]
  refine ⟨?_, decide_eq_true ?_⟩
  · have : ¬ Int32.ofInt ((i + j : Nat) : Int) < 0 := fun q => by
      have q := Int32.lt_iff_toInt_lt.mp q
      rw [t] at q
      have : (0 : Int32).toInt = 0 := rfl
      omega
    show (!decide (Int32.ofInt ((i + j : Nat) : Int) < 0)) = true
    rw [decide_eq_false this]
    rfl
  · show (Int32.ofInt ((i + j : Nat) : Int)).toInt.toNat < n
    rw [t]
    omega
theorem lin_ok {i : Nat} {xs : List Int32} (hn : xs.length ≤ 3072) (h : i + 6 ≤ xs.length) : lin xs (Int32.ofNat i) := by
  refine ⟨?_, fun j h1 h2 => ?_⟩
  · have := lidx (i := i) (j := 0) hn (by omega)
    rw [show Int32.ofInt ((0 : Nat) : Int) = 0 from rfl] at this
    simpa using this
  · have := lidx (i := i) (j := j.toNat) hn (by omega)
    rw [show ((j.toNat : Nat) : Int) = j by omega] at this
    exact this
/-! The switch. -/
def yoffs : List Nat := [204, 277, 302, 327, 364, 404, 441, 478, 515, 552, 577, 626, 679, 716, 781, 806, 843, 868, 881, 918, 967, 992, 1017, 1054, 1103, 1140, 1153, 1178, 1243, 1268, 1293, 1318, 1379, 1428, 1441, 1454, 1467]
theorem ysw_def (nf : Bool) (xs : List Int32) (y : Int32) (cl : zL) (h : zH) (hd : y.toInt < 0 ∨ 36 < y.toInt) : lR nf xs (40, cl, [.int y], h) (1492, cl, [], h) := by
  refine ⟨1, lone (i := .tableswitch 1452 0 36 #[164, 237, 262, 287, 324, 364, 401, 438, 475, 512, 537, 586, 639, 676, 741, 766, 803, 828, 841, 878, 927, 952, 977, 1014, 1063, 1100, 1113, 1138, 1203, 1228, 1253, 1278, 1339, 1388, 1401, 1414, 1427]) (len := 164) rfl (lsI ?_)⟩
  dsimp only [zstI]
  rw [if_pos hd]
  rfl
theorem ysw_in (nf : Bool) (xs : List Int32) (y : Int32) (hd : ¬ (y.toInt < 0 ∨ 36 < y.toInt)) : ∃ k p : Nat, yoffs[k]? = some p ∧ ∀ (cl : zL) (h : zH), lR nf xs (40, cl, [.int y], h) (p, cl, [], h) := by
  have h0 : 0 ≤ y.toInt ∧ y.toInt ≤ 36 := by omega
  obtain ⟨k, hk⟩ : ∃ k : Nat, y.toInt = (k : Int) := ⟨y.toInt.toNat, by omega⟩
  have hk2 : k ≤ 36 := by omega
  have hlk : ∀ k : Nat, k ≤ 36 → ∃ p : Nat, yoffs[k]? = some p ∧ ∃ off : Int, (#[164, 237, 262, 287, 324, 364, 401, 438, 475, 512, 537, 586, 639, 676, 741, 766, 803, 828, 841, 878, 927, 952, 977, 1014, 1063, 1100, 1113, 1138, 1203, 1228, 1253, 1278, 1339, 1388, 1401, 1414, 1427] : Array Int)[k]? = some off ∧ (40 : Int) + off = (p : Int) := by decide
  obtain ⟨p, hp, off, ho, he⟩ := hlk k hk2
  refine ⟨k, p, hp, fun cl h => ⟨1, lone (i := .tableswitch 1452 0 36 #[164, 237, 262, 287, 324, 364, 401, 438, 475, 512, 537, 586, 639, 676, 741, 766, 803, 828, 841, 878, 927, 952, 977, 1014, 1063, 1100, 1113, 1138, 1203, 1228, 1253, 1278, 1339, 1388, 1401, 1414, 1427]) (len := 164) rfl (lsI ?_)⟩⟩
  dsimp only [zstI]
  rw [if_neg hd, hk, show ((k : Int) - 0).toNat = k by omega, ho]
  dsimp only
  unfold zjump
  rw [show ((40 : Nat) : Int) + off = (p : Int) from he, if_pos (Int.natCast_nonneg p)]
  rfl
/-- the plain cases -/
theorem lplainc {nf : Bool} {xs : List Int32} {i : Int32} {cl : zL} {h : zH} {k p : Nat} (hp : yoffs[k]? = some p) (h4 : ¬ k = 4) (h10 : ¬ k = 10) (hl : lok cl i) (hi : lin xs i) (hI : lInq h) : ∃ h2 : zH, lR nf xs (p, cl, [], h) (1492, cl, [], h2) ∧ lInq h2 ∧ h2.length = h.length := by
  have hk : k < 37 := (List.getElem?_eq_some_iff.mp hp).1
  match k, hk, hp, h4, h10 with
  | 0, _, hp, _, _ => cases hp; exact lw0 hl hi hI
  | 1, _, hp, _, _ => cases hp; exact lw1 hl hi hI
  | 2, _, hp, _, _ => cases hp; exact lw2 hl hi hI
  | 3, _, hp, _, _ => cases hp; exact lw3 hl hi hI
  | 4, _, _, h4, h10 => first | exact absurd rfl h4 | exact absurd rfl h10
  | 5, _, hp, _, _ => cases hp; exact lw5 hl hi hI
  | 6, _, hp, _, _ => cases hp; exact lw6 hl hi hI
  | 7, _, hp, _, _ => cases hp; exact lw7 hl hi hI
  | 8, _, hp, _, _ => cases hp; exact lw8 hl hi hI
  | 9, _, hp, _, _ => cases hp; exact lw9 hl hi hI
  | 10, _, _, h4, h10 => first | exact absurd rfl h4 | exact absurd rfl h10
  | 11, _, hp, _, _ => cases hp; exact lw11 hl hi hI
  | 12, _, hp, _, _ => cases hp; exact lw12 hl hi hI
  | 13, _, hp, _, _ => cases hp; exact lw13 hl hi hI
  | 14, _, hp, _, _ => cases hp; exact lw14 hl hi hI
  | 15, _, hp, _, _ => cases hp; exact lw15 hl hi hI
  | 16, _, hp, _, _ => cases hp; exact lw16 hl hi hI
  | 17, _, hp, _, _ => cases hp; exact lw17 hl hi hI
  | 18, _, hp, _, _ => cases hp; exact lw18 hl hi hI
  | 19, _, hp, _, _ => cases hp; exact lw19 hl hi hI
  | 20, _, hp, _, _ => cases hp; exact lw20 hl hi hI
  | 21, _, hp, _, _ => cases hp; exact lw21 hl hi hI
  | 22, _, hp, _, _ => cases hp; exact lw22 hl hi hI
  | 23, _, hp, _, _ => cases hp; exact lw23 hl hi hI
  | 24, _, hp, _, _ => cases hp; exact lw24 hl hi hI
  | 25, _, hp, _, _ => cases hp; exact lw25 hl hi hI
  | 26, _, hp, _, _ => cases hp; exact lw26 hl hi hI
  | 27, _, hp, _, _ => cases hp; exact lw27 hl hi hI
  | 28, _, hp, _, _ => cases hp; exact lw28 hl hi hI
  | 29, _, hp, _, _ => cases hp; exact lw29 hl hi hI
  | 30, _, hp, _, _ => cases hp; exact lw30 hl hi hI
  | 31, _, hp, _, _ => cases hp; exact lw31 hl hi hI
  | 32, _, hp, _, _ => cases hp; exact lw32 hl hi hI
  | 33, _, hp, _, _ => cases hp; exact lw33 hl hi hI
  | 34, _, hp, _, _ => cases hp; exact lw34 hl hi hI
  | 35, _, hp, _, _ => cases hp; exact lw35 hl hi hI
  | 36, _, hp, _, _ => cases hp; exact lw36 hl hi hI
  | k + 37, hk, _, _, _ => exact absurd hk (by omega)
