def zAll {α : Type} (P : Nat → α → Prop) : Nat → List α → Prop
  | _, [] => True
  | i, x :: xs => P i x ∧ zAll P (i + 1) xs
theorem zAll_get {α : Type} {P : Nat → α → Prop} : ∀ {l : List α} {i k : Nat} {q : α}, zAll P i l → l[k]? = some q → P (i + k) q
  | [], _, _, _, _, h => by simp at h
  | x :: xs, i, 0, q, ha, h => by
    simp at h
    subst h
    exact ha.1
  | x :: xs, i, k + 1, q, ha, h => by
    have h1 : xs[k]? = some q := by simpa using h
    have h2 := zAll_get ha.2 h1
    rw [show i + (k + 1) = i + 1 + k by omega]
    exact h2
theorem zAll_app {α : Type} {P : Nat → α → Prop} : ∀ {l1 l2 : List α} {i : Nat}, zAll P i l1 → zAll P (i + l1.length) l2 → zAll P i (l1 ++ l2)
  | [], l2, i, _, h => h
  | x :: xs, l2, i, h1, h2 => ⟨h1.1, zAll_app h1.2 (by rw [show i + 1 + xs.length = i + (x :: xs).length by simp; omega]; exact h2)⟩
abbrev zMe : Type := Nat × Bool × Nat × Option FieldType × (Nat → Option (Instr × Nat))
def zPm (i : Nat) (q : zMe) : Prop := Cond.code (zY i).1 (zY i).2 q.2.2.1 q.2.2.2.1 ∈ zTs ∧ (zY i).1.cls = zown q.1 ∧ zmcl i = q.1 ∧ plainName (zY i).1.cls = true ∧ (q.2.2.1 ≤ 45 ∧ q.1 < 1000) ∧ (q.2.1 = true → (zY i).1.name = "<init>") ∧ ∀ (pc : Nat) (i' : Instr) (len : Nat), q.2.2.2.2 pc = some (i', len) → decode (zY i).2 pc = .ok (i', len) ∧ zlok i' len = true
theorem zPm_of {i : Nat} {y : MethodName × ByteArray} {q : zMe} (hy : zY i = y) (h1 : Cond.code y.1 y.2 q.2.2.1 q.2.2.2.1 ∈ zTs) (h2 : y.1.cls = zown q.1) (h3 : zmcl i = q.1) (h4 : plainName y.1.cls = true) (h5 : q.2.2.1 ≤ 45 ∧ q.1 < 1000) (h6 : q.2.1 = true → y.1.name = "<init>") (h7 : ∀ (pc : Nat) (i' : Instr) (len : Nat), q.2.2.2.2 pc = some (i', len) → decode y.2 pc = .ok (i', len) ∧ zlok i' len = true) : zPm i q := by
  unfold zPm
  rw [hy]
  exact ⟨h1, h2, h3, h4, h5, h6, h7⟩
set_option maxRecDepth 100000 in
theorem zp0 : zPm 0 (0, true, 1, none, zt0) := zPm_of (y := (⟨"LaughLine$Laws", "<init>", "()V"⟩, prog_2_method_1_code)) rfl zc0 rfl rfl (by decide +kernel) (by decide) (fun _ => rfl) zk0
set_option maxRecDepth 100000 in
theorem zp1 : zPm 1 (0, false, 2, none, zt1) := zPm_of (y := (⟨"LaughLine$Laws", "clear", "()V"⟩, prog_2_method_2_code)) rfl zc1 rfl rfl (by decide +kernel) (by decide) (fun h => by cases h) zk1
set_option maxRecDepth 100000 in
theorem zp2 : zPm 2 (0, false, 2, some .boolean, zt2) := zPm_of (y := (⟨"LaughLine$Laws", "stands", "(I)Z"⟩, prog_2_method_3_code)) rfl zc2 rfl rfl (by decide +kernel) (by decide) (fun h => by cases h) zk2
set_option maxRecDepth 100000 in
theorem zp3 : zPm 3 (0, false, 2, none, zt3) := zPm_of (y := (⟨"LaughLine$Laws", "begin", "(I)V"⟩, prog_2_method_4_code)) rfl zc3 rfl rfl (by decide +kernel) (by decide) (fun h => by cases h) zk3
set_option maxRecDepth 100000 in
theorem zp4 : zPm 4 (0, false, 2, none, zt4) := zPm_of (y := (⟨"LaughLine$Laws", "end", "(I)V"⟩, prog_2_method_5_code)) rfl zc4 rfl rfl (by decide +kernel) (by decide) (fun h => by cases h) zk4
set_option maxRecDepth 100000 in
theorem zp5 : zPm 5 (0, false, 3, none, zt5) := zPm_of (y := (⟨"LaughLine$Laws", "put", "(II)V"⟩, prog_2_method_6_code)) rfl zc5 rfl rfl (by decide +kernel) (by decide) (fun h => by cases h) zk5
set_option maxRecDepth 100000 in
theorem zp6 : zPm 6 (0, false, 8, none, zt6) := zPm_of (y := (⟨"LaughLine$Laws", "setNames", "(IIIIIII)V"⟩, prog_2_method_7_code)) rfl zc6 rfl rfl (by decide +kernel) (by decide) (fun h => by cases h) zk6
set_option maxRecDepth 100000 in
theorem zp7 : zPm 7 (0, false, 6, some .long, zt7) := zPm_of (y := (⟨"LaughLine$Laws", "work", "(I)J"⟩, prog_2_method_8_code)) rfl zc7 rfl rfl (by decide +kernel) (by decide) (fun h => by cases h) zk7
set_option maxRecDepth 100000 in
theorem zp8 : zPm 8 (0, false, 10, some .long, zt8) := zPm_of (y := (⟨"LaughLine$Laws", "join", "(IJJ)J"⟩, prog_2_method_9_code)) rfl zc8 rfl rfl (by decide +kernel) (by decide) (fun h => by cases h) zk8
set_option maxRecDepth 100000 in
theorem zp9 : zPm 9 (1, true, 1, none, zt9) := zPm_of (y := (⟨"LaughLine$Notes", "<init>", "()V"⟩, prog_3_method_1_code)) rfl zc9 rfl rfl (by decide +kernel) (by decide) (fun _ => rfl) zk9
set_option maxRecDepth 100000 in
theorem zp10 : zPm 10 (1, false, 1, none, zt10) := zPm_of (y := (⟨"LaughLine$Notes", "clear", "()V"⟩, prog_3_method_2_code)) rfl zc10 rfl rfl (by decide +kernel) (by decide) (fun h => by cases h) zk10
set_option maxRecDepth 100000 in
theorem zp11 : zPm 11 (1, false, 1, some .int, zt11) := zPm_of (y := (⟨"LaughLine$Notes", "knownCount", "()I"⟩, prog_3_method_3_code)) rfl zc11 rfl rfl (by decide +kernel) (by decide) (fun h => by cases h) zk11
set_option maxRecDepth 100000 in
theorem zp12 : zPm 12 (1, false, 4, some .int, zt12) := zPm_of (y := (⟨"LaughLine$Notes", "add", "(IIZ)I"⟩, prog_3_method_4_code)) rfl zc12 rfl rfl (by decide +kernel) (by decide) (fun h => by cases h) zk12
set_option maxRecDepth 100000 in
theorem zp13 : zPm 13 (1, false, 2, some .int, zt13) := zPm_of (y := (⟨"LaughLine$Notes", "addStrike", "(I)I"⟩, prog_3_method_5_code)) rfl zc13 rfl rfl (by decide +kernel) (by decide) (fun h => by cases h) zk13
set_option maxRecDepth 100000 in
theorem zp14 : zPm 14 (1, false, 3, none, zt14) := zPm_of (y := (⟨"LaughLine$Notes", "findStruck", "()V"⟩, prog_3_method_6_code)) rfl zc14 rfl rfl (by decide +kernel) (by decide) (fun h => by cases h) zk14
set_option maxRecDepth 100000 in
theorem zp15 : zPm 15 (1, false, 6, some .boolean, zt15) := zPm_of (y := (⟨"LaughLine$Notes", "agree", "(LLaughLine$Ride;)Z"⟩, prog_3_method_7_code)) rfl zc15 rfl rfl (by decide +kernel) (by decide) (fun h => by cases h) zk15
set_option maxRecDepth 100000 in
theorem zp16 : zPm 16 (2, true, 1, none, zt16) := zPm_of (y := (⟨"LaughLine$Passenger", "<init>", "()V"⟩, prog_4_method_1_code)) rfl zc16 rfl rfl (by decide +kernel) (by decide) (fun _ => rfl) zk16
set_option maxRecDepth 100000 in
theorem zp17 : zPm 17 (2, false, 4, none, zt17) := zPm_of (y := (⟨"LaughLine$Passenger", "begin", "(II)V"⟩, prog_4_method_2_code)) rfl zc17 rfl rfl (by decide +kernel) (by decide) (fun h => by cases h) zk17
set_option maxRecDepth 100000 in
theorem zp18 : zPm 18 (2, false, 1, none, zt18) := zPm_of (y := (⟨"LaughLine$Passenger", "board", "()V"⟩, prog_4_method_3_code)) rfl zc18 rfl rfl (by decide +kernel) (by decide) (fun h => by cases h) zk18
set_option maxRecDepth 100000 in
theorem zp19 : zPm 19 (2, false, 3, none, zt19) := zPm_of (y := (⟨"LaughLine$Passenger", "copy", "(LLaughLine$Passenger;)V"⟩, prog_4_method_4_code)) rfl zc19 rfl rfl (by decide +kernel) (by decide) (fun h => by cases h) zk19
set_option maxRecDepth 100000 in
theorem zp20 : zPm 20 (3, true, 1, none, zt20) := zPm_of (y := (⟨"LaughLine$Plan", "<init>", "()V"⟩, prog_5_method_1_code)) rfl zc20 rfl rfl (by decide +kernel) (by decide) (fun _ => rfl) zk20
set_option maxRecDepth 100000 in
theorem zp21 : zPm 21 (3, false, 2, none, zt21) := zPm_of (y := (⟨"LaughLine$Plan", "clear", "()V"⟩, prog_5_method_2_code)) rfl zc21 rfl rfl (by decide +kernel) (by decide) (fun h => by cases h) zk21
set_option maxRecDepth 100000 in
theorem zp22 : zPm 22 (3, false, 2, some (.object "LaughLine$Table"), zt22) := zPm_of (y := (⟨"LaughLine$Plan", "table", "(I)LLaughLine$Table;"⟩, prog_5_method_3_code)) rfl zc22 rfl rfl (by decide +kernel) (by decide) (fun h => by cases h) zk22
set_option maxRecDepth 100000 in
theorem zp23 : zPm 23 (3, false, 1, none, zt23) := zPm_of (y := (⟨"LaughLine$Plan", "settle", "()V"⟩, prog_5_method_4_code)) rfl zc23 rfl rfl (by decide +kernel) (by decide) (fun h => by cases h) zk23
set_option maxRecDepth 100000 in
theorem zp24 : zPm 24 (3, false, 3, some .boolean, zt24) := zPm_of (y := (⟨"LaughLine$Plan", "isDark", "(I)Z"⟩, prog_5_method_5_code)) rfl zc24 rfl rfl (by decide +kernel) (by decide) (fun h => by cases h) zk24
set_option maxRecDepth 100000 in
theorem zp25 : zPm 25 (3, false, 4, some .int, zt25) := zPm_of (y := (⟨"LaughLine$Plan", "funInSight", "(I)I"⟩, prog_5_method_6_code)) rfl zc25 rfl rfl (by decide +kernel) (by decide) (fun h => by cases h) zk25
set_option maxRecDepth 100000 in
theorem zp26 : zPm 26 (4, true, 1, none, zt26) := zPm_of (y := (⟨"LaughLine$Reader", "<init>", "()V"⟩, prog_6_method_1_code)) rfl zc26 rfl rfl (by decide +kernel) (by decide) (fun _ => rfl) zk26
set_option maxRecDepth 100000 in
theorem zp27 : zPm 27 (4, false, 5, some .boolean, zt27) := zPm_of (y := (⟨"LaughLine$Reader", "read", "([IILLaughLine$Plan;)Z"⟩, prog_6_method_2_code)) rfl zc27 rfl rfl (by decide +kernel) (by decide) (fun h => by cases h) zk27
set_option maxRecDepth 100000 in
theorem zp28 : zPm 28 (4, false, 2, some .boolean, zt28) := zPm_of (y := (⟨"LaughLine$Reader", "refuse", "(I)Z"⟩, prog_6_method_3_code)) rfl zc28 rfl rfl (by decide +kernel) (by decide) (fun h => by cases h) zk28
set_option maxRecDepth 100000 in
theorem zp29 : zPm 29 (4, false, 6, some .boolean, zt29) := zPm_of (y := (⟨"LaughLine$Reader", "readLine", "(LLaughLine$Plan;)Z"⟩, prog_6_method_4_code)) rfl zc29 rfl rfl (by decide +kernel) (by decide) (fun h => by cases h) zk29
set_option maxRecDepth 100000 in
theorem zp30 : zPm 30 (4, false, 1, some .boolean, zt30) := zPm_of (y := (⟨"LaughLine$Reader", "readEnd", "()Z"⟩, prog_6_method_5_code)) rfl zc30 rfl rfl (by decide +kernel) (by decide) (fun h => by cases h) zk30
set_option maxRecDepth 100000 in
theorem zp31 : zPm 31 (4, false, 6, some .boolean, zt31) := zPm_of (y := (⟨"LaughLine$Reader", "readName", "(LLaughLine$Plan;I)Z"⟩, prog_6_method_6_code)) rfl zc31 rfl rfl (by decide +kernel) (by decide) (fun h => by cases h) zk31
set_option maxRecDepth 100000 in
theorem zp32 : zPm 32 (4, false, 5, some .boolean, zt32) := zPm_of (y := (⟨"LaughLine$Reader", "readNumber", "(LLaughLine$Table;II)Z"⟩, prog_6_method_7_code)) rfl zc32 rfl rfl (by decide +kernel) (by decide) (fun h => by cases h) zk32
set_option maxRecDepth 100000 in
theorem zp33 : zPm 33 (4, false, 4, some .int, zt33) := zPm_of (y := (⟨"LaughLine$Reader", "least", "(LLaughLine$Table;II)I"⟩, prog_6_method_8_code)) rfl zc33 rfl rfl (by decide +kernel) (by decide) (fun h => by cases h) zk33
set_option maxRecDepth 100000 in
theorem zp34 : zPm 34 (4, false, 3, some .int, zt34) := zPm_of (y := (⟨"LaughLine$Reader", "mostOf", "(II)I"⟩, prog_6_method_9_code)) rfl zc34 rfl rfl (by decide +kernel) (by decide) (fun h => by cases h) zk34
set_option maxRecDepth 100000 in
theorem zp35 : zPm 35 (4, false, 4, some .boolean, zt35) := zPm_of (y := (⟨"LaughLine$Reader", "isToldAlready", "(LLaughLine$Table;)Z"⟩, prog_6_method_10_code)) rfl zc35 rfl rfl (by decide +kernel) (by decide) (fun h => by cases h) zk35
set_option maxRecDepth 100000 in
theorem zp36 : zPm 36 (4, false, 3, some .boolean, zt36) := zPm_of (y := (⟨"LaughLine$Reader", "readLaw", "(LLaughLine$Laws;)Z"⟩, prog_6_method_11_code)) rfl zc36 rfl rfl (by decide +kernel) (by decide) (fun h => by cases h) zk36
set_option maxRecDepth 100000 in
theorem zp37 : zPm 37 (4, false, 5, some .boolean, zt37) := zPm_of (y := (⟨"LaughLine$Reader", "readExpression", "(LLaughLine$Laws;)Z"⟩, prog_6_method_12_code)) rfl zc37 rfl rfl (by decide +kernel) (by decide) (fun h => by cases h) zk37
set_option maxRecDepth 100000 in
theorem zp38 : zPm 38 (4, false, 1, some .boolean, zt38) := zPm_of (y := (⟨"LaughLine$Reader", "isQuantity", "(I)Z"⟩, prog_6_method_13_code)) rfl zc38 rfl rfl (by decide +kernel) (by decide) (fun h => by cases h) zk38
set_option maxRecDepth 100000 in
theorem zp39 : zPm 39 (4, false, 3, some .boolean, zt39) := zPm_of (y := (⟨"LaughLine$Reader", "readBegin", "(LLaughLine$Laws;)Z"⟩, prog_6_method_14_code)) rfl zc39 rfl rfl (by decide +kernel) (by decide) (fun h => by cases h) zk39
set_option maxRecDepth 100000 in
theorem zp40 : zPm 40 (4, false, 4, some .boolean, zt40) := zPm_of (y := (⟨"LaughLine$Reader", "readBehind", "(LLaughLine$Laws;)Z"⟩, prog_6_method_15_code)) rfl zc40 rfl rfl (by decide +kernel) (by decide) (fun h => by cases h) zk40
set_option maxRecDepth 100000 in
theorem zp41 : zPm 41 (4, false, 1, some .boolean, zt41) := zPm_of (y := (⟨"LaughLine$Reader", "countKnot", "()Z"⟩, prog_6_method_16_code)) rfl zc41 rfl rfl (by decide +kernel) (by decide) (fun h => by cases h) zk41
set_option maxRecDepth 100000 in
theorem zp42 : zPm 42 (4, false, 1, some .int, zt42) := zPm_of (y := (⟨"LaughLine$Reader", "top", "()I"⟩, prog_6_method_17_code)) rfl zc42 rfl rfl (by decide +kernel) (by decide) (fun h => by cases h) zk42
set_option maxRecDepth 100000 in
theorem zp43 : zPm 43 (4, false, 2, none, zt43) := zPm_of (y := (⟨"LaughLine$Reader", "hold", "(I)V"⟩, prog_6_method_18_code)) rfl zc43 rfl rfl (by decide +kernel) (by decide) (fun h => by cases h) zk43
set_option maxRecDepth 100000 in
theorem zp44 : zPm 44 (4, false, 4, none, zt44) := zPm_of (y := (⟨"LaughLine$Reader", "release", "(LLaughLine$Laws;I)V"⟩, prog_6_method_19_code)) rfl zc44 rfl rfl (by decide +kernel) (by decide) (fun h => by cases h) zk44
set_option maxRecDepth 100000 in
theorem zp45 : zPm 45 (4, false, 1, some .int, zt45) := zPm_of (y := (⟨"LaughLine$Reader", "strength", "(I)I"⟩, prog_6_method_20_code)) rfl zc45 rfl rfl (by decide +kernel) (by decide) (fun h => by cases h) zk45
set_option maxRecDepth 100000 in
theorem zp46 : zPm 46 (5, true, 3, none, zt46) := zPm_of (y := (⟨"LaughLine$Ride", "<init>", "(LLaughLine$Plan;)V"⟩, prog_7_method_1_code)) rfl zc46 rfl rfl (by decide +kernel) (by decide) (fun _ => rfl) zk46
set_option maxRecDepth 100000 in
theorem zp47 : zPm 47 (5, false, 3, none, zt47) := zPm_of (y := (⟨"LaughLine$Ride", "begin", "(LLaughLine$Plan;)V"⟩, prog_7_method_2_code)) rfl zc47 rfl rfl (by decide +kernel) (by decide) (fun h => by cases h) zk47
set_option maxRecDepth 100000 in
theorem zp48 : zPm 48 (5, false, 3, none, zt48) := zPm_of (y := (⟨"LaughLine$Ride", "copy", "(LLaughLine$Ride;)V"⟩, prog_7_method_3_code)) rfl zc48 rfl rfl (by decide +kernel) (by decide) (fun h => by cases h) zk48
set_option maxRecDepth 100000 in
theorem zp49 : zPm 49 (5, false, 3, some .boolean, zt49) := zPm_of (y := (⟨"LaughLine$Ride", "isTold", "(II)Z"⟩, prog_7_method_4_code)) rfl zc49 rfl rfl (by decide +kernel) (by decide) (fun h => by cases h) zk49
set_option maxRecDepth 100000 in
theorem zp50 : zPm 50 (5, false, 4, none, zt50) := zPm_of (y := (⟨"LaughLine$Ride", "setTold", "(IIZ)V"⟩, prog_7_method_5_code)) rfl zc50 rfl rfl (by decide +kernel) (by decide) (fun h => by cases h) zk50
set_option maxRecDepth 100000 in
theorem zp51 : zPm 51 (5, false, 3, some .int, zt51) := zPm_of (y := (⟨"LaughLine$Ride", "tellingCount", "()I"⟩, prog_7_method_6_code)) rfl zc51 rfl rfl (by decide +kernel) (by decide) (fun h => by cases h) zk51
set_option maxRecDepth 100000 in
theorem zp52 : zPm 52 (5, false, 3, some .int, zt52) := zPm_of (y := (⟨"LaughLine$Ride", "aboardCount", "()I"⟩, prog_7_method_7_code)) rfl zc52 rfl rfl (by decide +kernel) (by decide) (fun h => by cases h) zk52
set_option maxRecDepth 100000 in
theorem zp53 : zPm 53 (5, false, 3, some .int, zt53) := zPm_of (y := (⟨"LaughLine$Ride", "deafBits", "()I"⟩, prog_7_method_8_code)) rfl zc53 rfl rfl (by decide +kernel) (by decide) (fun h => by cases h) zk53
set_option maxRecDepth 100000 in
theorem zp54 : zPm 54 (5, false, 3, none, zt54) := zPm_of (y := (⟨"LaughLine$Ride", "stopEars", "(I)V"⟩, prog_7_method_9_code)) rfl zc54 rfl rfl (by decide +kernel) (by decide) (fun h => by cases h) zk54
set_option maxRecDepth 100000 in
theorem zp55 : zPm 55 (5, false, 2, none, zt55) := zPm_of (y := (⟨"LaughLine$Ride", "openEars", "()V"⟩, prog_7_method_10_code)) rfl zc55 rfl rfl (by decide +kernel) (by decide) (fun h => by cases h) zk55
set_option maxRecDepth 100000 in
theorem zp56 : zPm 56 (5, false, 4, none, zt56) := zPm_of (y := (⟨"LaughLine$Ride", "advance", "(ILLaughLine$Twist;)V"⟩, prog_7_method_11_code)) rfl zc56 rfl rfl (by decide +kernel) (by decide) (fun h => by cases h) zk56
set_option maxRecDepth 100000 in
theorem zp57 : zPm 57 (5, false, 4, none, zt57) := zPm_of (y := (⟨"LaughLine$Ride", "finishDay", "(LLaughLine$Twist;)V"⟩, prog_7_method_12_code)) rfl zc57 rfl rfl (by decide +kernel) (by decide) (fun h => by cases h) zk57
set_option maxRecDepth 100000 in
theorem zp58 : zPm 58 (5, false, 4, none, zt58) := zPm_of (y := (⟨"LaughLine$Ride", "rideOut", "(LLaughLine$Twist;)V"⟩, prog_7_method_13_code)) rfl zc58 rfl rfl (by decide +kernel) (by decide) (fun h => by cases h) zk58
set_option maxRecDepth 100000 in
theorem zp59 : zPm 59 (5, false, 4, none, zt59) := zPm_of (y := (⟨"LaughLine$Ride", "oneMile", "(LLaughLine$Twist;)V"⟩, prog_7_method_14_code)) rfl zc59 rfl rfl (by decide +kernel) (by decide) (fun h => by cases h) zk59
set_option maxRecDepth 100000 in
theorem zp60 : zPm 60 (5, false, 7, none, zt60) := zPm_of (y := (⟨"LaughLine$Ride", "cheer", "(IILLaughLine$Twist;)V"⟩, prog_7_method_15_code)) rfl zc60 rfl rfl (by decide +kernel) (by decide) (fun h => by cases h) zk60
set_option maxRecDepth 100000 in
theorem zp61 : zPm 61 (5, false, 8, some .int, zt61) := zPm_of (y := (⟨"LaughLine$Ride", "mirth", "(IIILLaughLine$Twist;)I"⟩, prog_7_method_16_code)) rfl zc61 rfl rfl (by decide +kernel) (by decide) (fun h => by cases h) zk61
set_option maxRecDepth 100000 in
theorem zp62 : zPm 62 (5, false, 2, some .int, zt62) := zPm_of (y := (⟨"LaughLine$Ride", "cut", "(J)I"⟩, prog_7_method_17_code)) rfl zc62 rfl rfl (by decide +kernel) (by decide) (fun h => by cases h) zk62
set_option maxRecDepth 100000 in
theorem zp63 : zPm 63 (5, false, 8, none, zt63) := zPm_of (y := (⟨"LaughLine$Ride", "nameMirth", "(IIILLaughLine$Twist;)V"⟩, prog_7_method_18_code)) rfl zc63 rfl rfl (by decide +kernel) (by decide) (fun h => by cases h) zk63
set_option maxRecDepth 100000 in
theorem zp64 : zPm 64 (5, false, 2, none, zt64) := zPm_of (y := (⟨"LaughLine$Ride", "nameMood", "(I)V"⟩, prog_7_method_19_code)) rfl zc64 rfl rfl (by decide +kernel) (by decide) (fun h => by cases h) zk64
set_option maxRecDepth 100000 in
theorem zp65 : zPm 65 (5, false, 5, some .boolean, zt65) := zPm_of (y := (⟨"LaughLine$Ride", "laughter", "(LLaughLine$Twist;)Z"⟩, prog_7_method_20_code)) rfl zc65 rfl rfl (by decide +kernel) (by decide) (fun h => by cases h) zk65
set_option maxRecDepth 100000 in
theorem zp66 : zPm 66 (5, false, 5, some .boolean, zt66) := zPm_of (y := (⟨"LaughLine$Ride", "isAmused", "(ILLaughLine$Passenger;)Z"⟩, prog_7_method_21_code)) rfl zc66 rfl rfl (by decide +kernel) (by decide) (fun h => by cases h) zk66
set_option maxRecDepth 100000 in
theorem zp67 : zPm 67 (5, false, 4, none, zt67) := zPm_of (y := (⟨"LaughLine$Ride", "spread", "(I)V"⟩, prog_7_method_22_code)) rfl zc67 rfl rfl (by decide +kernel) (by decide) (fun h => by cases h) zk67
set_option maxRecDepth 100000 in
theorem zp68 : zPm 68 (5, false, 4, none, zt68) := zPm_of (y := (⟨"LaughLine$Ride", "letOut", "()V"⟩, prog_7_method_23_code)) rfl zc68 rfl rfl (by decide +kernel) (by decide) (fun h => by cases h) zk68
set_option maxRecDepth 100000 in
theorem zp69 : zPm 69 (5, false, 3, none, zt69) := zPm_of (y := (⟨"LaughLine$Ride", "calmDown", "()V"⟩, prog_7_method_24_code)) rfl zc69 rfl rfl (by decide +kernel) (by decide) (fun h => by cases h) zk69
set_option maxRecDepth 100000 in
theorem zp70 : zPm 70 (5, false, 4, some .int, zt70) := zPm_of (y := (⟨"LaughLine$Ride", "calmness", "(I)I"⟩, prog_7_method_25_code)) rfl zc70 rfl rfl (by decide +kernel) (by decide) (fun h => by cases h) zk70
set_option maxRecDepth 100000 in
theorem zp71 : zPm 71 (5, false, 4, none, zt71) := zPm_of (y := (⟨"LaughLine$Ride", "newDay", "(LLaughLine$Twist;)V"⟩, prog_7_method_26_code)) rfl zc71 rfl rfl (by decide +kernel) (by decide) (fun h => by cases h) zk71
set_option maxRecDepth 100000 in
theorem zp72 : zPm 72 (6, true, 6, none, zt72) := zPm_of (y := (⟨"LaughLine$Scanner", "<init>", "()V"⟩, prog_8_method_1_code)) rfl zc72 rfl rfl (by decide +kernel) (by decide) (fun _ => rfl) zk72
set_option maxRecDepth 100000 in
theorem zp73 : zPm 73 (6, false, 3, none, zt73) := zPm_of (y := (⟨"LaughLine$Scanner", "start", "([II)V"⟩, prog_8_method_2_code)) rfl zc73 rfl rfl (by decide +kernel) (by decide) (fun h => by cases h) zk73
set_option maxRecDepth 100000 in
theorem zp74 : zPm 74 (6, false, 1, some .int, zt74) := zPm_of (y := (⟨"LaughLine$Scanner", "peek", "()I"⟩, prog_8_method_3_code)) rfl zc74 rfl rfl (by decide +kernel) (by decide) (fun h => by cases h) zk74
set_option maxRecDepth 100000 in
theorem zp75 : zPm 75 (6, false, 1, some .boolean, zt75) := zPm_of (y := (⟨"LaughLine$Scanner", "isLetter", "(I)Z"⟩, prog_8_method_4_code)) rfl zc75 rfl rfl (by decide +kernel) (by decide) (fun h => by cases h) zk75
set_option maxRecDepth 100000 in
theorem zp76 : zPm 76 (6, false, 1, some .boolean, zt76) := zPm_of (y := (⟨"LaughLine$Scanner", "isDigit", "(I)Z"⟩, prog_8_method_5_code)) rfl zc76 rfl rfl (by decide +kernel) (by decide) (fun h => by cases h) zk76
set_option maxRecDepth 100000 in
theorem zp77 : zPm 77 (6, false, 2, none, zt77) := zPm_of (y := (⟨"LaughLine$Scanner", "advance", "()V"⟩, prog_8_method_6_code)) rfl zc77 rfl rfl (by decide +kernel) (by decide) (fun h => by cases h) zk77
set_option maxRecDepth 100000 in
theorem zp78 : zPm 78 (6, false, 4, none, zt78) := zPm_of (y := (⟨"LaughLine$Scanner", "scanWord", "()V"⟩, prog_8_method_7_code)) rfl zc78 rfl rfl (by decide +kernel) (by decide) (fun h => by cases h) zk78
set_option maxRecDepth 100000 in
theorem zp79 : zPm 79 (6, false, 1, none, zt79) := zPm_of (y := (⟨"LaughLine$Scanner", "scanNumber", "()V"⟩, prog_8_method_8_code)) rfl zc79 rfl rfl (by decide +kernel) (by decide) (fun h => by cases h) zk79
set_option maxRecDepth 100000 in
theorem zp80 : zPm 80 (6, false, 2, some .int, zt80) := zPm_of (y := (⟨"LaughLine$Scanner", "signKind", "(I)I"⟩, prog_8_method_9_code)) rfl zc80 rfl rfl (by decide +kernel) (by decide) (fun h => by cases h) zk80
set_option maxRecDepth 100000 in
theorem zp81 : zPm 81 (6, false, 3, some .boolean, zt81) := zPm_of (y := (⟨"LaughLine$Scanner", "takes", "(I)Z"⟩, prog_8_method_10_code)) rfl zc81 rfl rfl (by decide +kernel) (by decide) (fun h => by cases h) zk81
set_option maxRecDepth 100000 in
theorem zp82 : zPm 82 (7, true, 3, none, zt82) := zPm_of (y := (⟨"LaughLine$Table", "<init>", "(II)V"⟩, prog_9_method_1_code)) rfl zc82 rfl rfl (by decide +kernel) (by decide) (fun _ => rfl) zk82
set_option maxRecDepth 100000 in
theorem zp83 : zPm 83 (7, false, 3, some .int, zt83) := zPm_of (y := (⟨"LaughLine$Table", "at", "(II)I"⟩, prog_9_method_2_code)) rfl zc83 rfl rfl (by decide +kernel) (by decide) (fun h => by cases h) zk83
set_option maxRecDepth 100000 in
theorem zp84 : zPm 84 (7, false, 3, none, zt84) := zPm_of (y := (⟨"LaughLine$Table", "put", "(II)V"⟩, prog_9_method_3_code)) rfl zc84 rfl rfl (by decide +kernel) (by decide) (fun h => by cases h) zk84
set_option maxRecDepth 100000 in
theorem zp85 : zPm 85 (7, false, 1, none, zt85) := zPm_of (y := (⟨"LaughLine$Table", "endRow", "()V"⟩, prog_9_method_4_code)) rfl zc85 rfl rfl (by decide +kernel) (by decide) (fun h => by cases h) zk85
set_option maxRecDepth 100000 in
theorem zp86 : zPm 86 (7, false, 1, some .boolean, zt86) := zPm_of (y := (⟨"LaughLine$Table", "isFull", "()Z"⟩, prog_9_method_5_code)) rfl zc86 rfl rfl (by decide +kernel) (by decide) (fun h => by cases h) zk86
set_option maxRecDepth 100000 in
theorem zp87 : zPm 87 (7, false, 3, some .int, zt87) := zPm_of (y := (⟨"LaughLine$Table", "find", "(I)I"⟩, prog_9_method_6_code)) rfl zc87 rfl rfl (by decide +kernel) (by decide) (fun h => by cases h) zk87
set_option maxRecDepth 100000 in
theorem zp88 : zPm 88 (8, true, 1, none, zt88) := zPm_of (y := (⟨"LaughLine$Twist", "<init>", "()V"⟩, prog_10_method_1_code)) rfl zc88 rfl rfl (by decide +kernel) (by decide) (fun _ => rfl) zk88
set_option maxRecDepth 100000 in
theorem zp89 : zPm 89 (8, false, 1, some (.object "LaughLine$Twist"), zt89) := zPm_of (y := (⟨"LaughLine$Twist", "plain", "()LLaughLine$Twist;"⟩, prog_10_method_2_code)) rfl zc89 rfl rfl (by decide +kernel) (by decide) (fun h => by cases h) zk89
set_option maxRecDepth 100000 in
theorem zp90 : zPm 90 (8, false, 2, none, zt90) := zPm_of (y := (⟨"LaughLine$Twist", "drawFrom", "(I)V"⟩, prog_10_method_3_code)) rfl zc90 rfl rfl (by decide +kernel) (by decide) (fun h => by cases h) zk90
set_option maxRecDepth 100000 in
theorem zp91 : zPm 91 (8, false, 1, some .int, zt91) := zPm_of (y := (⟨"LaughLine$Twist", "moreFun", "()I"⟩, prog_10_method_4_code)) rfl zc91 rfl rfl (by decide +kernel) (by decide) (fun h => by cases h) zk91
set_option maxRecDepth 100000 in
theorem zp92 : zPm 92 (9, true, 1, none, zt92) := zPm_of (y := (⟨"LaughLine$Undoes", "<init>", "()V"⟩, prog_11_method_1_code)) rfl zc92 rfl rfl (by decide +kernel) (by decide) (fun _ => rfl) zk92
set_option maxRecDepth 100000 in
theorem zp93 : zPm 93 (9, false, 1, none, zt93) := zPm_of (y := (⟨"LaughLine$Undoes", "clear", "()V"⟩, prog_11_method_2_code)) rfl zc93 rfl rfl (by decide +kernel) (by decide) (fun h => by cases h) zk93
set_option maxRecDepth 100000 in
theorem zp94 : zPm 94 (9, false, 4, none, zt94) := zPm_of (y := (⟨"LaughLine$Undoes", "push", "(III)V"⟩, prog_11_method_3_code)) rfl zc94 rfl rfl (by decide +kernel) (by decide) (fun h => by cases h) zk94
set_option maxRecDepth 100000 in
theorem zp95 : zPm 95 (9, false, 2, none, zt95) := zPm_of (y := (⟨"LaughLine$Undoes", "dropOldest", "()V"⟩, prog_11_method_4_code)) rfl zc95 rfl rfl (by decide +kernel) (by decide) (fun h => by cases h) zk95
set_option maxRecDepth 100000 in
theorem zp96 : zPm 96 (9, false, 1, some .int, zt96) := zPm_of (y := (⟨"LaughLine$Undoes", "pop", "()I"⟩, prog_11_method_5_code)) rfl zc96 rfl rfl (by decide +kernel) (by decide) (fun h => by cases h) zk96
set_option maxRecDepth 100000 in
theorem zp97 : zPm 97 (10, true, 1, none, zt97) := zPm_of (y := (⟨"LaughLine", "<init>", "()V"⟩, prog_1_method_1_code)) rfl zc97 rfl rfl (by decide +kernel) (by decide) (fun _ => rfl) zk97
set_option maxRecDepth 100000 in
theorem zp98 : zPm 98 (10, false, 6, some .int, zt98) := zPm_of (y := (⟨"LaughLine", "feed", "(IIIII)I"⟩, prog_1_method_2_code)) rfl zc98 rfl rfl (by decide +kernel) (by decide) (fun h => by cases h) zk98
set_option maxRecDepth 100000 in
theorem zp99 : zPm 99 (10, false, 3, none, zt99) := zPm_of (y := (⟨"LaughLine", "putBytes", "(I)V"⟩, prog_1_method_3_code)) rfl zc99 rfl rfl (by decide +kernel) (by decide) (fun h => by cases h) zk99
set_option maxRecDepth 100000 in
theorem zp100 : zPm 100 (10, false, 4, some .int, zt100) := zPm_of (y := (⟨"LaughLine", "text", "(I)I"⟩, prog_1_method_4_code)) rfl zc100 rfl rfl (by decide +kernel) (by decide) (fun h => by cases h) zk100
set_option maxRecDepth 100000 in
theorem zp101 : zPm 101 (10, false, 2, some .int, zt101) := zPm_of (y := (⟨"LaughLine", "fault", "(I)I"⟩, prog_1_method_5_code)) rfl zc101 rfl rfl (by decide +kernel) (by decide) (fun h => by cases h) zk101
set_option maxRecDepth 100000 in
theorem zp102 : zPm 102 (10, false, 3, some .int, zt102) := zPm_of (y := (⟨"LaughLine", "named", "(II)I"⟩, prog_1_method_6_code)) rfl zc102 rfl rfl (by decide +kernel) (by decide) (fun h => by cases h) zk102
set_option maxRecDepth 100000 in
theorem zp103 : zPm 103 (10, false, 2, some .boolean, zt103) := zPm_of (y := (⟨"LaughLine", "isRider", "(I)Z"⟩, prog_1_method_7_code)) rfl zc103 rfl rfl (by decide +kernel) (by decide) (fun h => by cases h) zk103
set_option maxRecDepth 100000 in
theorem zp104 : zPm 104 (10, false, 2, some .boolean, zt104) := zPm_of (y := (⟨"LaughLine", "isJoke", "(I)Z"⟩, prog_1_method_8_code)) rfl zc104 rfl rfl (by decide +kernel) (by decide) (fun h => by cases h) zk104
set_option maxRecDepth 100000 in
theorem zp105 : zPm 105 (10, false, 1, some .boolean, zt105) := zPm_of (y := (⟨"LaughLine", "isMile", "(I)Z"⟩, prog_1_method_9_code)) rfl zc105 rfl rfl (by decide +kernel) (by decide) (fun h => by cases h) zk105
set_option maxRecDepth 100000 in
theorem zp106 : zPm 106 (10, false, 4, some .int, zt106) := zPm_of (y := (⟨"LaughLine", "rider", "(II)I"⟩, prog_1_method_10_code)) rfl zc106 rfl rfl (by decide +kernel) (by decide) (fun h => by cases h) zk106
set_option maxRecDepth 100000 in
theorem zp107 : zPm 107 (10, false, 4, some .int, zt107) := zPm_of (y := (⟨"LaughLine", "has", "(II)I"⟩, prog_1_method_11_code)) rfl zc107 rfl rfl (by decide +kernel) (by decide) (fun h => by cases h) zk107
set_option maxRecDepth 100000 in
theorem zp108 : zPm 108 (10, false, 3, some .int, zt108) := zPm_of (y := (⟨"LaughLine", "joke", "(II)I"⟩, prog_1_method_12_code)) rfl zc108 rfl rfl (by decide +kernel) (by decide) (fun h => by cases h) zk108
set_option maxRecDepth 100000 in
theorem zp109 : zPm 109 (10, false, 3, some .int, zt109) := zPm_of (y := (⟨"LaughLine", "heard", "(II)I"⟩, prog_1_method_13_code)) rfl zc109 rfl rfl (by decide +kernel) (by decide) (fun h => by cases h) zk109
set_option maxRecDepth 100000 in
theorem zp110 : zPm 110 (10, false, 3, some .int, zt110) := zPm_of (y := (⟨"LaughLine", "told", "(II)I"⟩, prog_1_method_14_code)) rfl zc110 rfl rfl (by decide +kernel) (by decide) (fun h => by cases h) zk110
set_option maxRecDepth 100000 in
theorem zp111 : zPm 111 (10, false, 2, some .int, zt111) := zPm_of (y := (⟨"LaughLine", "seen", "(I)I"⟩, prog_1_method_15_code)) rfl zc111 rfl rfl (by decide +kernel) (by decide) (fun h => by cases h) zk111
set_option maxRecDepth 100000 in
theorem zp112 : zPm 112 (10, false, 6, some .long, zt112) := zPm_of (y := (⟨"LaughLine", "law", "(III)J"⟩, prog_1_method_16_code)) rfl zc112 rfl rfl (by decide +kernel) (by decide) (fun h => by cases h) zk112
set_option maxRecDepth 100000 in
theorem zp113 : zPm 113 (10, false, 2, some .int, zt113) := zPm_of (y := (⟨"LaughLine", "count", "(I)I"⟩, prog_1_method_17_code)) rfl zc113 rfl rfl (by decide +kernel) (by decide) (fun h => by cases h) zk113
set_option maxRecDepth 100000 in
theorem zp114 : zPm 114 (10, false, 3, some .boolean, zt114) := zPm_of (y := (⟨"LaughLine", "ears", "(IZ)Z"⟩, prog_1_method_18_code)) rfl zc114 rfl rfl (by decide +kernel) (by decide) (fun h => by cases h) zk114
set_option maxRecDepth 100000 in
theorem zp115 : zPm 115 (10, false, 4, some .boolean, zt115) := zPm_of (y := (⟨"LaughLine", "seat", "(II)Z"⟩, prog_1_method_19_code)) rfl zc115 rfl rfl (by decide +kernel) (by decide) (fun h => by cases h) zk115
set_option maxRecDepth 100000 in
theorem zp116 : zPm 116 (10, false, 4, some .boolean, zt116) := zPm_of (y := (⟨"LaughLine", "tell", "(IIZ)Z"⟩, prog_1_method_20_code)) rfl zc116 rfl rfl (by decide +kernel) (by decide) (fun h => by cases h) zk116
set_option maxRecDepth 100000 in
theorem zp117 : zPm 117 (10, false, 4, some .int, zt117) := zPm_of (y := (⟨"LaughLine", "undo", "()I"⟩, prog_1_method_21_code)) rfl zc117 rfl rfl (by decide +kernel) (by decide) (fun h => by cases h) zk117
set_option maxRecDepth 100000 in
theorem zp118 : zPm 118 (10, false, 1, some .int, zt118) := zPm_of (y := (⟨"LaughLine", "keep", "()I"⟩, prog_1_method_22_code)) rfl zc118 rfl rfl (by decide +kernel) (by decide) (fun h => by cases h) zk118
set_option maxRecDepth 100000 in
theorem zp119 : zPm 119 (10, false, 1, some .int, zt119) := zPm_of (y := (⟨"LaughLine", "back", "()I"⟩, prog_1_method_23_code)) rfl zc119 rfl rfl (by decide +kernel) (by decide) (fun h => by cases h) zk119
set_option maxRecDepth 100000 in
theorem zp120 : zPm 120 (10, false, 2, some .int, zt120) := zPm_of (y := (⟨"LaughLine", "go", "(I)I"⟩, prog_1_method_24_code)) rfl zc120 rfl rfl (by decide +kernel) (by decide) (fun h => by cases h) zk120
set_option maxRecDepth 100000 in
theorem zp121 : zPm 121 (10, false, 3, none, zt121) := zPm_of (y := (⟨"LaughLine", "tryMiles", "(ILLaughLine$Twist;)V"⟩, prog_1_method_25_code)) rfl zc121 rfl rfl (by decide +kernel) (by decide) (fun h => by cases h) zk121
set_option maxRecDepth 100000 in
theorem zp122 : zPm 122 (10, false, 3, some .int, zt122) := zPm_of (y := (⟨"LaughLine", "ahead", "(II)I"⟩, prog_1_method_26_code)) rfl zc122 rfl rfl (by decide +kernel) (by decide) (fun h => by cases h) zk122
set_option maxRecDepth 100000 in
theorem zp123 : zPm 123 (10, false, 3, some .int, zt123) := zPm_of (y := (⟨"LaughLine", "getsOut", "(I)I"⟩, prog_1_method_27_code)) rfl zc123 rfl rfl (by decide +kernel) (by decide) (fun h => by cases h) zk123
set_option maxRecDepth 100000 in
theorem zp124 : zPm 124 (10, false, 2, some .int, zt124) := zPm_of (y := (⟨"LaughLine", "nextHalt", "()I"⟩, prog_1_method_28_code)) rfl zc124 rfl rfl (by decide +kernel) (by decide) (fun h => by cases h) zk124
set_option maxRecDepth 100000 in
theorem zp125 : zPm 125 (10, false, 5, some .int, zt125) := zPm_of (y := (⟨"LaughLine", "tried", "(III)I"⟩, prog_1_method_29_code)) rfl zc125 rfl rfl (by decide +kernel) (by decide) (fun h => by cases h) zk125
set_option maxRecDepth 100000 in
theorem zp126 : zPm 126 (10, false, 7, some .int, zt126) := zPm_of (y := (⟨"LaughLine", "chance", "(IIII)I"⟩, prog_1_method_30_code)) rfl zc126 rfl rfl (by decide +kernel) (by decide) (fun h => by cases h) zk126
set_option maxRecDepth 100000 in
theorem zp127 : zPm 127 (10, false, 1, none, zt127) := zPm_of (y := (⟨"LaughLine", "findDawn", "()V"⟩, prog_1_method_31_code)) rfl zc127 rfl rfl (by decide +kernel) (by decide) (fun h => by cases h) zk127
set_option maxRecDepth 100000 in
theorem zp128 : zPm 128 (10, false, 7, some .int, zt128) := zPm_of (y := (⟨"LaughLine", "when", "(II)I"⟩, prog_1_method_32_code)) rfl zc128 rfl rfl (by decide +kernel) (by decide) (fun h => by cases h) zk128
set_option maxRecDepth 100000 in
theorem zp129 : zPm 129 (10, false, 10, some .int, zt129) := zPm_of (y := (⟨"LaughLine", "both", "(III)I"⟩, prog_1_method_33_code)) rfl zc129 rfl rfl (by decide +kernel) (by decide) (fun h => by cases h) zk129
set_option maxRecDepth 100000 in
theorem zp130 : zPm 130 (10, false, 7, some .int, zt130) := zPm_of (y := (⟨"LaughLine", "seating", "(I)I"⟩, prog_1_method_34_code)) rfl zc130 rfl rfl (by decide +kernel) (by decide) (fun h => by cases h) zk130
set_option maxRecDepth 100000 in
theorem zp131 : zPm 131 (10, false, 2, some .int, zt131) := zPm_of (y := (⟨"LaughLine", "whoseSeat", "(II)I"⟩, prog_1_method_35_code)) rfl zc131 rfl rfl (by decide +kernel) (by decide) (fun h => by cases h) zk131
set_option maxRecDepth 100000 in
theorem zp132 : zPm 132 (10, false, 5, some .boolean, zt132) := zPm_of (y := (⟨"LaughLine", "isOrder", "(II)Z"⟩, prog_1_method_36_code)) rfl zc132 rfl rfl (by decide +kernel) (by decide) (fun h => by cases h) zk132
set_option maxRecDepth 100000 in
theorem zp133 : zPm 133 (10, false, 4, some .int, zt133) := zPm_of (y := (⟨"LaughLine", "laughsSeated", "(II)I"⟩, prog_1_method_37_code)) rfl zc133 rfl rfl (by decide +kernel) (by decide) (fun h => by cases h) zk133
set_option maxRecDepth 100000 in
theorem zp134 : zPm 134 (10, false, 6, some .int, zt134) := zPm_of (y := (⟨"LaughLine", "stopped", "(I)I"⟩, prog_1_method_38_code)) rfl zc134 rfl rfl (by decide +kernel) (by decide) (fun h => by cases h) zk134
set_option maxRecDepth 100000 in
theorem zp135 : zPm 135 (10, false, 3, some .boolean, zt135) := zPm_of (y := (⟨"LaughLine", "alightsBeside", "(II)Z"⟩, prog_1_method_39_code)) rfl zc135 rfl rfl (by decide +kernel) (by decide) (fun h => by cases h) zk135
set_option maxRecDepth 100000 in
theorem zp136 : zPm 136 (10, false, 5, some .int, zt136) := zPm_of (y := (⟨"LaughLine", "likely", "(II)I"⟩, prog_1_method_40_code)) rfl zc136 rfl rfl (by decide +kernel) (by decide) (fun h => by cases h) zk136
set_option maxRecDepth 100000 in
theorem zp137 : zPm 137 (10, false, 3, some .int, zt137) := zPm_of (y := (⟨"LaughLine", "solemn", "()I"⟩, prog_1_method_41_code)) rfl zc137 rfl rfl (by decide +kernel) (by decide) (fun h => by cases h) zk137
set_option maxRecDepth 100000 in
theorem zp138 : zPm 138 (10, false, 4, some .int, zt138) := zPm_of (y := (⟨"LaughLine", "late", "(I)I"⟩, prog_1_method_42_code)) rfl zc138 rfl rfl (by decide +kernel) (by decide) (fun h => by cases h) zk138
set_option maxRecDepth 100000 in
theorem zp139 : zPm 139 (10, false, 3, some .boolean, zt139) := zPm_of (y := (⟨"LaughLine", "areClowns", "(II)Z"⟩, prog_1_method_43_code)) rfl zc139 rfl rfl (by decide +kernel) (by decide) (fun h => by cases h) zk139
set_option maxRecDepth 100000 in
theorem zp140 : zPm 140 (10, false, 5, some .int, zt140) := zPm_of (y := (⟨"LaughLine", "rests", "(II)I"⟩, prog_1_method_44_code)) rfl zc140 rfl rfl (by decide +kernel) (by decide) (fun h => by cases h) zk140
set_option maxRecDepth 100000 in
theorem zp141 : zPm 141 (10, false, 6, some .int, zt141) := zPm_of (y := (⟨"LaughLine", "rest", "(III)I"⟩, prog_1_method_45_code)) rfl zc141 rfl rfl (by decide +kernel) (by decide) (fun h => by cases h) zk141
set_option maxRecDepth 100000 in
theorem zp142 : zPm 142 (10, false, 10, none, zt142) := zPm_of (y := (⟨"LaughLine", "playClowns", "(II)V"⟩, prog_1_method_46_code)) rfl zc142 rfl rfl (by decide +kernel) (by decide) (fun h => by cases h) zk142
set_option maxRecDepth 100000 in
theorem zp143 : zPm 143 (10, false, 2, some .int, zt143) := zPm_of (y := (⟨"LaughLine", "laughsOfMile", "()I"⟩, prog_1_method_47_code)) rfl zc143 rfl rfl (by decide +kernel) (by decide) (fun h => by cases h) zk143
set_option maxRecDepth 100000 in
theorem zp144 : zPm 144 (10, false, 7, some .boolean, zt144) := zPm_of (y := (⟨"LaughLine", "isRest", "(I)Z"⟩, prog_1_method_48_code)) rfl zc144 rfl rfl (by decide +kernel) (by decide) (fun h => by cases h) zk144
set_option maxRecDepth 100000 in
theorem zp145 : zPm 145 (10, false, 4, some .int, zt145) := zPm_of (y := (⟨"LaughLine", "note", "(IIZ)I"⟩, prog_1_method_49_code)) rfl zc145 rfl rfl (by decide +kernel) (by decide) (fun h => by cases h) zk145
set_option maxRecDepth 100000 in
theorem zp146 : zPm 146 (10, false, 2, some .int, zt146) := zPm_of (y := (⟨"LaughLine", "out", "(I)I"⟩, prog_1_method_50_code)) rfl zc146 rfl rfl (by decide +kernel) (by decide) (fun h => by cases h) zk146
set_option maxRecDepth 100000 in
theorem zp147 : zPm 147 (10, false, 2, some .boolean, zt147) := zPm_of (y := (⟨"LaughLine", "known", "(I)Z"⟩, prog_1_method_51_code)) rfl zc147 rfl rfl (by decide +kernel) (by decide) (fun h => by cases h) zk147
set_option maxRecDepth 100000 in
theorem zp148 : zPm 148 (10, false, 4, some .int, zt148) := zPm_of (y := (⟨"LaughLine", "dulls", "(I)I"⟩, prog_1_method_52_code)) rfl zc148 rfl rfl (by decide +kernel) (by decide) (fun h => by cases h) zk148
set_option maxRecDepth 100000 in
theorem zp149 : zPm 149 (11, true, 1, none, zt149) := zPm_of (y := (⟨"LaughLineModel", "<init>", "()V"⟩, prog_13_method_1_code)) rfl zc149 rfl rfl (by decide +kernel) (by decide) (fun _ => rfl) zk149
set_option maxRecDepth 100000 in
theorem zp150 : zPm 150 (11, false, 8, some .int, zt150) := zPm_of (y := (⟨"LaughLineModel", "feed", "(IIIII)I"⟩, prog_13_method_3_code)) rfl zc150 rfl rfl (by decide +kernel) (by decide) (fun h => by cases h) zk150
set_option maxRecDepth 100000 in
theorem zp151 : zPm 151 (11, false, 1, some .int, zt151) := zPm_of (y := (⟨"LaughLineModel", "here", "()I"⟩, prog_13_method_4_code)) rfl zc151 rfl rfl (by decide +kernel) (by decide) (fun h => by cases h) zk151
set_option maxRecDepth 100000 in
theorem zp152 : zPm 152 (11, false, 1, some .boolean, zt152) := zPm_of (y := (⟨"LaughLineModel", "isSmall", "(I)Z"⟩, prog_13_method_5_code)) rfl zc152 rfl rfl (by decide +kernel) (by decide) (fun h => by cases h) zk152
set_option maxRecDepth 100000 in
theorem zp153 : zPm 153 (11, false, 1, some .boolean, zt153) := zPm_of (y := (⟨"LaughLineModel", "isDigit", "(I)Z"⟩, prog_13_method_6_code)) rfl zc153 rfl rfl (by decide +kernel) (by decide) (fun h => by cases h) zk153
set_option maxRecDepth 100000 in
theorem zp154 : zPm 154 (11, false, 2, none, zt154) := zPm_of (y := (⟨"LaughLineModel", "token", "()V"⟩, prog_13_method_7_code)) rfl zc154 rfl rfl (by decide +kernel) (by decide) (fun h => by cases h) zk154
set_option maxRecDepth 100000 in
theorem zp155 : zPm 155 (11, false, 2, none, zt155) := zPm_of (y := (⟨"LaughLineModel", "sign", "(I)V"⟩, prog_13_method_8_code)) rfl zc155 rfl rfl (by decide +kernel) (by decide) (fun h => by cases h) zk155
set_option maxRecDepth 100000 in
theorem zp156 : zPm 156 (11, false, 4, some .int, zt156) := zPm_of (y := (⟨"LaughLineModel", "word", "()I"⟩, prog_13_method_9_code)) rfl zc156 rfl rfl (by decide +kernel) (by decide) (fun h => by cases h) zk156
set_option maxRecDepth 100000 in
theorem zp157 : zPm 157 (11, false, 2, none, zt157) := zPm_of (y := (⟨"LaughLineModel", "name", "()V"⟩, prog_13_method_10_code)) rfl zc157 rfl rfl (by decide +kernel) (by decide) (fun h => by cases h) zk157
set_option maxRecDepth 100000 in
theorem zp158 : zPm 158 (11, false, 2, none, zt158) := zPm_of (y := (⟨"LaughLineModel", "wrong", "(I)V"⟩, prog_13_method_11_code)) rfl zc158 rfl rfl (by decide +kernel) (by decide) (fun h => by cases h) zk158
set_option maxRecDepth 100000 in
theorem zp159 : zPm 159 (11, false, 2, some .boolean, zt159) := zPm_of (y := (⟨"LaughLineModel", "isWord", "(I)Z"⟩, prog_13_method_12_code)) rfl zc159 rfl rfl (by decide +kernel) (by decide) (fun h => by cases h) zk159
set_option maxRecDepth 100000 in
theorem zp160 : zPm 160 (11, false, 2, some .boolean, zt160) := zPm_of (y := (⟨"LaughLineModel", "isSign", "(I)Z"⟩, prog_13_method_13_code)) rfl zc160 rfl rfl (by decide +kernel) (by decide) (fun h => by cases h) zk160
set_option maxRecDepth 100000 in
theorem zp161 : zPm 161 (11, false, 1, none, zt161) := zPm_of (y := (⟨"LaughLineModel", "goOn", "()V"⟩, prog_13_method_14_code)) rfl zc161 rfl rfl (by decide +kernel) (by decide) (fun h => by cases h) zk161
set_option maxRecDepth 100000 in
theorem zp162 : zPm 162 (11, false, 4, some .int, zt162) := zPm_of (y := (⟨"LaughLineModel", "numeral", "(II)I"⟩, prog_13_method_15_code)) rfl zc162 rfl rfl (by decide +kernel) (by decide) (fun h => by cases h) zk162
set_option maxRecDepth 100000 in
theorem zp163 : zPm 163 (11, false, 5, some .int, zt163) := zPm_of (y := (⟨"LaughLineModel", "found", "([IIII)I"⟩, prog_13_method_16_code)) rfl zc163 rfl rfl (by decide +kernel) (by decide) (fun h => by cases h) zk163
set_option maxRecDepth 100000 in
theorem zp164 : zPm 164 (11, false, 5, some .int, zt164) := zPm_of (y := (⟨"LaughLineModel", "fresh", "([III)I"⟩, prog_13_method_17_code)) rfl zc164 rfl rfl (by decide +kernel) (by decide) (fun h => by cases h) zk164
set_option maxRecDepth 100000 in
theorem zp165 : zPm 165 (11, false, 2, some .int, zt165) := zPm_of (y := (⟨"LaughLineModel", "fresher", "(I)I"⟩, prog_13_method_18_code)) rfl zc165 rfl rfl (by decide +kernel) (by decide) (fun h => by cases h) zk165
set_option maxRecDepth 100000 in
theorem zp166 : zPm 166 (11, false, 3, none, zt166) := zPm_of (y := (⟨"LaughLineModel", "reads", "(II)V"⟩, prog_13_method_19_code)) rfl zc166 rfl rfl (by decide +kernel) (by decide) (fun h => by cases h) zk166
set_option maxRecDepth 100000 in
theorem zp167 : zPm 167 (11, false, 2, some .boolean, zt167) := zPm_of (y := (⟨"LaughLineModel", "isFull", "(I)Z"⟩, prog_13_method_20_code)) rfl zc167 rfl rfl (by decide +kernel) (by decide) (fun h => by cases h) zk167
set_option maxRecDepth 100000 in
theorem zp168 : zPm 168 (11, false, 1, some .boolean, zt168) := zPm_of (y := (⟨"LaughLineModel", "isOnce", "(I)Z"⟩, prog_13_method_21_code)) rfl zc168 rfl rfl (by decide +kernel) (by decide) (fun h => by cases h) zk168
set_option maxRecDepth 100000 in
theorem zp169 : zPm 169 (11, false, 6, none, zt169) := zPm_of (y := (⟨"LaughLineModel", "line", "()V"⟩, prog_13_method_22_code)) rfl zc169 rfl rfl (by decide +kernel) (by decide) (fun h => by cases h) zk169
set_option maxRecDepth 100000 in
theorem zp170 : zPm 170 (11, false, 3, none, zt170) := zPm_of (y := (⟨"LaughLineModel", "tellLine", "()V"⟩, prog_13_method_23_code)) rfl zc170 rfl rfl (by decide +kernel) (by decide) (fun h => by cases h) zk170
set_option maxRecDepth 100000 in
theorem zp171 : zPm 171 (11, false, 2, none, zt171) := zPm_of (y := (⟨"LaughLineModel", "lawLine", "()V"⟩, prog_13_method_24_code)) rfl zc171 rfl rfl (by decide +kernel) (by decide) (fun h => by cases h) zk171
set_option maxRecDepth 100000 in
theorem zp172 : zPm 172 (11, false, 3, none, zt172) := zPm_of (y := (⟨"LaughLineModel", "puts", "(II)V"⟩, prog_13_method_25_code)) rfl zc172 rfl rfl (by decide +kernel) (by decide) (fun h => by cases h) zk172
set_option maxRecDepth 100000 in
theorem zp173 : zPm 173 (11, false, 1, none, zt173) := zPm_of (y := (⟨"LaughLineModel", "knot", "()V"⟩, prog_13_method_26_code)) rfl zc173 rfl rfl (by decide +kernel) (by decide) (fun h => by cases h) zk173
set_option maxRecDepth 100000 in
theorem zp174 : zPm 174 (11, false, 1, none, zt174) := zPm_of (y := (⟨"LaughLineModel", "expression", "()V"⟩, prog_13_method_27_code)) rfl zc174 rfl rfl (by decide +kernel) (by decide) (fun h => by cases h) zk174
set_option maxRecDepth 100000 in
theorem zp175 : zPm 175 (11, false, 1, none, zt175) := zPm_of (y := (⟨"LaughLineModel", "conjunction", "()V"⟩, prog_13_method_28_code)) rfl zc175 rfl rfl (by decide +kernel) (by decide) (fun h => by cases h) zk175
set_option maxRecDepth 100000 in
theorem zp176 : zPm 176 (11, false, 2, none, zt176) := zPm_of (y := (⟨"LaughLineModel", "negation", "()V"⟩, prog_13_method_29_code)) rfl zc176 rfl rfl (by decide +kernel) (by decide) (fun h => by cases h) zk176
set_option maxRecDepth 100000 in
theorem zp177 : zPm 177 (11, false, 2, none, zt177) := zPm_of (y := (⟨"LaughLineModel", "sum", "()V"⟩, prog_13_method_30_code)) rfl zc177 rfl rfl (by decide +kernel) (by decide) (fun h => by cases h) zk177
set_option maxRecDepth 100000 in
theorem zp178 : zPm 178 (11, false, 2, none, zt178) := zPm_of (y := (⟨"LaughLineModel", "product", "()V"⟩, prog_13_method_31_code)) rfl zc178 rfl rfl (by decide +kernel) (by decide) (fun h => by cases h) zk178
set_option maxRecDepth 100000 in
theorem zp179 : zPm 179 (11, false, 2, none, zt179) := zPm_of (y := (⟨"LaughLineModel", "primary", "()V"⟩, prog_13_method_32_code)) rfl zc179 rfl rfl (by decide +kernel) (by decide) (fun h => by cases h) zk179
set_option maxRecDepth 100000 in
theorem zp180 : zPm 180 (11, false, 3, none, zt180) := zPm_of (y := (⟨"LaughLineModel", "half", "([I)V"⟩, prog_13_method_33_code)) rfl zc180 rfl rfl (by decide +kernel) (by decide) (fun h => by cases h) zk180
set_option maxRecDepth 100000 in
theorem zp181 : zPm 181 (11, false, 3, some .int, zt181) := zPm_of (y := (⟨"LaughLineModel", "text", "(I)I"⟩, prog_13_method_34_code)) rfl zc181 rfl rfl (by decide +kernel) (by decide) (fun h => by cases h) zk181
set_option maxRecDepth 100000 in
theorem zp182 : zPm 182 (11, false, 2, some .int, zt182) := zPm_of (y := (⟨"LaughLineModel", "fault", "(I)I"⟩, prog_13_method_35_code)) rfl zc182 rfl rfl (by decide +kernel) (by decide) (fun h => by cases h) zk182
set_option maxRecDepth 100000 in
theorem zp183 : zPm 183 (11, false, 3, some .int, zt183) := zPm_of (y := (⟨"LaughLineModel", "named", "(II)I"⟩, prog_13_method_36_code)) rfl zc183 rfl rfl (by decide +kernel) (by decide) (fun h => by cases h) zk183
set_option maxRecDepth 100000 in
theorem zp184 : zPm 184 (11, false, 1, some .long, zt184) := zPm_of (y := (⟨"LaughLineModel", "is", "(Z)J"⟩, prog_13_method_37_code)) rfl zc184 rfl rfl (by decide +kernel) (by decide) (fun h => by cases h) zk184
set_option maxRecDepth 100000 in
theorem zp185 : zPm 185 (11, false, 8, some .boolean, zt185) := zPm_of (y := (⟨"LaughLineModel", "works", "(I)Z"⟩, prog_13_method_38_code)) rfl zc185 rfl rfl (by decide +kernel) (by decide) (fun h => by cases h) zk185
set_option maxRecDepth 100000 in
theorem zp186 : zPm 186 (11, false, 3, some .boolean, zt186) := zPm_of (y := (⟨"LaughLineModel", "goes", "(I)Z"⟩, prog_13_method_39_code)) rfl zc186 rfl rfl (by decide +kernel) (by decide) (fun h => by cases h) zk186
set_option maxRecDepth 100000 in
theorem zp187 : zPm 187 (11, false, 2, some .boolean, zt187) := zPm_of (y := (⟨"LaughLineModel", "hasLaw", "(I)Z"⟩, prog_13_method_40_code)) rfl zc187 rfl rfl (by decide +kernel) (by decide) (fun h => by cases h) zk187
set_option maxRecDepth 100000 in
theorem zp188 : zPm 188 (11, false, 5, none, zt188) := zPm_of (y := (⟨"LaughLineModel", "starts", "(I)V"⟩, prog_13_method_41_code)) rfl zc188 rfl rfl (by decide +kernel) (by decide) (fun h => by cases h) zk188
set_option maxRecDepth 100000 in
theorem zp189 : zPm 189 (11, false, 1, none, zt189) := zPm_of (y := (⟨"LaughLineModel", "begins", "()V"⟩, prog_13_method_42_code)) rfl zc189 rfl rfl (by decide +kernel) (by decide) (fun h => by cases h) zk189
set_option maxRecDepth 100000 in
theorem zp190 : zPm 190 (11, false, 6, none, zt190) := zPm_of (y := (⟨"LaughLineModel", "copies", "(II)V"⟩, prog_13_method_43_code)) rfl zc190 rfl rfl (by decide +kernel) (by decide) (fun h => by cases h) zk190
set_option maxRecDepth 100000 in
theorem zp191 : zPm 191 (11, false, 2, some .boolean, zt191) := zPm_of (y := (⟨"LaughLineModel", "isRider", "(I)Z"⟩, prog_13_method_44_code)) rfl zc191 rfl rfl (by decide +kernel) (by decide) (fun h => by cases h) zk191
set_option maxRecDepth 100000 in
theorem zp192 : zPm 192 (11, false, 2, some .boolean, zt192) := zPm_of (y := (⟨"LaughLineModel", "isJoke", "(I)Z"⟩, prog_13_method_45_code)) rfl zc192 rfl rfl (by decide +kernel) (by decide) (fun h => by cases h) zk192
set_option maxRecDepth 100000 in
theorem zp193 : zPm 193 (11, false, 1, some .boolean, zt193) := zPm_of (y := (⟨"LaughLineModel", "isMile", "(I)Z"⟩, prog_13_method_46_code)) rfl zc193 rfl rfl (by decide +kernel) (by decide) (fun h => by cases h) zk193
set_option maxRecDepth 100000 in
theorem zp194 : zPm 194 (11, false, 2, some .int, zt194) := zPm_of (y := (⟨"LaughLineModel", "dullIn", "(I)I"⟩, prog_13_method_47_code)) rfl zc194 rfl rfl (by decide +kernel) (by decide) (fun h => by cases h) zk194
set_option maxRecDepth 100000 in
theorem zp195 : zPm 195 (11, false, 1, some .int, zt195) := zPm_of (y := (⟨"LaughLineModel", "more", "()I"⟩, prog_13_method_48_code)) rfl zc195 rfl rfl (by decide +kernel) (by decide) (fun h => by cases h) zk195
set_option maxRecDepth 100000 in
theorem zp196 : zPm 196 (11, false, 3, some .boolean, zt196) := zPm_of (y := (⟨"LaughLineModel", "isIn", "(II)Z"⟩, prog_13_method_49_code)) rfl zc196 rfl rfl (by decide +kernel) (by decide) (fun h => by cases h) zk196
set_option maxRecDepth 100000 in
theorem zp197 : zPm 197 (11, false, 3, some .boolean, zt197) := zPm_of (y := (⟨"LaughLineModel", "isStopped", "(II)Z"⟩, prog_13_method_50_code)) rfl zc197 rfl rfl (by decide +kernel) (by decide) (fun h => by cases h) zk197
set_option maxRecDepth 100000 in
theorem zp198 : zPm 198 (11, false, 3, some .boolean, zt198) := zPm_of (y := (⟨"LaughLineModel", "isDark", "(I)Z"⟩, prog_13_method_51_code)) rfl zc198 rfl rfl (by decide +kernel) (by decide) (fun h => by cases h) zk198
set_option maxRecDepth 100000 in
theorem zp199 : zPm 199 (11, false, 4, some .int, zt199) := zPm_of (y := (⟨"LaughLineModel", "heardIn", "(III)I"⟩, prog_13_method_52_code)) rfl zc199 rfl rfl (by decide +kernel) (by decide) (fun h => by cases h) zk199
set_option maxRecDepth 100000 in
theorem zp200 : zPm 200 (11, false, 6, none, zt200) := zPm_of (y := (⟨"LaughLineModel", "calls", "(IIIII)V"⟩, prog_13_method_53_code)) rfl zc200 rfl rfl (by decide +kernel) (by decide) (fun h => by cases h) zk200
set_option maxRecDepth 100000 in
theorem zp201 : zPm 201 (11, false, 4, some .int, zt201) := zPm_of (y := (⟨"LaughLineModel", "within", "(III)I"⟩, prog_13_method_54_code)) rfl zc201 rfl rfl (by decide +kernel) (by decide) (fun h => by cases h) zk201
set_option maxRecDepth 100000 in
theorem zp202 : zPm 202 (11, false, 5, none, zt202) := zPm_of (y := (⟨"LaughLineModel", "cheers", "(III)V"⟩, prog_13_method_55_code)) rfl zc202 rfl rfl (by decide +kernel) (by decide) (fun h => by cases h) zk202
set_option maxRecDepth 100000 in
theorem zp203 : zPm 203 (11, false, 4, none, zt203) := zPm_of (y := (⟨"LaughLineModel", "sees", "(II)V"⟩, prog_13_method_56_code)) rfl zc203 rfl rfl (by decide +kernel) (by decide) (fun h => by cases h) zk203
set_option maxRecDepth 100000 in
theorem zp204 : zPm 204 (11, false, 5, none, zt204) := zPm_of (y := (⟨"LaughLineModel", "callsJoke", "(IIII)V"⟩, prog_13_method_57_code)) rfl zc204 rfl rfl (by decide +kernel) (by decide) (fun h => by cases h) zk204
set_option maxRecDepth 100000 in
theorem zp205 : zPm 205 (11, false, 6, none, zt205) := zPm_of (y := (⟨"LaughLineModel", "hears", "(III)V"⟩, prog_13_method_58_code)) rfl zc205 rfl rfl (by decide +kernel) (by decide) (fun h => by cases h) zk205
set_option maxRecDepth 100000 in
theorem zp206 : zPm 206 (11, false, 4, some .boolean, zt206) := zPm_of (y := (⟨"LaughLineModel", "doesLaugh", "(II)Z"⟩, prog_13_method_59_code)) rfl zc206 rfl rfl (by decide +kernel) (by decide) (fun h => by cases h) zk206
set_option maxRecDepth 100000 in
theorem zp207 : zPm 207 (11, false, 5, none, zt207) := zPm_of (y := (⟨"LaughLineModel", "laughs", "(II)V"⟩, prog_13_method_60_code)) rfl zc207 rfl rfl (by decide +kernel) (by decide) (fun h => by cases h) zk207
set_option maxRecDepth 100000 in
theorem zp208 : zPm 208 (11, false, 4, none, zt208) := zPm_of (y := (⟨"LaughLineModel", "stops", "(I)V"⟩, prog_13_method_61_code)) rfl zc208 rfl rfl (by decide +kernel) (by decide) (fun h => by cases h) zk208
set_option maxRecDepth 100000 in
theorem zp209 : zPm 209 (11, false, 3, none, zt209) := zPm_of (y := (⟨"LaughLineModel", "tellsAll", "(I)V"⟩, prog_13_method_62_code)) rfl zc209 rfl rfl (by decide +kernel) (by decide) (fun h => by cases h) zk209
set_option maxRecDepth 100000 in
theorem zp210 : zPm 210 (11, false, 4, none, zt210) := zPm_of (y := (⟨"LaughLineModel", "passes", "(I)V"⟩, prog_13_method_63_code)) rfl zc210 rfl rfl (by decide +kernel) (by decide) (fun h => by cases h) zk210
set_option maxRecDepth 100000 in
theorem zp211 : zPm 211 (11, false, 4, none, zt211) := zPm_of (y := (⟨"LaughLineModel", "arrives", "(I)V"⟩, prog_13_method_64_code)) rfl zc211 rfl rfl (by decide +kernel) (by decide) (fun h => by cases h) zk211
set_option maxRecDepth 100000 in
theorem zp212 : zPm 212 (11, false, 3, none, zt212) := zPm_of (y := (⟨"LaughLineModel", "goesOn", "(I)V"⟩, prog_13_method_65_code)) rfl zc212 rfl rfl (by decide +kernel) (by decide) (fun h => by cases h) zk212
set_option maxRecDepth 100000 in
theorem zp213 : zPm 213 (11, false, 1, none, zt213) := zPm_of (y := (⟨"LaughLineModel", "layNext", "()V"⟩, prog_13_method_66_code)) rfl zc213 rfl rfl (by decide +kernel) (by decide) (fun h => by cases h) zk213
set_option maxRecDepth 100000 in
theorem zp214 : zPm 214 (11, false, 1, none, zt214) := zPm_of (y := (⟨"LaughLineModel", "rides", "()V"⟩, prog_13_method_67_code)) rfl zc214 rfl rfl (by decide +kernel) (by decide) (fun h => by cases h) zk214
set_option maxRecDepth 100000 in
theorem zp215 : zPm 215 (11, false, 5, some .int, zt215) := zPm_of (y := (⟨"LaughLineModel", "sumOf", "([II)I"⟩, prog_13_method_68_code)) rfl zc215 rfl rfl (by decide +kernel) (by decide) (fun h => by cases h) zk215
set_option maxRecDepth 100000 in
theorem zp216 : zPm 216 (11, false, 3, some .int, zt216) := zPm_of (y := (⟨"LaughLineModel", "rider", "(II)I"⟩, prog_13_method_69_code)) rfl zc216 rfl rfl (by decide +kernel) (by decide) (fun h => by cases h) zk216
set_option maxRecDepth 100000 in
theorem zp217 : zPm 217 (11, false, 3, some .int, zt217) := zPm_of (y := (⟨"LaughLineModel", "has", "(II)I"⟩, prog_13_method_70_code)) rfl zc217 rfl rfl (by decide +kernel) (by decide) (fun h => by cases h) zk217
set_option maxRecDepth 100000 in
theorem zp218 : zPm 218 (11, false, 4, some .int, zt218) := zPm_of (y := (⟨"LaughLineModel", "bitsOf", "(J)I"⟩, prog_13_method_71_code)) rfl zc218 rfl rfl (by decide +kernel) (by decide) (fun h => by cases h) zk218
set_option maxRecDepth 100000 in
theorem zp219 : zPm 219 (11, false, 3, some .int, zt219) := zPm_of (y := (⟨"LaughLineModel", "joke", "(II)I"⟩, prog_13_method_72_code)) rfl zc219 rfl rfl (by decide +kernel) (by decide) (fun h => by cases h) zk219
set_option maxRecDepth 100000 in
theorem zp220 : zPm 220 (11, false, 3, some .int, zt220) := zPm_of (y := (⟨"LaughLineModel", "heard", "(II)I"⟩, prog_13_method_73_code)) rfl zc220 rfl rfl (by decide +kernel) (by decide) (fun h => by cases h) zk220
set_option maxRecDepth 100000 in
theorem zp221 : zPm 221 (11, false, 3, some .int, zt221) := zPm_of (y := (⟨"LaughLineModel", "told", "(II)I"⟩, prog_13_method_74_code)) rfl zc221 rfl rfl (by decide +kernel) (by decide) (fun h => by cases h) zk221
set_option maxRecDepth 100000 in
theorem zp222 : zPm 222 (11, false, 4, some .int, zt222) := zPm_of (y := (⟨"LaughLineModel", "seen", "(I)I"⟩, prog_13_method_75_code)) rfl zc222 rfl rfl (by decide +kernel) (by decide) (fun h => by cases h) zk222
set_option maxRecDepth 100000 in
theorem zp223 : zPm 223 (11, false, 4, some .long, zt223) := zPm_of (y := (⟨"LaughLineModel", "law", "(III)J"⟩, prog_13_method_76_code)) rfl zc223 rfl rfl (by decide +kernel) (by decide) (fun h => by cases h) zk223
set_option maxRecDepth 100000 in
theorem zp224 : zPm 224 (11, false, 2, none, zt224) := zPm_of (y := (⟨"LaughLineModel", "keepNow", "()V"⟩, prog_13_method_77_code)) rfl zc224 rfl rfl (by decide +kernel) (by decide) (fun h => by cases h) zk224
set_option maxRecDepth 100000 in
theorem zp225 : zPm 225 (11, false, 3, some .boolean, zt225) := zPm_of (y := (⟨"LaughLineModel", "ears", "(IZ)Z"⟩, prog_13_method_78_code)) rfl zc225 rfl rfl (by decide +kernel) (by decide) (fun h => by cases h) zk225
set_option maxRecDepth 100000 in
theorem zp226 : zPm 226 (11, false, 3, some .boolean, zt226) := zPm_of (y := (⟨"LaughLineModel", "seat", "(II)Z"⟩, prog_13_method_79_code)) rfl zc226 rfl rfl (by decide +kernel) (by decide) (fun h => by cases h) zk226
set_option maxRecDepth 100000 in
theorem zp227 : zPm 227 (11, false, 4, some .boolean, zt227) := zPm_of (y := (⟨"LaughLineModel", "tell", "(IIZ)Z"⟩, prog_13_method_80_code)) rfl zc227 rfl rfl (by decide +kernel) (by decide) (fun h => by cases h) zk227
set_option maxRecDepth 100000 in
theorem zp228 : zPm 228 (11, false, 3, some .int, zt228) := zPm_of (y := (⟨"LaughLineModel", "go", "(I)I"⟩, prog_13_method_81_code)) rfl zc228 rfl rfl (by decide +kernel) (by decide) (fun h => by cases h) zk228
set_option maxRecDepth 100000 in
theorem zp229 : zPm 229 (11, false, 3, some .int, zt229) := zPm_of (y := (⟨"LaughLineModel", "ahead", "(II)I"⟩, prog_13_method_82_code)) rfl zc229 rfl rfl (by decide +kernel) (by decide) (fun h => by cases h) zk229
set_option maxRecDepth 100000 in
theorem zp230 : zPm 230 (11, false, 2, some .int, zt230) := zPm_of (y := (⟨"LaughLineModel", "getsOut", "(I)I"⟩, prog_13_method_83_code)) rfl zc230 rfl rfl (by decide +kernel) (by decide) (fun h => by cases h) zk230
set_option maxRecDepth 100000 in
theorem zp231 : zPm 231 (11, false, 2, some .int, zt231) := zPm_of (y := (⟨"LaughLineModel", "nextHalt", "()I"⟩, prog_13_method_84_code)) rfl zc231 rfl rfl (by decide +kernel) (by decide) (fun h => by cases h) zk231
set_option maxRecDepth 100000 in
theorem zp232 : zPm 232 (11, false, 3, none, zt232) := zPm_of (y := (⟨"LaughLineModel", "tellsToo", "(II)V"⟩, prog_13_method_85_code)) rfl zc232 rfl rfl (by decide +kernel) (by decide) (fun h => by cases h) zk232
set_option maxRecDepth 100000 in
theorem zp233 : zPm 233 (11, false, 1, some .int, zt233) := zPm_of (y := (⟨"LaughLineModel", "ridesOut", "()I"⟩, prog_13_method_86_code)) rfl zc233 rfl rfl (by decide +kernel) (by decide) (fun h => by cases h) zk233
set_option maxRecDepth 100000 in
theorem zp234 : zPm 234 (11, false, 7, some .int, zt234) := zPm_of (y := (⟨"LaughLineModel", "when", "(II)I"⟩, prog_13_method_87_code)) rfl zc234 rfl rfl (by decide +kernel) (by decide) (fun h => by cases h) zk234
set_option maxRecDepth 100000 in
theorem zp235 : zPm 235 (11, false, 10, some .int, zt235) := zPm_of (y := (⟨"LaughLineModel", "both", "(III)I"⟩, prog_13_method_88_code)) rfl zc235 rfl rfl (by decide +kernel) (by decide) (fun h => by cases h) zk235
set_option maxRecDepth 100000 in
theorem zp236 : zPm 236 (11, false, 6, none, zt236) := zPm_of (y := (⟨"LaughLineModel", "seats", "(III)V"⟩, prog_13_method_89_code)) rfl zc236 rfl rfl (by decide +kernel) (by decide) (fun h => by cases h) zk236
set_option maxRecDepth 100000 in
theorem zp237 : zPm 237 (11, false, 3, some .int, zt237) := zPm_of (y := (⟨"LaughLineModel", "seating", "(I)I"⟩, prog_13_method_90_code)) rfl zc237 rfl rfl (by decide +kernel) (by decide) (fun h => by cases h) zk237
set_option maxRecDepth 100000 in
theorem zp238 : zPm 238 (11, false, 4, some .int, zt238) := zPm_of (y := (⟨"LaughLineModel", "stopped", "(I)I"⟩, prog_13_method_91_code)) rfl zc238 rfl rfl (by decide +kernel) (by decide) (fun h => by cases h) zk238
set_option maxRecDepth 100000 in
theorem zp239 : zPm 239 (11, false, 7, none, zt239) := zPm_of (y := (⟨"LaughLineModel", "layClowns", "(II)V"⟩, prog_13_method_92_code)) rfl zc239 rfl rfl (by decide +kernel) (by decide) (fun h => by cases h) zk239
set_option maxRecDepth 100000 in
theorem zp240 : zPm 240 (11, false, 3, some .boolean, zt240) := zPm_of (y := (⟨"LaughLineModel", "isRest", "(I)Z"⟩, prog_13_method_93_code)) rfl zc240 rfl rfl (by decide +kernel) (by decide) (fun h => by cases h) zk240
set_option maxRecDepth 100000 in
theorem zp241 : zPm 241 (11, false, 4, some .int, zt241) := zPm_of (y := (⟨"LaughLineModel", "restOf", "(I)I"⟩, prog_13_method_94_code)) rfl zc241 rfl rfl (by decide +kernel) (by decide) (fun h => by cases h) zk241
set_option maxRecDepth 100000 in
theorem zp242 : zPm 242 (11, false, 3, some .boolean, zt242) := zPm_of (y := (⟨"LaughLineModel", "areTwo", "(II)Z"⟩, prog_13_method_95_code)) rfl zc242 rfl rfl (by decide +kernel) (by decide) (fun h => by cases h) zk242
set_option maxRecDepth 100000 in
theorem zp243 : zPm 243 (11, false, 3, some .int, zt243) := zPm_of (y := (⟨"LaughLineModel", "rests", "(II)I"⟩, prog_13_method_96_code)) rfl zc243 rfl rfl (by decide +kernel) (by decide) (fun h => by cases h) zk243
set_option maxRecDepth 100000 in
theorem zp244 : zPm 244 (11, false, 4, some .int, zt244) := zPm_of (y := (⟨"LaughLineModel", "rest", "(III)I"⟩, prog_13_method_97_code)) rfl zc244 rfl rfl (by decide +kernel) (by decide) (fun h => by cases h) zk244
set_option maxRecDepth 100000 in
theorem zp245 : zPm 245 (11, false, 5, some .int, zt245) := zPm_of (y := (⟨"LaughLineModel", "common", "(II)I"⟩, prog_13_method_98_code)) rfl zc245 rfl rfl (by decide +kernel) (by decide) (fun h => by cases h) zk245
set_option maxRecDepth 100000 in
theorem zp246 : zPm 246 (11, false, 5, some .int, zt246) := zPm_of (y := (⟨"LaughLineModel", "likely", "(II)I"⟩, prog_13_method_99_code)) rfl zc246 rfl rfl (by decide +kernel) (by decide) (fun h => by cases h) zk246
set_option maxRecDepth 100000 in
theorem zp247 : zPm 247 (11, false, 3, some .int, zt247) := zPm_of (y := (⟨"LaughLineModel", "solemn", "()I"⟩, prog_13_method_100_code)) rfl zc247 rfl rfl (by decide +kernel) (by decide) (fun h => by cases h) zk247
set_option maxRecDepth 100000 in
theorem zp248 : zPm 248 (11, false, 4, some .int, zt248) := zPm_of (y := (⟨"LaughLineModel", "late", "(I)I"⟩, prog_13_method_101_code)) rfl zc248 rfl rfl (by decide +kernel) (by decide) (fun h => by cases h) zk248
set_option maxRecDepth 100000 in
theorem zp249 : zPm 249 (11, false, 4, some .int, zt249) := zPm_of (y := (⟨"LaughLineModel", "note", "(IIZ)I"⟩, prog_13_method_102_code)) rfl zc249 rfl rfl (by decide +kernel) (by decide) (fun h => by cases h) zk249
set_option maxRecDepth 100000 in
theorem zp250 : zPm 250 (11, false, 2, some .int, zt250) := zPm_of (y := (⟨"LaughLineModel", "out", "(I)I"⟩, prog_13_method_103_code)) rfl zc250 rfl rfl (by decide +kernel) (by decide) (fun h => by cases h) zk250
set_option maxRecDepth 100000 in
theorem zp251 : zPm 251 (11, false, 2, some .boolean, zt251) := zPm_of (y := (⟨"LaughLineModel", "known", "(I)Z"⟩, prog_13_method_104_code)) rfl zc251 rfl rfl (by decide +kernel) (by decide) (fun h => by cases h) zk251
set_option maxRecDepth 100000 in
theorem zp252 : zPm 252 (11, false, 1, some .int, zt252) := zPm_of (y := (⟨"LaughLineModel", "knownMany", "()I"⟩, prog_13_method_105_code)) rfl zc252 rfl rfl (by decide +kernel) (by decide) (fun h => by cases h) zk252
set_option maxRecDepth 100000 in
theorem zp253 : zPm 253 (11, false, 2, some .boolean, zt253) := zPm_of (y := (⟨"LaughLineModel", "fitsDull", "()Z"⟩, prog_13_method_106_code)) rfl zc253 rfl rfl (by decide +kernel) (by decide) (fun h => by cases h) zk253
set_option maxRecDepth 100000 in
theorem zp254 : zPm 254 (11, false, 4, some .int, zt254) := zPm_of (y := (⟨"LaughLineModel", "dulls", "(I)I"⟩, prog_13_method_107_code)) rfl zc254 rfl rfl (by decide +kernel) (by decide) (fun h => by cases h) zk254
set_option maxRecDepth 100000 in
theorem zp255 : zPm 255 (11, false, 7, some .int, zt255) := zPm_of (y := (⟨"LaughLineModel", "chance", "(IIII)I"⟩, prog_13_method_108_code)) rfl zc255 rfl rfl (by decide +kernel) (by decide) (fun h => by cases h) zk255
set_option maxRecDepth 100000 in
theorem zp256 : zPm 256 (11, false, 5, some .int, zt256) := zPm_of (y := (⟨"LaughLineModel", "tried", "(III)I"⟩, prog_13_method_109_code)) rfl zc256 rfl rfl (by decide +kernel) (by decide) (fun h => by cases h) zk256
set_option maxRecDepth 100000 in
theorem zp257 : zPm 257 (11, false, 1, some .int, zt257) := zPm_of (y := (⟨"LaughLineModel", "undo", "()I"⟩, prog_13_method_110_code)) rfl zc257 rfl rfl (by decide +kernel) (by decide) (fun h => by cases h) zk257
set_option maxRecDepth 100000 in
theorem zp258 : zPm 258 (11, false, 1, some .int, zt258) := zPm_of (y := (⟨"LaughLineModel", "keep", "()I"⟩, prog_13_method_111_code)) rfl zc258 rfl rfl (by decide +kernel) (by decide) (fun h => by cases h) zk258
set_option maxRecDepth 100000 in
theorem zp259 : zPm 259 (11, false, 1, some .int, zt259) := zPm_of (y := (⟨"LaughLineModel", "back", "()I"⟩, prog_13_method_112_code)) rfl zc259 rfl rfl (by decide +kernel) (by decide) (fun h => by cases h) zk259
set_option maxRecDepth 100000 in
theorem zp260 : zPm 260 (11, false, 3, some .int, zt260) := zPm_of (y := (⟨"LaughLineModel", "tellingsNow", "()I"⟩, prog_13_method_113_code)) rfl zc260 rfl rfl (by decide +kernel) (by decide) (fun h => by cases h) zk260
set_option maxRecDepth 100000 in
theorem zp261 : zPm 261 (11, false, 2, some .int, zt261) := zPm_of (y := (⟨"LaughLineModel", "count", "(I)I"⟩, prog_13_method_114_code)) rfl zc261 rfl rfl (by decide +kernel) (by decide) (fun h => by cases h) zk261
set_option maxRecDepth 100000 in
theorem zp262 : zPm 262 (13, false, 1, some .int, zt262) := zPm_of (y := (⟨"java/lang/Integer", "bitCount", "(I)I"⟩, prog_19_method_49_code)) rfl zc262 rfl rfl (by decide +kernel) (by decide) (fun h => by cases h) zk262
set_option maxRecDepth 100000 in
theorem zp263 : zPm 263 (14, false, 2, some .int, zt263) := zPm_of (y := (⟨"java/lang/Long", "bitCount", "(J)I"⟩, prog_20_method_50_code)) rfl zc263 rfl rfl (by decide +kernel) (by decide) (fun h => by cases h) zk263
set_option maxRecDepth 100000 in
theorem zp264 : zPm 264 (15, false, 1, some .int, zt264) := zPm_of (y := (⟨"java/lang/String", "length", "()I"⟩, prog_23_method_54_code)) rfl zc264 rfl rfl (by decide +kernel) (by decide) (fun h => by cases h) zk264
set_option maxRecDepth 100000 in
theorem zp265 : zPm 265 (15, false, 2, some .char, zt265) := zPm_of (y := (⟨"java/lang/String", "charAt", "(I)C"⟩, prog_23_method_56_code)) rfl zc265 rfl rfl (by decide +kernel) (by decide) (fun h => by cases h) zk265
set_option maxRecDepth 100000 in
theorem zp266 : zPm 266 (15, false, 1, some .byte, zt266) := zPm_of (y := (⟨"java/lang/String", "coder", "()B"⟩, prog_23_method_152_code)) rfl zc266 rfl rfl (by decide +kernel) (by decide) (fun h => by cases h) zk266
set_option maxRecDepth 100000 in
theorem zp267 : zPm 267 (15, false, 1, some .boolean, zt267) := zPm_of (y := (⟨"java/lang/String", "isLatin1", "()Z"⟩, prog_23_method_154_code)) rfl zc267 rfl rfl (by decide +kernel) (by decide) (fun h => by cases h) zk267
set_option maxRecDepth 100000 in
theorem zp268 : zPm 268 (15, false, 2, none, zt268) := zPm_of (y := (⟨"java/lang/String", "checkIndex", "(II)V"⟩, prog_23_method_155_code)) rfl zc268 rfl rfl (by decide +kernel) (by decide) (fun h => by cases h) zk268
set_option maxRecDepth 100000 in
theorem zp269 : zPm 269 (16, false, 2, some .char, zt269) := zPm_of (y := (⟨"java/lang/StringLatin1", "charAt", "([BI)C"⟩, prog_24_method_2_code)) rfl zc269 rfl rfl (by decide +kernel) (by decide) (fun h => by cases h) zk269
set_option maxRecDepth 100000 in
theorem zp270 : zPm 270 (17, false, 2, some .char, zt270) := zPm_of (y := (⟨"java/lang/StringUTF16", "getChar", "([BI)C"⟩, prog_25_method_5_code)) rfl zc270 rfl rfl (by decide +kernel) (by decide) (fun h => by cases h) zk270
set_option maxRecDepth 100000 in
theorem zp271 : zPm 271 (17, false, 1, some .int, zt271) := zPm_of (y := (⟨"java/lang/StringUTF16", "length", "([B)I"⟩, prog_25_method_6_code)) rfl zc271 rfl rfl (by decide +kernel) (by decide) (fun h => by cases h) zk271
set_option maxRecDepth 100000 in
theorem zp272 : zPm 272 (17, false, 2, some .char, zt272) := zPm_of (y := (⟨"java/lang/StringUTF16", "charAt", "([BI)C"⟩, prog_25_method_83_code)) rfl zc272 rfl rfl (by decide +kernel) (by decide) (fun h => by cases h) zk272
set_option maxRecDepth 100000 in
theorem zp273 : zPm 273 (17, false, 2, none, zt273) := zPm_of (y := (⟨"java/lang/StringUTF16", "checkIndex", "(I[B)V"⟩, prog_25_method_91_code)) rfl zc273 rfl rfl (by decide +kernel) (by decide) (fun h => by cases h) zk273
set_option maxRecDepth 100000 in
theorem zp274 : zPm 274 (18, false, 3, some .int, zt274) := zPm_of (y := (⟨"jdk/internal/util/Preconditions", "checkIndex", "(IILjava/util/function/BiFunction;)I"⟩, prog_30_method_11_code)) rfl zc274 rfl rfl (by decide +kernel) (by decide) (fun h => by cases h) zk274
theorem zam0 : zAll zPm 0 zMl0 := ⟨zp0, zp1, zp2, zp3, zp4, zp5, zp6, zp7, zp8, zp9, zp10, zp11, zp12, zp13, zp14, zp15, zp16, zp17, zp18, zp19, zp20, zp21, zp22, zp23, zp24, zp25, zp26, zp27, zp28, zp29, trivial⟩
theorem zam1 : zAll zPm 30 zMl1 := ⟨zp30, zp31, zp32, zp33, zp34, zp35, zp36, zp37, zp38, zp39, zp40, zp41, zp42, zp43, zp44, zp45, zp46, zp47, zp48, zp49, zp50, zp51, zp52, zp53, zp54, zp55, zp56, zp57, zp58, zp59, trivial⟩
theorem zam2 : zAll zPm 60 zMl2 := ⟨zp60, zp61, zp62, zp63, zp64, zp65, zp66, zp67, zp68, zp69, zp70, zp71, zp72, zp73, zp74, zp75, zp76, zp77, zp78, zp79, zp80, zp81, zp82, zp83, zp84, zp85, zp86, zp87, zp88, zp89, trivial⟩
theorem zam3 : zAll zPm 90 zMl3 := ⟨zp90, zp91, zp92, zp93, zp94, zp95, zp96, zp97, zp98, zp99, zp100, zp101, zp102, zp103, zp104, zp105, zp106, zp107, zp108, zp109, zp110, zp111, zp112, zp113, zp114, zp115, zp116, zp117, zp118, zp119, trivial⟩
theorem zam4 : zAll zPm 120 zMl4 := ⟨zp120, zp121, zp122, zp123, zp124, zp125, zp126, zp127, zp128, zp129, zp130, zp131, zp132, zp133, zp134, zp135, zp136, zp137, zp138, zp139, zp140, zp141, zp142, zp143, zp144, zp145, zp146, zp147, zp148, zp149, trivial⟩
theorem zam5 : zAll zPm 150 zMl5 := ⟨zp150, zp151, zp152, zp153, zp154, zp155, zp156, zp157, zp158, zp159, zp160, zp161, zp162, zp163, zp164, zp165, zp166, zp167, zp168, zp169, zp170, zp171, zp172, zp173, zp174, zp175, zp176, zp177, zp178, zp179, trivial⟩
theorem zam6 : zAll zPm 180 zMl6 := ⟨zp180, zp181, zp182, zp183, zp184, zp185, zp186, zp187, zp188, zp189, zp190, zp191, zp192, zp193, zp194, zp195, zp196, zp197, zp198, zp199, zp200, zp201, zp202, zp203, zp204, zp205, zp206, zp207, zp208, zp209, trivial⟩
theorem zam7 : zAll zPm 210 zMl7 := ⟨zp210, zp211, zp212, zp213, zp214, zp215, zp216, zp217, zp218, zp219, zp220, zp221, zp222, zp223, zp224, zp225, zp226, zp227, zp228, zp229, zp230, zp231, zp232, zp233, zp234, zp235, zp236, zp237, zp238, zp239, trivial⟩
theorem zam8 : zAll zPm 240 zMl8 := ⟨zp240, zp241, zp242, zp243, zp244, zp245, zp246, zp247, zp248, zp249, zp250, zp251, zp252, zp253, zp254, zp255, zp256, zp257, zp258, zp259, zp260, zp261, zp262, zp263, zp264, zp265, zp266, zp267, zp268, zp269, trivial⟩
theorem zam9 : zAll zPm 270 zMl9 := ⟨zp270, zp271, zp272, zp273, zp274, trivial⟩
theorem zamAll : zAll zPm 0 zMl := zAll_app zam0 (zAll_app zam1 (zAll_app zam2 (zAll_app zam3 (zAll_app zam4 (zAll_app zam5 (zAll_app zam6 (zAll_app zam7 (zAll_app zam8 (zam9)))))))))
theorem zMt_ok {mi : Nat} {q : zMe} (h : zMt mi = some q) : zPm mi q := by
  have h1 := zAll_get zamAll h
  rwa [Nat.zero_add] at h1
