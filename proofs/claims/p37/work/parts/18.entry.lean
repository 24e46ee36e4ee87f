/-! THE ENTRY: what the Statement gives of the start is what our machine asks for. -/
theorem zel_w0 : (List.range 113).all (fun j => decide ((flatC (Jvm.Cond.and given_1 narrow_1))[84 + j]? = some (Cond.eq (.elem (.field (.string "LaughLine$Scanner" 34) "java/lang/String" "value" "[B") (.int (Int32.ofNat j))) (.int (zwords.getD j 0))))) = true := by decide +kernel
theorem zel_w1 : (List.range 113).all (fun j => decide ((flatC (Jvm.Cond.and given_1 narrow_1))[237 + j]? = some (Cond.eq (.elem (.field (.string "LaughLineModel" 209) "java/lang/String" "value" "[B") (.int (Int32.ofNat j))) (.int (zwords.getD j 0))))) = true := by decide +kernel
theorem zel_m : (List.range 40).all (fun j => decide (Cond.eq (.elem (.static "LaughLine$Reader" "MOST" "[I") (.int (Int32.ofNat j))) (.int (zmost.getD j 0)) ∈ flatC (Jvm.Cond.and given_1 narrow_1))) = true := by decide +kernel
theorem zstr_at {args : Array Value} {s : State} {own : String} {k : Nat} {A : Nat → Prop} (hA : ∀ a : Nat, a < s.heap.size → ¬ A a) (hex : (Cond.exactly (.string own k) "java/lang/String").before args s = true) (hco : (Cond.eq (.field (.string own k) "java/lang/String" "coder" "B") (.int 0)).before args s = true) (har : (Cond.arrayOf (.field (.string own k) "java/lang/String" "value" "[B") .byte).before args s = true) (hle : (Cond.eq (.length (.field (.string own k) "java/lang/String" "value" "[B")) (.int 113)).before args s = true) (hel : ∀ j : Nat, j < 113 → (Cond.eq (.elem (.field (.string own k) "java/lang/String" "value" "[B") (.int (Int32.ofNat j))) (.int (zwords.getD j 0))).before args s = true) :
    ∃ q1 q2 : Nat, (Term.string own k).eval args s none [] s = some (.ref q1) ∧ va_O "java/lang/String" q1 A s s.heap ∧ va_OF "java/lang/String" "coder" "B" (.int 0) q1 A s s.heap ∧ va_OF "java/lang/String" "value" "[B" (.ref q2) q1 A s s.heap ∧ va_T .byte q2 113 (fun j => .int (zwords.getD j 0)) A s s.heap := by
  have e0 : ∀ i : Nat, i < 1 → i = 0 := fun i hi => by omega
  obtain ⟨adK, adV, h1, h2⟩ := vk_Sof (args := args) (s := s) (N := 1) (tm := fun _ => .string own k) (len := [113]) (byt := [zwords]) (A := A) (fun i hi => by rw [e0 i hi]; decide) (fun _ _ => hex) (fun _ _ => hco) (fun _ _ => har) (fun i hi => by rw [e0 i hi]; exact hle) (fun i hi j hj => by rw [e0 i hi] at hj ⊢; exact hel j hj) (fun i j hi hj hij => absurd ((e0 i hi).trans (e0 j hj).symm) hij) hA
  obtain ⟨g1, g2, g3, g4⟩ := h1.1 0 (by decide)
  exact ⟨adK 0, adV 0, h2 0 (by decide), g1, g2, g3, g4⟩
def znestL : List (String × Nat × MethodName × String) := [("LaughLine", 25, ⟨"LaughLine$Reader", "<init>", "()V"⟩, "LaughLine"), ("LaughLine", 32, ⟨"LaughLine$Plan", "<init>", "()V"⟩, "LaughLine"), ("LaughLine$Plan", 43, ⟨"LaughLine$Laws", "<init>", "()V"⟩, "LaughLine"), ("LaughLine$Ride", 53, ⟨"LaughLine$Passenger", "<init>", "()V"⟩, "LaughLine"), ("LaughLine", 64, ⟨"LaughLine$Twist", "<init>", "()V"⟩, "LaughLine"), ("LaughLine", 71, ⟨"LaughLine$Undoes", "<init>", "()V"⟩, "LaughLine"), ("LaughLine", 78, ⟨"LaughLine$Notes", "<init>", "()V"⟩, "LaughLine")]
theorem znest_in : ∀ q ∈ znestL, Cond.methodLinkNest q.1 q.2.1 q.2.2.1 q.2.2.2 ∈ lw_tbl := fun q hq => zin_r (ws := znestL.map (fun q => Cond.methodLinkNest q.1 q.2.1 q.2.2.1 q.2.2.2)) [142, 255, 289, 386, 492, 525, 553] (by decide +kernel) _ (List.mem_map.mpr ⟨q, hq, rfl⟩)
theorem znest_ok : zMLl.all (fun q => decide (q.2.2.1 ≠ 4 ∨ znestL.any (fun z => (decide (z.1 = zown q.1) && decide (z.2.1 = q.2.1)) && decide (z.2.2.1 = (zY q.2.2.2.1).1)) = true)) = true := by decide +kernel
set_option maxHeartbeats 4000000 in
theorem zentry_ok {s : State} {b : Nat} {xs : List Int32} (hts : ∀ w ∈ lw_tbl, w.before #[Value.ref b] s = true) (hgv : (Jvm.Cond.and given_1 narrow_1).before #[Value.ref b] s = true) (hX : va_X b xs.length (fun j => xs.getD j 0) s s.heap) (hbl : b < s.heap.size) :
    ∃ (nf : Bool) (xa : Nat → Nat) (ca : Nat → ClassId) (D : va_G), xa 6 = b ∧ zGS zTs s.heap.size xa ca D zcls "LaughLine$Passenger" (zXt nf xs) zown s ∧ zGN zIT zY zown s := by
  have hz : ∀ w ∈ zTs, w.before #[Value.ref b] s = true := fun w h => hts w (zTs_in w h)
  have fl := flat_of_before _ hgv
  have hA : ∀ a : Nat, a < s.heap.size → ¬ zA s.heap.size a := fun a h q => absurd q (Nat.not_le.mpr h)
  -- classes
  have hD : ∀ k : Nat, ∃ q : ClassId × (Nat → Nat), k < 12 → u_Kn s (zown k) (zfd k) (zN k) q.1 q.2 := by
    intro k
    by_cases hk : k < 12
    · have hm : (zown k, zfd k, zN k) ∈ zcls := List.mem_of_getElem? (zcls_of hk)
      obtain ⟨c9, i9, h9⟩ := u_known (C := zown k) (T := zfd k) (N := zN k) (n := zN k) hz (fun w hw => zto1 (List.mem_flatMap.mpr ⟨_, hm, hw⟩)) (hz _ (zto2 (List.mem_map.mpr ⟨_, hm, rfl⟩)))
      exact ⟨(c9, i9), fun _ => h9⟩
    · exact ⟨(0, fun _ => 0), fun h => absurd h hk⟩
  obtain ⟨dd, hdd⟩ := Classical.axiomOfChoice hD
  -- arrays
  obtain ⟨a0, k0, m0, x0, y0, z0⟩ := Cond.arrayClass_spec (hz _ (zto10 (List.mem_of_getElem? (i := 0) rfl)))
  obtain ⟨a1, k1, m1, x1, y1, z1⟩ := Cond.arrayClass_spec (hz _ (zto10 (List.mem_of_getElem? (i := 1) rfl)))
  obtain ⟨a2, k2, m2, x2, y2, z2⟩ := Cond.arrayClass_spec (hz _ (zto10 (List.mem_of_getElem? (i := 2) rfl)))
  have hAO : va_AO "LaughLine$Passenger" s := va_AO.of (hts (.arrayOver (.object "LaughLine$Passenger")) (List.mem_of_getElem? (i := 384) (by decide +kernel)))
  obtain ⟨m3, a3, k3, x3, -, y3, z3, w3⟩ := Cond.arrayOver_spec hAO
  -- texts
  obtain ⟨s0, v0, t1, t2, t3, t4, t5⟩ := zstr_at (own := "LaughLine$Scanner") (k := 34) hA (fl _ (by decide +kernel)) (fl _ (by decide +kernel)) (fl _ (by decide +kernel)) (fl _ (by decide +kernel)) (fun j hj => fl _ (List.mem_of_getElem? (of_decide_eq_true (List.all_eq_true.mp zel_w0 j (List.mem_range.mpr hj)))))
  obtain ⟨s1, v1, u1, u2, u3, u4, u5⟩ := zstr_at (own := "LaughLineModel") (k := 209) hA (fl _ (by decide +kernel)) (fl _ (by decide +kernel)) (fl _ (by decide +kernel)) (fl _ (by decide +kernel)) (fun j hj => fl _ (List.mem_of_getElem? (of_decide_eq_true (List.all_eq_true.mp zel_w1 j (List.mem_range.mpr hj)))))
  obtain ⟨s7, _, _, _, r7, _⟩ := Cond.exactly_spec (args := #[Value.ref b]) (first := s) (o := none) (s := s) (idx := []) (t := .string "LaughLine" 138) (cls := "java/lang/String") (fl _ (by decide +kernel))
  obtain ⟨s8, _, _, _, r8, _⟩ := Cond.exactly_spec (args := #[Value.ref b]) (first := s) (o := none) (s := s) (idx := []) (t := .string "LaughLine" 173) (cls := "java/lang/String") (fl _ (by decide +kernel))
  -- statics
  obtain ⟨tm, q1, q2⟩ := va_Tof (args := #[Value.ref b]) (s := s) (tm := .static "LaughLine$Reader" "MOST" "[I") (ty := .int) (N := 40) (f := fun j => .int (zmost.getD j 0)) (A := zA s.heap.size) (by decide) (fl _ (by decide +kernel)) (va_eqt (fl _ (by decide +kernel))) (fun j hj => va_eqt (fl _ (by have := List.all_eq_true.mp zel_m j (List.mem_range.mpr hj); exact of_decide_eq_true this))) hA
  have hMost := va_Zref (hts (.laysStatic "LaughLine$Reader" "MOST" "[I") (List.mem_of_getElem? (i := 820) (by decide +kernel))) (hts (.initialized "LaughLine$Reader") (List.mem_of_getElem? (i := 109) (by decide +kernel))) q1 hA
  have hCo := va_Zof (hts (.laysStatic "java/lang/String" "COMPACT_STRINGS" "Z") (List.mem_of_getElem? (i := 162) (by decide +kernel))) (hts (.initialized "java/lang/String") (List.mem_of_getElem? (i := 111) (by decide +kernel))) (va_eqt (z := 1) (fl _ (by decide +kernel))) hA
  have hAs := va_Zof (hts (.laysStatic "java/lang/StringUTF16" "$assertionsDisabled" "Z") (List.mem_of_getElem? (i := 196) (by decide +kernel))) (hts (.initialized "java/lang/StringUTF16") (List.mem_of_getElem? (i := 114) (by decide +kernel))) (va_eqt (z := 1) (fl _ (by decide +kernel))) hA
  have hHi := va_Zof (hts (.laysStatic "java/lang/StringUTF16" "HI_BYTE_SHIFT" "I") (List.mem_of_getElem? (i := 198) (by decide +kernel))) (hts (.initialized "java/lang/StringUTF16") (List.mem_of_getElem? (i := 114) (by decide +kernel))) (va_eqt (z := 0) (fl _ (by decide +kernel))) hA
  have hLo := va_Zof (hts (.laysStatic "java/lang/StringUTF16" "LO_BYTE_SHIFT" "I") (List.mem_of_getElem? (i := 200) (by decide +kernel))) (hts (.initialized "java/lang/StringUTF16") (List.mem_of_getElem? (i := 114) (by decide +kernel))) (va_eqt (z := 8) (fl _ (by decide +kernel))) hA
  have hSi := va_Zqof (hts (.laysStatic "jdk/internal/util/Preconditions" "SIOOBE_FORMATTER" "Ljava/util/function/BiFunction;") (List.mem_of_getElem? (i := 178) (by decide +kernel))) (hts (.initialized "jdk/internal/util/Preconditions") (List.mem_of_getElem? (i := 113) (by decide +kernel))) (fl _ (by decide +kernel)) hA
  obtain ⟨nf, f5, hSi⟩ : ∃ (nf : Bool) (f5 : Nat), va_Z "jdk/internal/util/Preconditions" "SIOOBE_FORMATTER" "Ljava/util/function/BiFunction;" (bif nf then .null else .ref f5) (zA s.heap.size) s s.heap := by
    rcases hSi with h | ⟨t, h⟩
    · exact ⟨true, 0, h⟩
    · exact ⟨false, t, h⟩
  refine ⟨nf, fun e => if e = 0 then s0 else if e = 1 then s1 else if e = 2 then v0 else if e = 3 then v1 else if e = 4 then tm else if e = 5 then f5 else if e = 6 then b else if e = 7 then s7 else s8, fun t => if t = 0 then a0 else if t = 1 then a1 else if t = 2 then a2 else a3, (fun k => (dd k).1, fun k => (dd k).2), rfl, ⟨⟨fun c q hq => ?_, fun k q hq => ?_⟩, hAO, fun c j e h => ?_, fun c j v h => ?_, fun c j e v h => ?_, fun e bb l h => ?_, fun e c h => ?_⟩, fun c j mi n h => ?_⟩
  · obtain ⟨h1, h2⟩ := zcls_at hq
    subst h2
    exact hdd c h1
  · match k, hq with
    | 0, hq => cases hq; exact ⟨fun n z => ⟨fun k h => (by cases h), k0, y0, m0, z0⟩, x0⟩
    | 1, hq => cases hq; exact ⟨fun n z => ⟨fun k h => (by cases h), k1, y1, m1, z1⟩, x1⟩
    | 2, hq => cases hq; exact ⟨fun n z => ⟨fun k h => (by cases h), k2, y2, m2, z2⟩, x2⟩
    | 3, hq => cases hq; exact ⟨fun n z => ⟨fun k h => (by cases h), k3, y3, m3, z3⟩, k3, m3, y3, z3, x3, w3⟩
    | k + 4, hq => simp [ztys] at hq
  · have h1 := zko_s h
    simp only [zKSl, List.mem_cons, List.not_mem_nil, or_false, Prod.mk.injEq] at h1
    rcases h1 with ⟨rfl, rfl, rfl⟩ | ⟨rfl, rfl, rfl⟩ | ⟨rfl, rfl, rfl⟩ | ⟨rfl, rfl, rfl⟩
    · exact ⟨_, vk_R.of (hts (.stringRef "LaughLine$Scanner" 34 "line rider joke tell sight tunnel near seed law mirth laugh calm or and not fun likes heard mood dull halts mile ") (List.mem_of_getElem? (i := 152) (by decide +kernel))) t1⟩
    · exact ⟨_, vk_R.of (hts (.stringRef "LaughLine" 138 "no such rider") (List.mem_of_getElem? (i := 1281) (by decide +kernel))) r7⟩
    · exact ⟨_, vk_R.of (hts (.stringRef "LaughLine" 173 "no such what") (List.mem_of_getElem? (i := 1316) (by decide +kernel))) r8⟩
    · exact ⟨_, vk_R.of (hts (.stringRef "LaughLineModel" 209 "line rider joke tell sight tunnel near seed law mirth laugh calm or and not fun likes heard mood dull halts mile ") (List.mem_of_getElem? (i := 1587) (by decide +kernel))) u1⟩
  · have h0 : zstaT nf c j = some v := h
    unfold zstaT at h0
    cases hb0 : (Nat.beq c 15 && Nat.beq j 38) with
    | true =>
      rw [hb0] at h0
      simp only [Bool.and_eq_true] at hb0
      obtain rfl := Nat.eq_of_beq_eq_true hb0.1
      obtain rfl := Nat.eq_of_beq_eq_true hb0.2
      cases h0
      exact ⟨_, _, _, hCo, zto5 (List.mem_of_getElem? (i := 0) rfl)⟩
    | false =>
    rw [hb0] at h0
    cases hb1 : (Nat.beq c 15 && Nat.beq j 1053) with
    | true =>
      rw [hb1] at h0
      simp only [Bool.and_eq_true] at hb1
      obtain rfl := Nat.eq_of_beq_eq_true hb1.1
      obtain rfl := Nat.eq_of_beq_eq_true hb1.2
      cases h0
      cases nf <;> exact ⟨_, _, _, hSi, zto5 (List.mem_of_getElem? (i := 1) rfl)⟩
    | false =>
    rw [hb1] at h0
    cases hb2 : (Nat.beq c 17 && Nat.beq j 44) with
    | true =>
      rw [hb2] at h0
      simp only [Bool.and_eq_true] at hb2
      obtain rfl := Nat.eq_of_beq_eq_true hb2.1
      obtain rfl := Nat.eq_of_beq_eq_true hb2.2
      cases h0
      exact ⟨_, _, _, hAs, zto5 (List.mem_of_getElem? (i := 2) rfl)⟩
    | false =>
    rw [hb2] at h0
    cases hb3 : (Nat.beq c 17 && Nat.beq j 59) with
    | true =>
      rw [hb3] at h0
      simp only [Bool.and_eq_true] at hb3
      obtain rfl := Nat.eq_of_beq_eq_true hb3.1
      obtain rfl := Nat.eq_of_beq_eq_true hb3.2
      cases h0
      exact ⟨_, _, _, hHi, zto5 (List.mem_of_getElem? (i := 3) rfl)⟩
    | false =>
    rw [hb3] at h0
    cases hb4 : (Nat.beq c 17 && Nat.beq j 63) with
    | true =>
      rw [hb4] at h0
      simp only [Bool.and_eq_true] at hb4
      obtain rfl := Nat.eq_of_beq_eq_true hb4.1
      obtain rfl := Nat.eq_of_beq_eq_true hb4.2
      cases h0
      exact ⟨_, _, _, hLo, zto5 (List.mem_of_getElem? (i := 4) rfl)⟩
    | false =>
    rw [hb4] at h0
    cases hb5 : (Nat.beq c 4 && Nat.beq j 141) with
    | true =>
      rw [hb5] at h0
      simp only [Bool.and_eq_true] at hb5
      obtain rfl := Nat.eq_of_beq_eq_true hb5.1
      obtain rfl := Nat.eq_of_beq_eq_true hb5.2
      cases h0
      exact ⟨_, _, _, hMost, zto5 (List.mem_of_getElem? (i := 5) rfl)⟩
    | false =>
    rw [hb5] at h0
    cases h0
  · have h0 : zxgT c j e = some v := h
    unfold zxgT at h0
    cases hb1 : (Nat.beq c 15 && Nat.beq j 9) with
    | true =>
      rw [hb1] at h0
      simp only [Bool.and_eq_true] at hb1
      obtain rfl := Nat.eq_of_beq_eq_true hb1.1
      obtain rfl := Nat.eq_of_beq_eq_true hb1.2
      cases hb2 : Nat.beq e 0 with
      | true =>
        obtain rfl := Nat.eq_of_beq_eq_true hb2
        cases h0
        exact ⟨_, _, _, t4, zto6 (List.mem_of_getElem? (i := 0) rfl)⟩
      | false =>
        cases hb3 : Nat.beq e 1 with
        | true =>
          obtain rfl := Nat.eq_of_beq_eq_true hb3
          cases h0
          exact ⟨_, _, _, u4, zto6 (List.mem_of_getElem? (i := 0) rfl)⟩
        | false => rw [hb2, hb3] at h0; cases h0
    | false =>
      rw [hb1] at h0
      cases hb4 : (Nat.beq c 15 && Nat.beq j 15) with
      | false => rw [hb4] at h0; cases h0
      | true =>
        rw [hb4] at h0
        simp only [Bool.and_eq_true] at hb4
        obtain rfl := Nat.eq_of_beq_eq_true hb4.1
        obtain rfl := Nat.eq_of_beq_eq_true hb4.2
        cases hb5 : Nat.ble e 1 with
        | false => rw [hb5] at h0; cases h0
        | true =>
          have h5 := Nat.le_of_ble_eq_true hb5
          rw [hb5] at h0
          cases h0
          rcases (show e = 0 ∨ e = 1 by omega) with rfl | rfl
          · exact ⟨_, _, _, t3, zto6 (List.mem_of_getElem? (i := 1) rfl)⟩
          · exact ⟨_, _, _, u3, zto6 (List.mem_of_getElem? (i := 1) rfl)⟩
  · have h0 : zxaT xs e = some (bb, l) := h
    unfold zxaT at h0
    cases hb1 : (Nat.beq e 2 || Nat.beq e 3) with
    | true =>
      rw [hb1] at h0
      cases h0
      simp only [Bool.or_eq_true] at hb1
      rcases hb1 with hb1 | hb1
      · obtain rfl := Nat.eq_of_beq_eq_true hb1
        exact t5
      · obtain rfl := Nat.eq_of_beq_eq_true hb1
        exact u5
    | false =>
      rw [hb1] at h0
      cases hb2 : Nat.beq e 4 with
      | true =>
        rw [hb2] at h0
        cases h0
        obtain rfl := Nat.eq_of_beq_eq_true hb2
        exact q2
      | false =>
        rw [hb2] at h0
        cases hb3 : Nat.beq e 6 with
        | false => rw [hb3] at h0; cases h0
        | true =>
          rw [hb3] at h0
          cases h0
          obtain rfl := Nat.eq_of_beq_eq_true hb3
          obtain ⟨scr, g1, g2, g3, g4, g5⟩ := hX
          exact ⟨scr, g1, g2, g3, Nat.le_of_eq g4.symm, by rw [g4] <;> rfl, g5, hA b hbl⟩
  · have h0 : zxcT e = some c := h
    unfold zxcT at h0
    cases hb5 : Nat.ble e 1 with
    | false => rw [hb5] at h0; cases h0
    | true =>
      have h5 := Nat.le_of_ble_eq_true hb5
      rw [hb5] at h0
      cases h0
      rcases (show e = 0 ∨ e = 1 by omega) with rfl | rfl
      · exact t2
      · exact u2
  · have h1 := zml_in h
    have h2 := List.all_eq_true.mp znest_ok _ h1
    have h3 := of_decide_eq_true (h2)
    rcases h3 with h3 | h3
    · exact absurd rfl h3
    · obtain ⟨q, hq, hq2⟩ := List.any_eq_true.mp h3
      simp only [Bool.and_eq_true, decide_eq_true_eq] at hq2
      exact ⟨q.2.2.2, by rw [← hq2.1.1, ← hq2.1.2, ← hq2.2]; exact va_Nw.of rfl (hts _ (znest_in q hq))⟩
