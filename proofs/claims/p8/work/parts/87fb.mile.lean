/-! One mile, of both sides, exactly. -/
theorem kill_nil {E : List aY} {ρ : List Int} {m : aM} {h : zH} (hE : aE qW E ρ) (hH : aH qW qG ρ m h) (hk : (akill qW E (fun _ => false) m).isSome = true) : aH qW qG [0] [] h := by
  obtain ⟨m', hm'⟩ := Option.isSome_iff_exists.mp hk
  obtain ⟨hK, hK2⟩ := akill_ok hE hm' hH
  have e0 : m' = [] := by
    cases m' with
    | nil => rfl
    | cons a r => cases (hK2 a List.mem_cons_self).2
  subst e0
  exact aH_nil hK
/-- a place that the engine tells at an end -/
theorem mg_int {E : List aY} {ρ : List Int} {m : aM} {h : zH} {r c k s : Nat} {z d : Int} (hE : aE qW E ρ) (hH : aH qW qG ρ m h) (hk : k < 1000) (hr : ρ[r]? = some (c : Int)) (ho : ∀ g : zH, qG c k g = none) (hm : amg m (r, 0, (k : Int)) = some (.inl (s, d))) (hs : ρ[s]? = some z) : gi h c k = Int32.ofInt (z + d) := by
  obtain ⟨w, w1, w2⟩ := qamg hE hH hk hr hm
  rw [qrdx (ho h)] at w1
  obtain ⟨x, ⟨z2, z3, z4⟩, rfl⟩ := w2
  rw [hs] at z3
  cases z3
  show xi (rd h c k) = _
  rw [w1, ← z4]
  rfl
theorem off_ge {c k : Nat} (h2 : ¬ c = 2) (h3 : ¬ c = 128) : ∀ g : zH, qG c k g = none := fun _ => qG_off h2 h3
theorem i32i {x : Int32} : Int32.ofInt (x.toInt + 0) = x := by rw [Int.add_zero, Int32.ofInt_toInt]
theorem i32s {x : Int32} : Int32.ofInt (x.toInt + 1) = x + 1 := by rw [Int32.ofInt_add, Int32.ofInt_toInt]; rfl
theorem mile_C {nf : Bool} {xs : List Int32} {d P : Nat} {h h' : zH} {r : Option Value} (hH : aH qW qG [0] [] h) (hP : P = 7 ∨ P = 31) (h2 : rd h 55 2 = some (.ref P)) (e : zEv (zXt nf xs) zIT zmcl zMt d 59 [.ref 55, .ref 115] h r h') : r = none ∧ aH qW qG [0] [] h' ∧ (KP qcx0.2.2.2.2.1 h h' ∧ h'.length = h.length) ∧ ((gi h 55 5).toInt + 1 ≤ (gi h P 10).toInt ∧ gi h' 55 4 = gi h 55 4 ∧ gi h' 55 5 = gi h 55 5 + 1 ∨ (gi h P 10).toInt ≤ (gi h 55 5).toInt ∧ gi h' 55 4 = gi h 55 4 + 1 ∧ gi h' 55 5 = 0) := by
  have hi10 : inW P 10 = true ∧ apl (afm qW (asrt qW P)) 10 = (0, 0, 60) ∧ (asrt qW P : Int) = ((7 : Nat) : Int) ∧ P < qW.1.length := by rcases hP with rfl | rfl <;> decide +kernel
  obtain ⟨D, d1, d2, -, -⟩ := iv_of (a := 55) (k := 4) (l := -2147483648) (u := 2147483647) hH (by decide +kernel) (by decide +kernel)
  obtain ⟨M, m1, m2, m3, m4⟩ := iv_of (a := 55) (k := 5) (l := 0) (u := 60) hH (by decide +kernel) (by decide +kernel)
  obtain ⟨L, l1, l2, l3, l4⟩ := iv_of (a := P) (k := 10) (l := 0) (u := 60) hH hi10.1 hi10.2.1
  have E1 := (((((aE0.push (t := (2, 31, 31)) (z := 55) (asR (so := 31) (c := 55) (by decide +kernel) (by decide +kernel))).push (t := (2, 36, 36)) (z := 115) (asR (so := 36) (c := 115) (by decide +kernel) (by decide +kernel))).push (t := (2, 7, 7)) (z := (P : Int)) (asR (so := 7) (c := P) hi10.2.2.2 hi10.2.2.1)).push (t := (0, 0, 60)) (z := L.toInt) ⟨l3, l4⟩).push (t := (0, -2147483648, 2147483647)) (z := D.toInt) (ab D)).push (t := (0, 0, 60)) (z := M.toInt) ⟨m3, m4⟩
  have hE : aE qW (aent qcx0) [0, 55, 115, (P : Int), L.toInt, D.toInt, M.toInt] := E1
  have hv : aSt [0, 55, 115, (P : Int), L.toInt, D.toInt, M.toInt] (aarg qcx0) [.ref 55, .ref 115] := ⟨_, _, rfl, ⟨55, rfl, rfl⟩, _, _, rfl, ⟨115, rfl, rfl⟩, rfl⟩
  have a1 := aH_add (q := (1, 0, 5)) (b := .inl (6, 0)) (a := 55) (k := 5) (v := .int M) (aH_nil (ρ' := [0, 55, 115, (P : Int), L.toInt, D.toInt, M.toInt]) hH) (qden (k := 5) (c := 55) (r := 1) hE (by decide) rfl) (by decide +kernel) (by decide +kernel) (by rw [qrdx (qG_off (by decide) (by decide))]; exact m1) ⟨M, ⟨M.toInt, rfl, i32i.symm⟩, rfl⟩
  have a2 := aH_add (q := (1, 0, 4)) (b := .inl (5, 0)) (a := 55) (k := 4) (v := .int D) a1 (qden (k := 4) (c := 55) (r := 1) hE (by decide) rfl) (by decide +kernel) (by decide +kernel) (by rw [qrdx (qG_off (by decide) (by decide))]; exact d1) ⟨D, ⟨D.toInt, rfl, i32i.symm⟩, rfl⟩
  have a3 := aH_add (q := (3, 0, 10)) (b := .inl (4, 0)) (a := P) (k := 10) (v := .int L) a2 (qden (k := 10) (c := P) (r := 3) hE (by decide) rfl) hi10.2.2.2 (Nat.lt_of_lt_of_le (inW_ok hi10.1).2 (apn_le _)) (by rw [qrdx (qG_off (by omega) (by omega))]; exact l1) ⟨L, ⟨L.toInt, rfl, i32i.symm⟩, rfl⟩
  have a4 := aH_add (q := (1, 0, 2)) (b := .inr (.inr (.inl 3))) (a := 55) (k := 2) (v := .ref P) a3 (qden (k := 2) (c := 55) (r := 1) hE (by decide) rfl) (by decide +kernel) (by decide +kernel) (by rw [qrdx (qG_off (by decide) (by decide))]; exact h2) ⟨P, rfl, rfl⟩
  obtain ⟨r1, h1, g1, o, o1, ρ1, y2, -, y4, y5, y6, y7⟩ := qX_ok nf xs 59 qcx0 (List.Mem.head _) _ h [.ref 55, .ref 115] trivial hE hv a4
  obtain ⟨rfl, rfl⟩ := zEv_same e g1
  rw [d2, m2, l2]
  have s4 : ρ1[4]? = some L.toInt := y2.get rfl
  have s5 : ρ1[5]? = some D.toInt := y2.get rfl
  have s6 : ρ1[6]? = some M.toInt := y2.get rfl
  have s1 : ρ1[1]? = some ((55 : Nat) : Int) := y2.get rfl
  unfold qcx0 at o1
  dsimp only at o1
  rcases List.mem_cons.mp o1 with rfl | o1
  · obtain ⟨z, z', z1, z2, z3⟩ := acst_of y4 (t := (10, 4, 1)) (by decide) (by decide)
    have z1 : ρ1[6]? = some z := z1
    have z2 : ρ1[4]? = some z' := z2
    rw [s6] at z1
    rw [s4] at z2
    cases z1
    cases z2
    refine ⟨y5, kill_nil y4 y6 (by decide +kernel), ⟨KP_of y7, y7.1⟩, Or.inl ⟨z3, ?_, ?_⟩⟩
    · rw [mg_int (k := 4) (s := 5) (d := 0) y4 y6 (by decide) s1 (off_ge (by decide) (by decide)) rfl s5]; exact i32i
    · rw [mg_int (k := 5) (s := 6) (d := 1) y4 y6 (by decide) s1 (off_ge (by decide) (by decide)) rfl s6]; exact i32s
  · rcases List.mem_cons.mp o1 with rfl | o1
    · obtain ⟨z, z', z1, z2, z3⟩ := acst_of y4 (t := (8, 6, 0)) (by decide) (by decide)
      have z1 : ρ1[4]? = some z := z1
      have z2 : ρ1[6]? = some z' := z2
      rw [s4] at z1
      rw [s6] at z2
      cases z1
      cases z2
      obtain ⟨w, w1, w2⟩ := y4.has (k := 7) rfl
      have w2 : 0 ≤ w ∧ w ≤ 0 := w2
      have w0 : w = 0 := by omega
      subst w0
      refine ⟨y5, kill_nil y4 y6 (by decide +kernel), ⟨KP_of y7, y7.1⟩, Or.inr ⟨by dsimp only at z3; omega, ?_, ?_⟩⟩
      · rw [mg_int (k := 4) (s := 5) (d := 1) y4 y6 (by decide) s1 (off_ge (by decide) (by decide)) rfl s5]; exact i32s
      · rw [mg_int (k := 5) (s := 7) (d := 0) y4 y6 (by decide) s1 (off_ge (by decide) (by decide)) rfl w1]; rfl
    · cases o1
theorem mile_R {nf : Bool} {xs : List Int32} {d : Nat} {h h' : zH} {r : Option Value} (hH : aH qW qG [0] [] h) (h3 : rd h 128 3 = some (.ref 130)) (h37 : rd h 128 37 = some (.ref 150)) (h38 : rd h 128 38 = some (.ref 151)) (e : zEv (zXt nf xs) zIT zmcl zMt d 210 [.ref 128, .int 0] h r h') : r = none ∧ aH qW qG [0] [] h' ∧ (KP qcx1.2.2.2.2.1 h h' ∧ h'.length = h.length) ∧ ((gi h 151 0).toInt + 1 ≤ (gi h 130 0).toInt ∧ gi h' 150 0 = gi h 150 0 ∧ gi h' 151 0 = gi h 151 0 + 1 ∨ (gi h 130 0).toInt ≤ (gi h 151 0).toInt ∧ gi h' 150 0 = gi h 150 0 + 1 ∧ gi h' 151 0 = 0) := by
  obtain ⟨D, d1, d2, -, -⟩ := iv_of (a := 150) (k := 0) (l := -2147483648) (u := 2147483647) hH (by decide +kernel) (by decide +kernel)
  obtain ⟨M, m1, m2, m3, m4⟩ := iv_of (a := 151) (k := 0) (l := 0) (u := 60) hH (by decide +kernel) (by decide +kernel)
  obtain ⟨L, l1, l2, l3, l4⟩ := iv_of (a := 130) (k := 0) (l := 1) (u := 60) hH (by decide +kernel) (by decide +kernel)
  have E1 := (((((((aE0.push (t := (2, 49, 49)) (z := 128) (asR (so := 49) (c := 128) (by decide +kernel) (by decide +kernel))).push (t := (0, 0, 0)) (z := 0) ⟨by omega, by omega⟩).push (t := (2, 72, 72)) (z := 151) (asR (so := 72) (c := 151) (by decide +kernel) (by decide +kernel))).push (t := (2, 71, 71)) (z := 150) (asR (so := 71) (c := 150) (by decide +kernel) (by decide +kernel))).push (t := (0, 0, 60)) (z := M.toInt) ⟨m3, m4⟩).push (t := (0, -2147483648, 2147483647)) (z := D.toInt) (ab D)).push (t := (2, 51, 51)) (z := 130) (asR (so := 51) (c := 130) (by decide +kernel) (by decide +kernel))).push (t := (0, 1, 60)) (z := L.toInt) ⟨l3, l4⟩
  have hE : aE qW (aent qcx1) [0, 128, 0, 151, 150, M.toInt, D.toInt, 130, L.toInt] := E1
  have hv : aSt [0, 128, 0, 151, 150, M.toInt, D.toInt, 130, L.toInt] (aarg qcx1) [.ref 128, .int 0] := ⟨_, _, rfl, ⟨128, rfl, rfl⟩, _, _, rfl, ⟨0, ⟨0, rfl, rfl⟩, rfl⟩, rfl⟩
  have a1 := aH_add (q := (7, 0, 0)) (b := .inl (8, 0)) (a := 130) (k := 0) (v := .int L) (aH_nil (ρ' := [0, 128, 0, 151, 150, M.toInt, D.toInt, 130, L.toInt]) hH) (qden (k := 0) (c := 130) (r := 7) hE (by decide) rfl) (by decide +kernel) (by decide +kernel) (by rw [qrdx (qG_off (by decide) (by decide))]; exact l1) ⟨L, ⟨L.toInt, rfl, i32i.symm⟩, rfl⟩
  have a2 := aH_add (q := (1, 0, 3)) (b := .inr (.inr (.inl 7))) (a := 128) (k := 3) (v := .ref 130) a1 (qden (k := 3) (c := 128) (r := 1) hE (by decide) rfl) (by decide +kernel) (by decide +kernel) (by rw [qrdx (qG_real (by decide +kernel) (by decide +kernel))]; exact h3) ⟨130, rfl, rfl⟩
  have a3 := aH_add (q := (4, 0, 0)) (b := .inl (6, 0)) (a := 150) (k := 0) (v := .int D) a2 (qden (k := 0) (c := 150) (r := 4) hE (by decide) rfl) (by decide +kernel) (by decide +kernel) (by rw [qrdx (qG_off (by decide) (by decide))]; exact d1) ⟨D, ⟨D.toInt, rfl, i32i.symm⟩, rfl⟩
  have a4 := aH_add (q := (3, 0, 0)) (b := .inl (5, 0)) (a := 151) (k := 0) (v := .int M) a3 (qden (k := 0) (c := 151) (r := 3) hE (by decide) rfl) (by decide +kernel) (by decide +kernel) (by rw [qrdx (qG_off (by decide) (by decide))]; exact m1) ⟨M, ⟨M.toInt, rfl, i32i.symm⟩, rfl⟩
  have a5 := aH_add (q := (1, 0, 37)) (b := .inr (.inr (.inl 4))) (a := 128) (k := 37) (v := .ref 150) a4 (qden (k := 37) (c := 128) (r := 1) hE (by decide) rfl) (by decide +kernel) (by decide +kernel) (by rw [qrdx (qG_real (by decide +kernel) (by decide +kernel))]; exact h37) ⟨150, rfl, rfl⟩
  have a6 := aH_add (q := (1, 0, 38)) (b := .inr (.inr (.inl 3))) (a := 128) (k := 38) (v := .ref 151) a5 (qden (k := 38) (c := 128) (r := 1) hE (by decide) rfl) (by decide +kernel) (by decide +kernel) (by rw [qrdx (qG_real (by decide +kernel) (by decide +kernel))]; exact h38) ⟨151, rfl, rfl⟩
  obtain ⟨r1, h1, g1, o, o1, ρ1, y2, -, y4, y5, y6, y7⟩ := qX_ok nf xs 210 qcx1 (List.Mem.head _) _ h [.ref 128, .int 0] trivial hE hv a6
  obtain ⟨rfl, rfl⟩ := zEv_same e g1
  rw [d2, m2, l2]
  have s8 : ρ1[8]? = some L.toInt := y2.get rfl
  have s6 : ρ1[6]? = some D.toInt := y2.get rfl
  have s5 : ρ1[5]? = some M.toInt := y2.get rfl
  have s3 : ρ1[3]? = some ((151 : Nat) : Int) := y2.get rfl
  have s4 : ρ1[4]? = some ((150 : Nat) : Int) := y2.get rfl
  unfold qcx1 at o1
  dsimp only at o1
  rcases List.mem_cons.mp o1 with rfl | o1
  · obtain ⟨z, z', z1, z2, z3⟩ := acst_of y4 (t := (12, 5, 0)) (by decide) (by decide)
    have z1 : ρ1[8]? = some z := z1
    have z2 : ρ1[5]? = some z' := z2
    rw [s8] at z1
    rw [s5] at z2
    cases z1
    cases z2
    obtain ⟨w, w1, w2⟩ := y4.has (k := 9) rfl
    have w2 : 0 ≤ w ∧ w ≤ 0 := w2
    have w0 : w = 0 := by omega
    subst w0
    refine ⟨y5, kill_nil y4 y6 (by decide +kernel), ⟨KP_of y7, y7.1⟩, Or.inr ⟨by dsimp only at z3; omega, ?_, ?_⟩⟩
    · rw [mg_int (k := 0) (s := 6) (d := 1) y4 y6 (by decide) s4 (off_ge (by decide) (by decide)) rfl s6]; exact i32s
    · rw [mg_int (k := 0) (s := 9) (d := 0) y4 y6 (by decide) s3 (off_ge (by decide) (by decide)) rfl w1]; rfl
  · rcases List.mem_cons.mp o1 with rfl | o1
    · obtain ⟨z, z', z1, z2, z3⟩ := acst_of y4 (t := (9, 8, 1)) (by decide) (by decide)
      have z1 : ρ1[5]? = some z := z1
      have z2 : ρ1[8]? = some z' := z2
      rw [s5] at z1
      rw [s8] at z2
      cases z1
      cases z2
      refine ⟨y5, kill_nil y4 y6 (by decide +kernel), ⟨KP_of y7, y7.1⟩, Or.inl ⟨z3, ?_, ?_⟩⟩
      · rw [mg_int (k := 0) (s := 6) (d := 0) y4 y6 (by decide) s4 (off_ge (by decide) (by decide)) rfl s6]; exact i32i
      · rw [mg_int (k := 0) (s := 5) (d := 1) y4 y6 (by decide) s3 (off_ge (by decide) (by decide)) rfl s5]; exact i32s
    · cases o1
