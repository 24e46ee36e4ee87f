/-! tried of the reference: nothing is tried behind it. -/
theorem tried_R {nf : Bool} {xs : List Int32} {d : Nat} {h h' : zH} {r : Option Value} {x y z : Int32} (hH : aH qW qG [0] [] h) (h55 : gi h 128 55 = 0) (e : zEv (zXt nf xs) zIT zmcl zMt d 256 [.ref 128, .int x, .int y, .int z] h r h') : gi h' 128 55 = 0 := by
  obtain ⟨V, v1, v2, -, -⟩ := iv_of (a := 128) (k := 55) (l := 0) (u := 5) hH (by decide +kernel) (by decide +kernel)
  have V0 : V = 0 := by rw [← v2]; exact h55
  rw [V0] at v1
  have E1 := ((((aE0.push (t := (2, 49, 49)) (z := 128) (asR (so := 49) (c := 128) (by decide +kernel) (by decide +kernel))).push (t := (0, -2147483648, 2147483647)) (z := x.toInt) (ab x)).push (t := (0, -2147483648, 2147483647)) (z := y.toInt) (ab y)).push (t := (0, -2147483648, 2147483647)) (z := z.toInt) (ab z)).push (t := (0, 0, 0)) (z := 0) ⟨by omega, by omega⟩
  have hE : aE qW (aent qcx3) [0, 128, x.toInt, y.toInt, z.toInt, 0] := E1
  have hv : aSt [0, 128, x.toInt, y.toInt, z.toInt, 0] (aarg qcx3) [.ref 128, .int x, .int y, .int z] := ⟨_, _, rfl, ⟨128, rfl, rfl⟩, _, _, rfl, ⟨x, ⟨x.toInt, rfl, i32i.symm⟩, rfl⟩, _, _, rfl, ⟨y, ⟨y.toInt, rfl, i32i.symm⟩, rfl⟩, _, _, rfl, ⟨z, ⟨z.toInt, rfl, i32i.symm⟩, rfl⟩, rfl⟩
  have a1 := aH_add (q := (1, 0, 55)) (b := .inl (5, 0)) (a := 128) (k := 55) (v := .int 0) (aH_nil (ρ' := [0, 128, x.toInt, y.toInt, z.toInt, 0]) hH) (qden (k := 55) (c := 128) (r := 1) hE (by decide) rfl) (by decide +kernel) (by decide +kernel) (by rw [qrdx (qG_real (by decide +kernel) (by decide +kernel))]; exact v1) ⟨0, ⟨0, rfl, rfl⟩, rfl⟩
  obtain ⟨r1, h1, g1, o, o1, ρ1, y2, -, y4, y5, y6, y7⟩ := qT_ok nf xs 256 qcx3 (List.Mem.head _) _ h [.ref 128, .int x, .int y, .int z] trivial hE hv a1
  obtain ⟨rfl, rfl⟩ := zEv_same e g1
  have s1 : ρ1[1]? = some ((128 : Nat) : Int) := y2.get rfl
  have s5 : ρ1[5]? = some (0 : Int) := y2.get rfl
  unfold qcx3 at o1
  dsimp only at o1
  rcases List.mem_cons.mp o1 with rfl | o1
  · rw [mg_int (k := 55) (s := 5) (d := 0) y4 y6 (by decide) s1 (fun _ => qG_real (by decide +kernel) (by decide +kernel)) rfl s5]
    rfl
  · rcases List.mem_cons.mp o1 with rfl | o1
    · obtain ⟨w, w1, w2⟩ := y4.has (k := 7) rfl
      have w2 : 0 ≤ w ∧ w ≤ 0 := w2
      have w0 : w = 0 := by omega
      subst w0
      rw [mg_int (k := 55) (s := 7) (d := 0) y4 y6 (by decide) s1 (fun _ => qG_real (by decide +kernel) (by decide +kernel)) rfl w1]
      rfl
    · cases o1
