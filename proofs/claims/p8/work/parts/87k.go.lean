/-! go, note, out of both sides, between the passes. -/
def BCg : List (Nat × Nat) := BC.filter (fun t => !((Nat.beq t.1 55 && (Nat.beq t.2 4 || Nat.beq t.2 5)) || (Nat.beq t.1 116 && Nat.beq t.2 3)))
def BRg : List (Nat × Nat) := BR.filter (fun t => !((Nat.beq t.2 0 && (Nat.beq t.1 150 || Nat.beq t.1 151)) || (Nat.beq t.1 128 && Nat.beq t.2 54)))
theorem BCg_p : ∀ p : Nat, p < 6 → (55 + 3 + 2 * p, 2) ∈ BCg ∧ (55 + 3 + 2 * p, 4) ∈ BCg ∧ (70 + 3 + 2 * p, 2) ∈ BCg ∧ (70 + 3 + 2 * p, 4) ∈ BCg ∧ (55 + 2, p) ∈ BCg ∧ (70 + 2, p) ∈ BCg := xpB_ok (by decide +kernel)
theorem BCg_k : ∀ k : Nat, k < 20 → (117, k) ∈ BCg ∧ (118, k) ∈ BCg ∧ (119, k) ∈ BCg := xkB_ok (by decide +kernel)
theorem BRg_r : ∀ r : Nat, r < 24 → 3 ≤ r → (150, r) ∈ BRg ∧ (151, r) ∈ BRg := xgB_ok (by decide +kernel)
theorem BRg_5 : ∀ r : Nat, r < 24 → (r = 0 ∨ 3 ≤ r) → (155, r) ∈ BRg := x5B_ok (by decide +kernel)
theorem BRg_p : ∀ r : Nat, r < 24 → (r = 0 ∨ 3 ≤ r) → ∀ p : Nat, p < 6 → (156, 6 * r + p) ∈ BRg ∧ (164, 6 * r + p) ∈ BRg := xqB_ok (by decide +kernel)
def kBCg (M : List aD) : Bool := BCg.all (fun t => kf M t.1 t.2)
def kBRg (M : List aD) : Bool := BRg.all (fun t => kf M t.1 t.2)
theorem KP.bcg {M : List aD} {h0 h : zH} (hp : KP M h0 h) (hk : kBCg M = true) : ∀ t ∈ BCg, rd h t.1 t.2 = rd h0 t.1 t.2 := fun t ht => hp.pl (List.all_eq_true.mp BC_in t ((List.mem_filter.mp ht).1)) (List.all_eq_true.mp hk t ht)
theorem KP.brg {M : List aD} {h0 h : zH} (hp : KP M h0 h) (hk : kBRg M = true) : ∀ t ∈ BRg, rd h t.1 t.2 = rd h0 t.1 t.2 := fun t ht => hp.pl (List.all_eq_true.mp BR_in t ((List.mem_filter.mp ht).1)) (List.all_eq_true.mp hk t ht)
theorem CP.go {P R J n n' : Nat} {E : Nat → Int32 × Int32 × Int32} {w0 w3 : rRow} {kp nt L : Int32} {h h0 : zH} (hP : P = 7 ∨ P = 31) (hR : R ≤ 6) (hJ : J ≤ 6) (hn : n ≤ 20) (hn' : n' ≤ n) (hC : CP P R J n E w0 w3 kp nt L (gi h0) (gl h0) (gr h0)) (e : ∀ t ∈ BCg, rd h t.1 t.2 = rd h0 t.1 t.2) (h3 : gi h 116 3 = Int32.ofNat n') : CP P R J n' E (gi h 55 4, gi h 55 5, w0.2.2) w3 kp nt L (gi h) (gl h) (gr h) := by
  obtain ⟨c1, c2, c3, c4, c5, c6, c7, c8, c9, c10, c11⟩ := hC
  have i : ∀ a k : Nat, (a, k) ∈ BCg → gi h a k = gi h0 a k := fun a k m => gi_rd (e (a, k) m)
  have jl : ∀ a k : Nat, (a, k) ∈ BCg → gl h a k = gl h0 a k := fun a k m => gl_rd (e (a, k) m)
  have jr : ∀ a k : Nat, (a, k) ∈ BCg → gr h a k = gr h0 a k := fun a k m => gr_rd (e (a, k) m)
  refine ⟨(jr 0 5 (by decide +kernel)).trans c1, (jr 55 2 (by decide +kernel)).trans c2, ?_, ?_, (i 55 3 (by decide +kernel)).trans c5, h3, (i 120 5 (by decide +kernel)).trans c7, (i 0 11 (by decide +kernel)).trans c8, ⟨rfl, rfl, fun p hp => ⟨(i _ 2 (BCg_p p (by omega)).1).trans (c9.2.2.1 p hp).1, (i _ 4 (BCg_p p (by omega)).2.1).trans (c9.2.2.1 p hp).2⟩, fun j hj => (jl _ j (BCg_p j (by omega)).2.2.2.2.1).trans (c9.2.2.2 j hj)⟩, ?_, fun k hk => ?_⟩
  · rcases hP with rfl | rfl
    · exact (i 7 10 (by decide +kernel)).trans c3
    · exact (i 31 10 (by decide +kernel)).trans c3
  · rcases hP with rfl | rfl
    · exact (i 12 3 (by decide +kernel)).trans c4
    · exact (i 36 3 (by decide +kernel)).trans c4
  · rcases c10 with z | ⟨z1, z2, z3⟩
    · exact Or.inl z
    · exact Or.inr ⟨(i 70 3 (by decide +kernel)).trans z1, (jr 70 2 (by decide +kernel)).trans z2, z3.of (i 70 4 (by decide +kernel)) (i 70 5 (by decide +kernel)) (fun p hp => ⟨i _ 2 (BCg_p p (by omega)).2.2.1, i _ 4 (BCg_p p (by omega)).2.2.2.1⟩) (fun j hj => jl _ j (BCg_p j (by omega)).2.2.2.2.2)⟩
  · obtain ⟨m1, m2, m3⟩ := BCg_k k (by omega)
    rw [i 117 k m1, i 118 k m2, i 119 k m3]
    exact c11 k (by omega)
/-- the row that now is, at another day and mile -/
def gR (rows : Nat → rRow) (a b : Int32) (r : Nat) : rRow := if r = 0 then (a, b, (rows 0).2.2) else rows r
theorem RP.go {R J n n' : Nat} {rows : Nat → rRow} {kp nt L : Int32} {h h0 : zH} (hn : n ≤ 20) (hn' : n' ≤ n) (hr : RP R J n rows kp nt L (gi h0) (gl h0)) (e : ∀ t ∈ BRg, rd h t.1 t.2 = rd h0 t.1 t.2) (h54 : gi h 128 54 = Int32.ofNat n') : RP R J n' (gR rows (gi h 150 0) (gi h 151 0)) kp nt L (gi h) (gl h) := by
  obtain ⟨r1, r2, r3, r4, r5, r6, r7⟩ := hr
  have i : ∀ a k : Nat, (a, k) ∈ BRg → gi h a k = gi h0 a k := fun a k m => gi_rd (e (a, k) m)
  have jl : ∀ a k : Nat, (a, k) ∈ BRg → gl h a k = gl h0 a k := fun a k m => gl_rd (e (a, k) m)
  refine ⟨(i 130 0 (by decide +kernel)).trans r1, (i 130 1 (by decide +kernel)).trans r2, (i 130 2 (by decide +kernel)).trans r3, h54, (i 128 67 (by decide +kernel)).trans r5, (i 128 53 (by decide +kernel)).trans r6, fun r hr => ?_⟩
  unfold gR
  have e5 := i 155 r (BRg_5 r (by omega) (by omega))
  by_cases z : r = 0
  · rw [if_pos z]
    subst z
    have o := r7 0 (Or.inl rfl)
    have o2 : rowOf (gi h) (gl h) 0 = (gi h 150 0, gi h 151 0, (rowOf (gi h0) (gl h0) 0).2.2) := by
      have e4 : (fun p => if p < 6 then gi h 156 (6 * 0 + p) else 0) = (fun p => if p < 6 then gi h0 156 (6 * 0 + p) else 0) := funext fun p => by
        by_cases hp : p < 6
        · rw [if_pos hp, if_pos hp]
          exact i 156 _ (BRg_p 0 (by decide) (Or.inl rfl) p hp).1
        · rw [if_neg hp, if_neg hp]
      have e6 : (fun p => if p < 6 then gl h 164 (6 * 0 + p) else 0) = (fun p => if p < 6 then gl h0 164 (6 * 0 + p) else 0) := funext fun p => by
        by_cases hp : p < 6
        · rw [if_pos hp, if_pos hp]
          exact jl 164 _ (BRg_p 0 (by decide) (Or.inl rfl) p hp).2
        · rw [if_neg hp, if_neg hp]
      unfold rowOf
      rw [e4, e6, e5]
    rw [o2, o]
  · rw [if_neg z]
    exact (rowOf_eq (i 150 r (BRg_r r (by omega) (by omega)).1) (i 151 r (BRg_r r (by omega) (by omega)).2) e5 (fun p hp => i 156 _ (BRg_p r (by omega) (by omega) p hp).1) (fun p hp => jl 164 _ (BRg_p r (by omega) (by omega) p hp).2)).trans (r7 r (by omega))
theorem go_pair {nf : Bool} {xs : List Int32} {d : Nat} {h h1 h2 : zH} {r1 r2 : Option Value} {x : Int32} {M1 M2 : List aD} (hd : d ≤ 966) (hI : lInq h) (e1 : zEv (zXt nf xs) zIT zmcl zMt d 120 [.ref 0, .int x] h r1 h1) (e2 : zEv (zXt nf xs) zIT zmcl zMt d 228 [.ref 128, .int x] h1 r2 h2) (H1 : aH qW qG [0] [] h1) (k1 : KP M1 h h1) (k2 : KP M2 h1 h2) (q1 : xk M1 = true) (q2 : xk M2 = true) (q3 : kBR M1 = true) (q4 : kBC M2 = true) (q5 : kBCg M1 = true) (q6 : kBRg M2 = true) : r1 = r2 ∧ lQ h2 := by
  obtain ⟨hJ, hX, P, R, J, n, E, rows, kp, nt, L, hP, hR, hJ6, hn, hC, hRr, hA⟩ := hI
  have t1 := zEv_KT _ _ _ _ _ _ e1 hX.1
  have t2 := zEv_KT _ _ _ _ _ _ e2 t1
  have y1 := lX_keep hX t1 k1 q1
  have y2 := lX_keep y1 t2 k2 q2
  have x2 := hX.2.1.2.1
  have hr1 := y1.2.1.2.1
  have R1 := hRr.st hn (k1.br q3)
  have hL := hC.2.2.2.2.2.2.2.2.1
  have w0 : gi h1 150 0 = (rows 0).1 := congrArg (fun w => w.1) (R1.2.2.2.2.2.2 0 (Or.inl rfl))
  have w1 : gi h1 151 0 = (rows 0).2.1 := congrArg (fun w => w.2.1) (R1.2.2.2.2.2.2 0 (Or.inl rfl))
  have c1 := go_C hd hJ.1 hP (x2 (0, 7, 55) (by decide +kernel)) (x2 (0, 13, 116) (by decide +kernel)) (rd_of hC.2.1) e1
  have c2 := go_R hd H1 (hr1 (128, 3, 130) (by decide +kernel)) (hr1 (128, 37, 150) (by decide +kernel)) (hr1 (128, 38, 151) (by decide +kernel)) e2
  have l1 : gi h 55 4 = (rows 0).1 := hL.1
  have l2 : gi h 55 5 = (rows 0).2.1 := hL.2.1
  have u1 : gi h 116 3 = Int32.ofNat n := hC.2.2.2.2.2.1
  have u2 : gi h1 128 54 = Int32.ofNat n := R1.2.2.2.1
  have stay : gi h1 55 4 = gi h 55 4 → gi h1 55 5 = gi h 55 5 → gi h1 116 3 = gi h 116 3 → gi h2 150 0 = gi h1 150 0 → gi h2 151 0 = gi h1 151 0 → gi h2 128 54 = gi h1 128 54 → lB h2 := fun a1 a2 a3 b1 b2 b3 => by
    have C := hC.go hP hR hJ6 hn (Nat.le_refl n) (k1.bcg q5) (a3.trans u1)
    have Q := R1.go hn (Nat.le_refl n) (k2.brg q6) (b3.trans u2)
    have e0 : gR rows (gi h2 150 0) (gi h2 151 0) = rows := funext fun r => by
      unfold gR
      by_cases z : r = 0
      · rw [if_pos z, b1, b2, w0, w1, z] <;> rfl
      · rw [if_neg z]
    rw [e0] at Q
    refine lB_mk (h1 := h1) hP hR hJ6 hn ?_ (k2.bc q4) Q hA
    rw [a1, a2, l1, l2] at C
    exact C
  rcases c1 with ⟨z1, z2, z3, z4, z5⟩ | ⟨n1, z1, z2, z3, z4, z5, z6⟩
  · rcases c2 with ⟨v1, v2, v3, v4, v5⟩ | ⟨n2, v1, v2, v3, v4, v5, v6⟩
    · exact ⟨z2.trans v2.symm, y2, stay z3 z4 z5 v3 v4 v5⟩
    · have q : x.toInt = (n2 : Int) := by rw [v2]; exact xn_int (by omega)
      rw [w0] at v3
      rw [l1] at z1
      rcases z1 with z1 | z1 | z1
      · exact absurd z1 (by omega)
      · exact absurd z1 (by omega)
      · exact absurd z1 (by omega)
  · have q : x.toInt = (n1 : Int) := by rw [z2]; exact xn_int (by omega)
    rcases c2 with ⟨v1, v2, v3, v4, v5⟩ | ⟨n2, v1, v2, v3, v4, v5, v6⟩
    · rw [w0] at v1
      rw [l1] at z3
      rcases v1 with v1 | v1 | v1
      · exact absurd v1 (by omega)
      · exact absurd v1 (by omega)
      · exact absurd v1 (by omega)
    · have en : n2 = n1 := xn_inj (by omega) (by omega) (v2.symm.trans z2)
      rw [en] at v5 v6
      have eL : gi h P 10 = gi h1 130 0 := hC.2.2.1.trans R1.1.symm
      have dm : (gi h1 55 4, gi h1 55 5) = (gi h2 150 0, gi h2 151 0) := by rw [z5, v5, eL, l1, l2, w0, w1]
      have d1 : gi h1 55 4 = gi h2 150 0 := congrArg (fun w => w.1) dm
      have d2 : gi h1 55 5 = gi h2 151 0 := congrArg (fun w => w.2) dm
      refine ⟨by rw [z4, v4, d2], y2, ?_⟩
      by_cases z : n1 = 0
      · rw [if_pos z] at z6 v6
        rw [z] at z5 v5
        have a1 : (gi h1 55 4, gi h1 55 5) = (gi h 55 4, gi h 55 5) := z5
        have b1 : (gi h2 150 0, gi h2 151 0) = (gi h1 150 0, gi h1 151 0) := v5
        exact stay (congrArg (fun w => w.1) a1) (congrArg (fun w => w.2) a1) z6 (congrArg (fun w => w.1) b1) (congrArg (fun w => w.2) b1) v6
      · rw [if_neg z] at z6 v6
        have C := hC.go hP hR hJ6 hn (Nat.zero_le n) (k1.bcg q5) z6
        have Q := R1.go hn (Nat.zero_le n) (k2.brg q6) v6
        have e3 : gR rows (gi h2 150 0) (gi h2 151 0) 3 = rows 3 := if_neg (by decide)
        have e0 : gR rows (gi h2 150 0) (gi h2 151 0) 0 = (gi h2 150 0, gi h2 151 0, (rows 0).2.2) := if_pos rfl
        refine lB_mk (h1 := h1) (n := 0) (E := E) (rows := gR rows (gi h2 150 0) (gi h2 151 0)) hP hR hJ6 (by decide) ?_ (k2.bc q4) Q ⟨?_, ?_, fun k hk => absurd hk (Nat.not_lt_zero k)⟩
        · rw [e0, e3, ← d1, ← d2]
          exact C
        · rw [e0]
          exact hA.1
        · rw [e3]
          exact hA.2.1
/-- note and out: how many notes, by the pairs of 87e -/
theorem lI_of {h : zH} (hI : lInq h) : lInv h := ⟨hI.1, hI.2.1, lNs_of hI.2.2⟩
def BCn : List (Nat × Nat) := BC.filter (fun t => !(Nat.beq t.1 120))
def BRn : List (Nat × Nat) := BR.filter (fun t => !(Nat.beq t.1 128 && Nat.beq t.2 67))
def kBCn (M : List aD) : Bool := BCn.all (fun t => kf M t.1 t.2)
def kBRn (M : List aD) : Bool := BRn.all (fun t => kf M t.1 t.2)
/-- the notes' places apart -/
theorem lB_nt {h h2 : zH} (hB : lB h) (hc : ∀ t ∈ BCn, rd h2 t.1 t.2 = rd h t.1 t.2) (hr : ∀ t ∈ BRn, rd h2 t.1 t.2 = rd h t.1 t.2) (hN : gi h2 120 5 = gi h2 128 67) : lB h2 := by
  obtain ⟨P, R, J, n, E, rows, kp, nt, L, hP, hR, hJ, hn, ⟨c1, c2, c3, c4, c5, c6, c7, c8, c9, c10, c11⟩, ⟨r1, r2, r3, r4, r5, r6, r7⟩, hA⟩ := hB
  have i : ∀ a k : Nat, (a, k) ∈ BCn → gi h2 a k = gi h a k := fun a k m => gi_rd (hc (a, k) m)
  have jl : ∀ a k : Nat, (a, k) ∈ BCn → gl h2 a k = gl h a k := fun a k m => gl_rd (hc (a, k) m)
  have jr : ∀ a k : Nat, (a, k) ∈ BCn → gr h2 a k = gr h a k := fun a k m => gr_rd (hc (a, k) m)
  have i2 : ∀ a k : Nat, (a, k) ∈ BRn → gi h2 a k = gi h a k := fun a k m => gi_rd (hr (a, k) m)
  have jl2 : ∀ a k : Nat, (a, k) ∈ BRn → gl h2 a k = gl h a k := fun a k m => gl_rd (hr (a, k) m)
  have bp : ∀ p : Nat, p < 6 → (55 + 3 + 2 * p, 2) ∈ BCn ∧ (55 + 3 + 2 * p, 4) ∈ BCn ∧ (70 + 3 + 2 * p, 2) ∈ BCn ∧ (70 + 3 + 2 * p, 4) ∈ BCn ∧ (55 + 2, p) ∈ BCn ∧ (70 + 2, p) ∈ BCn := xpB_ok (by decide +kernel)
  have bk : ∀ k : Nat, k < 20 → (117, k) ∈ BCn ∧ (118, k) ∈ BCn ∧ (119, k) ∈ BCn := xkB_ok (by decide +kernel)
  have br : ∀ r : Nat, r < 24 → (r = 0 ∨ 3 ≤ r) → (150, r) ∈ BRn ∧ (151, r) ∈ BRn ∧ (155, r) ∈ BRn := xrB_ok (by decide +kernel)
  have bq : ∀ r : Nat, r < 24 → (r = 0 ∨ 3 ≤ r) → ∀ p : Nat, p < 6 → (156, 6 * r + p) ∈ BRn ∧ (164, 6 * r + p) ∈ BRn := xqB_ok (by decide +kernel)
  refine ⟨P, R, J, n, E, rows, kp, gi h2 128 67, L, hP, hR, hJ, hn, ⟨(jr 0 5 (by decide +kernel)).trans c1, (jr 55 2 (by decide +kernel)).trans c2, ?_, ?_, (i 55 3 (by decide +kernel)).trans c5, (i 116 3 (by decide +kernel)).trans c6, hN, (i 0 11 (by decide +kernel)).trans c8, c9.of (i 55 4 (by decide +kernel)) (i 55 5 (by decide +kernel)) (fun p hp => ⟨i _ 2 (bp p (by omega)).1, i _ 4 (bp p (by omega)).2.1⟩) (fun j hj => jl _ j (bp j (by omega)).2.2.2.2.1), ?_, fun k hk => ?_⟩, ⟨(i2 130 0 (by decide +kernel)).trans r1, (i2 130 1 (by decide +kernel)).trans r2, (i2 130 2 (by decide +kernel)).trans r3, (i2 128 54 (by decide +kernel)).trans r4, rfl, (i2 128 53 (by decide +kernel)).trans r6, fun r hr => ?_⟩, hA⟩
  · rcases hP with rfl | rfl
    · exact (i 7 10 (by decide +kernel)).trans c3
    · exact (i 31 10 (by decide +kernel)).trans c3
  · rcases hP with rfl | rfl
    · exact (i 12 3 (by decide +kernel)).trans c4
    · exact (i 36 3 (by decide +kernel)).trans c4
  · rcases c10 with z | ⟨z1, z2, z3⟩
    · exact Or.inl z
    · exact Or.inr ⟨(i 70 3 (by decide +kernel)).trans z1, (jr 70 2 (by decide +kernel)).trans z2, z3.of (i 70 4 (by decide +kernel)) (i 70 5 (by decide +kernel)) (fun p hp => ⟨i _ 2 (bp p (by omega)).2.2.1, i _ 4 (bp p (by omega)).2.2.2.1⟩) (fun j hj => jl _ j (bp j (by omega)).2.2.2.2.2)⟩
  · obtain ⟨m1, m2, m3⟩ := bk k (by omega)
    rw [i 117 k m1, i 118 k m2, i 119 k m3]
    exact c11 k hk
  · obtain ⟨z1, z2, z3⟩ := br r (by omega) (by omega)
    exact (rowOf_eq (i2 150 r z1) (i2 151 r z2) (i2 155 r z3) (fun p hp => i2 156 _ (bq r (by omega) (by omega) p hp).1) (fun p hp => jl2 164 _ (bq r (by omega) (by omega) p hp).2)).trans (r7 r hr)
theorem nt_fin {h h1 h2 : zH} {M1 M2 : List aD} (hI : lInq h) (k1 : KP M1 h h1) (k2 : KP M2 h1 h2) (p1 : (kBCn M1 && kBRn M1) = true) (p2 : (kBCn M2 && kBRn M2) = true) (hZ : lZ h2) : lQ h2 := by
  rw [Bool.and_eq_true] at p1 p2
  have c : ∀ t ∈ BCn, inW t.1 t.2 = true := fun t ht => List.all_eq_true.mp BC_in t ((List.mem_filter.mp ht).1)
  have r : ∀ t ∈ BRn, inW t.1 t.2 = true := fun t ht => List.all_eq_true.mp BR_in t ((List.mem_filter.mp ht).1)
  exact ⟨hZ.1, lB_nt hI.2.2 (fun t ht => (k2.pl (c t ht) (List.all_eq_true.mp p2.1 t ht)).trans (k1.pl (c t ht) (List.all_eq_true.mp p1.1 t ht))) (fun t ht => (k2.pl (r t ht) (List.all_eq_true.mp p2.2 t ht)).trans (k1.pl (r t ht) (List.all_eq_true.mp p1.2 t ht))) hZ.2.2.2⟩
