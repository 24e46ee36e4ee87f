/-! The relation of both sides between the passes: what a call doesn't write keeps it. -/
theorem gl_rd {h h0 : zH} {a k : Nat} (e : rd h a k = rd h0 a k) : gl h a k = gl h0 a k := by
  show xl (rd h a k) = xl (rd h0 a k)
  rw [e]
theorem gr_rd {h h0 : zH} {a k : Nat} (e : rd h a k = rd h0 a k) : gr h a k = gr h0 a k := by
  show xr (rd h a k) = xr (rd h0 a k)
  rw [e]
/-- the class's places -/
def BC : List (Nat × Nat) := [(0, 5), (0, 11), (55, 2), (55, 3), (55, 4), (55, 5), (7, 10), (31, 10), (12, 3), (36, 3), (116, 3), (120, 5), (70, 2), (70, 3), (70, 4), (70, 5)] ++ ((List.range 6).flatMap (fun p => [(58 + 2 * p, 2), (58 + 2 * p, 4), (73 + 2 * p, 2), (73 + 2 * p, 4), (57, p), (72, p)]) ++ (List.range 20).flatMap (fun k => [(117, k), (118, k), (119, k)]))
def rws : List Nat := 0 :: 3 :: (List.range 20).map (fun k => 4 + k)
/-- the reference's places -/
def BR : List (Nat × Nat) := [(128, 53), (128, 54), (128, 67), (130, 0), (130, 1), (130, 2)] ++ rws.flatMap (fun r => [(150, r), (151, r), (155, r)] ++ (List.range 6).flatMap (fun p => [(156, 6 * r + p), (164, 6 * r + p)]))
theorem BC_in : BC.all (fun t => inW t.1 t.2) = true := by decide +kernel
theorem BR_in : BR.all (fun t => inW t.1 t.2) = true := by decide +kernel
/-- places that a list of places holds -/
def inB (L : List (Nat × Nat)) (a k : Nat) : Bool := L.any (fun e => Nat.beq e.1 a && Nat.beq e.2 k)
theorem inB_ok {L : List (Nat × Nat)} {a k : Nat} (h : inB L a k = true) : (a, k) ∈ L := by
  obtain ⟨⟨e1, e2⟩, he, q⟩ := List.any_eq_true.mp h
  rw [Bool.and_eq_true] at q
  have q1 : e1 = a := Nat.eq_of_beq_eq_true q.1
  have q2 : e2 = k := Nat.eq_of_beq_eq_true q.2
  rw [← q1, ← q2]
  exact he
def xpB (L : List (Nat × Nat)) : Bool := (List.range 6).all (fun p => inB L (55 + 3 + 2 * p) 2 && (inB L (55 + 3 + 2 * p) 4 && (inB L (70 + 3 + 2 * p) 2 && (inB L (70 + 3 + 2 * p) 4 && (inB L (55 + 2) p && inB L (70 + 2) p)))))
theorem xpB_ok {L : List (Nat × Nat)} (h : xpB L = true) : ∀ p : Nat, p < 6 → (55 + 3 + 2 * p, 2) ∈ L ∧ (55 + 3 + 2 * p, 4) ∈ L ∧ (70 + 3 + 2 * p, 2) ∈ L ∧ (70 + 3 + 2 * p, 4) ∈ L ∧ (55 + 2, p) ∈ L ∧ (70 + 2, p) ∈ L := fun p hp => by
  have q := List.all_eq_true.mp h p (List.mem_range.mpr hp)
  simp only [Bool.and_eq_true] at q
  exact ⟨inB_ok q.1, inB_ok q.2.1, inB_ok q.2.2.1, inB_ok q.2.2.2.1, inB_ok q.2.2.2.2.1, inB_ok q.2.2.2.2.2⟩
def xkB (L : List (Nat × Nat)) : Bool := (List.range 20).all (fun k => inB L 117 k && (inB L 118 k && inB L 119 k))
theorem xkB_ok {L : List (Nat × Nat)} (h : xkB L = true) : ∀ k : Nat, k < 20 → (117, k) ∈ L ∧ (118, k) ∈ L ∧ (119, k) ∈ L := fun k hk => by
  have q := List.all_eq_true.mp h k (List.mem_range.mpr hk)
  simp only [Bool.and_eq_true] at q
  exact ⟨inB_ok q.1, inB_ok q.2.1, inB_ok q.2.2⟩
def xrB (L : List (Nat × Nat)) : Bool := (List.range 24).all (fun r => (Nat.beq r 1 || Nat.beq r 2) || (inB L 150 r && (inB L 151 r && inB L 155 r)))
theorem xrB_ok {L : List (Nat × Nat)} (h : xrB L = true) : ∀ r : Nat, r < 24 → (r = 0 ∨ 3 ≤ r) → (150, r) ∈ L ∧ (151, r) ∈ L ∧ (155, r) ∈ L := fun r hr h0 => by
  have q := List.all_eq_true.mp h r (List.mem_range.mpr hr)
  simp only [Bool.and_eq_true, Bool.or_eq_true] at q
  rcases q with (z | z) | q
  · have := Nat.eq_of_beq_eq_true z; omega
  · have := Nat.eq_of_beq_eq_true z; omega
  · exact ⟨inB_ok q.1, inB_ok q.2.1, inB_ok q.2.2⟩
def x5B (L : List (Nat × Nat)) : Bool := (List.range 24).all (fun r => (Nat.beq r 1 || Nat.beq r 2) || inB L 155 r)
theorem x5B_ok {L : List (Nat × Nat)} (h : x5B L = true) : ∀ r : Nat, r < 24 → (r = 0 ∨ 3 ≤ r) → (155, r) ∈ L := fun r hr h0 => by
  have q := List.all_eq_true.mp h r (List.mem_range.mpr hr)
  simp only [Bool.or_eq_true] at q
  rcases q with (z | z) | q
  · have := Nat.eq_of_beq_eq_true z; omega
  · have := Nat.eq_of_beq_eq_true z; omega
  · exact inB_ok q
def xgB (L : List (Nat × Nat)) : Bool := (List.range 21).all (fun k => inB L 150 (3 + k) && inB L 151 (3 + k))
theorem xgB_ok {L : List (Nat × Nat)} (h : xgB L = true) : ∀ r : Nat, r < 24 → 3 ≤ r → (150, r) ∈ L ∧ (151, r) ∈ L := fun r hr h0 => by
  have q := List.all_eq_true.mp h (r - 3) (List.mem_range.mpr (by omega))
  simp only [Bool.and_eq_true] at q
  rw [show 3 + (r - 3) = r by omega] at q
  exact ⟨inB_ok q.1, inB_ok q.2⟩
def xqB (L : List (Nat × Nat)) : Bool := (List.range 24).all (fun r => (Nat.beq r 1 || Nat.beq r 2) || (List.range 6).all (fun p => inB L 156 (6 * r + p) && inB L 164 (6 * r + p)))
theorem xqB_ok {L : List (Nat × Nat)} (h : xqB L = true) : ∀ r : Nat, r < 24 → (r = 0 ∨ 3 ≤ r) → ∀ p : Nat, p < 6 → (156, 6 * r + p) ∈ L ∧ (164, 6 * r + p) ∈ L := fun r hr h0 p hp => by
  have q := List.all_eq_true.mp h r (List.mem_range.mpr hr)
  rw [Bool.or_eq_true, Bool.or_eq_true] at q
  rcases q with (z | z) | q
  · have := Nat.eq_of_beq_eq_true z; omega
  · have := Nat.eq_of_beq_eq_true z; omega
  · have q := List.all_eq_true.mp q p (List.mem_range.mpr hp)
    simp only [Bool.and_eq_true] at q
    exact ⟨inB_ok q.1, inB_ok q.2⟩
theorem BC_p : ∀ p : Nat, p < 6 → (55 + 3 + 2 * p, 2) ∈ BC ∧ (55 + 3 + 2 * p, 4) ∈ BC ∧ (70 + 3 + 2 * p, 2) ∈ BC ∧ (70 + 3 + 2 * p, 4) ∈ BC ∧ (55 + 2, p) ∈ BC ∧ (70 + 2, p) ∈ BC := xpB_ok (by decide +kernel)
theorem BC_k : ∀ k : Nat, k < 20 → (117, k) ∈ BC ∧ (118, k) ∈ BC ∧ (119, k) ∈ BC := xkB_ok (by decide +kernel)
theorem BR_r : ∀ r : Nat, r < 24 → (r = 0 ∨ 3 ≤ r) → (150, r) ∈ BR ∧ (151, r) ∈ BR ∧ (155, r) ∈ BR := xrB_ok (by decide +kernel)
theorem BR_p : ∀ r : Nat, r < 24 → (r = 0 ∨ 3 ≤ r) → ∀ p : Nat, p < 6 → (156, 6 * r + p) ∈ BR ∧ (164, 6 * r + p) ∈ BR := xqB_ok (by decide +kernel)
theorem CP.st {P R J n : Nat} {E : Nat → Int32 × Int32 × Int32} {w0 w3 : rRow} {kp nt L : Int32} {h h0 : zH} (hP : P = 7 ∨ P = 31) (hR : R ≤ 6) (hJ : J ≤ 6) (hn : n ≤ 20) (hC : CP P R J n E w0 w3 kp nt L (gi h0) (gl h0) (gr h0)) (e : ∀ t ∈ BC, rd h t.1 t.2 = rd h0 t.1 t.2) : CP P R J n E w0 w3 kp nt L (gi h) (gl h) (gr h) := by
  obtain ⟨c1, c2, c3, c4, c5, c6, c7, c8, c9, c10, c11⟩ := hC
  have i : ∀ a k : Nat, (a, k) ∈ BC → gi h a k = gi h0 a k := fun a k m => gi_rd (e (a, k) m)
  have jl : ∀ a k : Nat, (a, k) ∈ BC → gl h a k = gl h0 a k := fun a k m => gl_rd (e (a, k) m)
  have jr : ∀ a k : Nat, (a, k) ∈ BC → gr h a k = gr h0 a k := fun a k m => gr_rd (e (a, k) m)
  refine ⟨(jr 0 5 (by decide +kernel)).trans c1, (jr 55 2 (by decide +kernel)).trans c2, ?_, ?_, (i 55 3 (by decide +kernel)).trans c5, (i 116 3 (by decide +kernel)).trans c6, (i 120 5 (by decide +kernel)).trans c7, (i 0 11 (by decide +kernel)).trans c8, c9.of (i 55 4 (by decide +kernel)) (i 55 5 (by decide +kernel)) (fun p hp => ⟨i _ 2 (BC_p p (by omega)).1, i _ 4 (BC_p p (by omega)).2.1⟩) (fun j hj => jl _ j (BC_p j (by omega)).2.2.2.2.1), ?_, fun k hk => ?_⟩
  · rcases hP with rfl | rfl
    · exact (i 7 10 (by decide +kernel)).trans c3
    · exact (i 31 10 (by decide +kernel)).trans c3
  · rcases hP with rfl | rfl
    · exact (i 12 3 (by decide +kernel)).trans c4
    · exact (i 36 3 (by decide +kernel)).trans c4
  · rcases c10 with z | ⟨z1, z2, z3⟩
    · exact Or.inl z
    · exact Or.inr ⟨(i 70 3 (by decide +kernel)).trans z1, (jr 70 2 (by decide +kernel)).trans z2, z3.of (i 70 4 (by decide +kernel)) (i 70 5 (by decide +kernel)) (fun p hp => ⟨i _ 2 (BC_p p (by omega)).2.2.1, i _ 4 (BC_p p (by omega)).2.2.2.1⟩) (fun j hj => jl _ j (BC_p j (by omega)).2.2.2.2.2)⟩
  · obtain ⟨m1, m2, m3⟩ := BC_k k (by omega)
    rw [i 117 k m1, i 118 k m2, i 119 k m3]
    exact c11 k hk
theorem RP.st {R J n : Nat} {rows : Nat → rRow} {kp nt L : Int32} {h h0 : zH} (hn : n ≤ 20) (hr : RP R J n rows kp nt L (gi h0) (gl h0)) (e : ∀ t ∈ BR, rd h t.1 t.2 = rd h0 t.1 t.2) : RP R J n rows kp nt L (gi h) (gl h) := by
  obtain ⟨r1, r2, r3, r4, r5, r6, r7⟩ := hr
  have i : ∀ a k : Nat, (a, k) ∈ BR → gi h a k = gi h0 a k := fun a k m => gi_rd (e (a, k) m)
  have jl : ∀ a k : Nat, (a, k) ∈ BR → gl h a k = gl h0 a k := fun a k m => gl_rd (e (a, k) m)
  refine ⟨(i 130 0 (by decide +kernel)).trans r1, (i 130 1 (by decide +kernel)).trans r2, (i 130 2 (by decide +kernel)).trans r3, (i 128 54 (by decide +kernel)).trans r4, (i 128 67 (by decide +kernel)).trans r5, (i 128 53 (by decide +kernel)).trans r6, fun r hr => ?_⟩
  obtain ⟨z1, z2, z3⟩ := BR_r r (by omega) (by omega)
  exact (rowOf_eq (i 150 r z1) (i 151 r z2) (i 155 r z3) (fun p hp => i 156 _ (BR_p r (by omega) (by omega) p hp).1) (fun p hp => jl 164 _ (BR_p r (by omega) (by omega) p hp).2)).trans (r7 r hr)
def kBC (M : List aD) : Bool := BC.all (fun t => kf M t.1 t.2)
def kBR (M : List aD) : Bool := BR.all (fun t => kf M t.1 t.2)
theorem KP.bc {M : List aD} {h0 h : zH} (hp : KP M h0 h) (hk : kBC M = true) : ∀ t ∈ BC, rd h t.1 t.2 = rd h0 t.1 t.2 := fun t ht => hp.pl (List.all_eq_true.mp BC_in t ht) (List.all_eq_true.mp hk t ht)
theorem KP.br {M : List aD} {h0 h : zH} (hp : KP M h0 h) (hk : kBR M = true) : ∀ t ∈ BR, rd h t.1 t.2 = rd h0 t.1 t.2 := fun t ht => hp.pl (List.all_eq_true.mp BR_in t ht) (List.all_eq_true.mp hk t ht)
theorem lB_keep {M : List aD} {h0 h : zH} (hB : lB h0) (hp : KP M h0 h) (hk : (kBC M && kBR M) = true) : lB h := by
  rw [Bool.and_eq_true] at hk
  obtain ⟨P, R, J, n, E, rows, kp, nt, L, hP, hR, hJ, hn, hC, hr, hA⟩ := hB
  exact ⟨P, R, J, n, E, rows, kp, nt, L, hP, hR, hJ, hn, hC.st hP hR hJ hn (hp.bc hk.1), hr.st hn (hp.br hk.2), hA⟩
theorem lB_junk {h : zH} (k : Nat) (hl : 176 ≤ h.length) (hB : lB h) (hr : ∀ a j : Nat, a < h.length → rd (h ++ List.replicate k zjunk) a j = rd h a j) : lB (h ++ List.replicate k zjunk) := by
  have hW : qW.1.length = 176 := by decide +kernel
  obtain ⟨P, R, J, n, E, rows, kp, nt, L, hP, hR, hJ, hn, hC, hRr, hA⟩ := hB
  refine ⟨P, R, J, n, E, rows, kp, nt, L, hP, hR, hJ, hn, hC.st hP hR hJ hn (fun t ht => ?_), hRr.st hn (fun t ht => ?_), hA⟩
  · have := (inW_ok (List.all_eq_true.mp BC_in t ht)).1
    exact hr _ _ (by omega)
  · have := (inW_ok (List.all_eq_true.mp BR_in t ht)).1
    exact hr _ _ (by omega)
theorem lNs_of {h : zH} (hB : lB h) : lNs h := by
  obtain ⟨P, R, J, n, E, rows, kp, nt, L, hP, hR, hJ, hn, ⟨c1, c2, c3, c4, c5, c6, c7, c8, c9, c10, c11⟩, ⟨r1, r2, r3, r4, r5, r6, r7⟩, hA⟩ := hB
  refine ⟨c5.trans r2.symm, ?_, c7.trans r5.symm⟩
  rcases c10 with z | ⟨z, -, -⟩
  · exact Or.inl (c8.trans z)
  · exact Or.inr (z.trans c5.symm)
def lQ (h : zH) : Prop := lX h ∧ lB h
def lInq (h : zH) : Prop := lJ h ∧ lQ h
def xkq (M : List aD) : Bool := xk M && (kBC M && kBR M)
theorem lQ_keep {M : List aD} {h0 h : zH} (hX : lQ h0) (hT : KT h) (hp : KP M h0 h) (hk : xkq M = true) : lQ h := by
  unfold xkq at hk
  rw [Bool.and_eq_true] at hk
  exact ⟨lX_keep hX.1 hT hp hk.1, lB_keep hX.2 hp hk.2⟩
theorem lQ_junk {h : zH} (k : Nat) (hl : 176 ≤ h.length) (hX : lQ h) (hr : ∀ a j : Nat, a < h.length → rd (h ++ List.replicate k zjunk) a j = rd h a j) : lQ (h ++ List.replicate k zjunk) := ⟨lX_junk k hl hX.1 hr, lB_junk k hl hX.2 hr⟩
def lckq (q1 q2 : aQ) (ts : List aY) (e : Option aV → Option aV → List aY → Bool) : Bool := lck q1 q2 ts e && (xkq q1.2.2.2.2.1 && xkq q2.2.2.2.2.1)
theorem xkq_x {M : List aD} (h : xkq M = true) : xk M = true := by
  unfold xkq at h
  rw [Bool.and_eq_true] at h
  exact h.1
theorem ltwoq {nf : Bool} {xs : List Int32} {q1 q2 : aQ} {ts : List aY} {e : Option aV → Option aV → List aY → Bool} {ys : List Int32} {h : zH} (c1 : aCon qW qG (zEv (zXt nf xs) zIT zmcl zMt 952) q1 (fun _ => True)) (c2 : aCon qW qG (zEv (zXt nf xs) zIT zmcl zMt 952) q2 (fun _ => True)) (chk : lckq q1 q2 ts e = true) (hI : lInq h) (hl : ts.length = ys.length) (hb : ∀ j : Nat, ∀ y : aY, ts[j]? = some y → y.1 = 0 ∧ y.2.1 ≤ (ys.getD j 0).toInt ∧ (ys.getD j 0).toInt ≤ y.2.2) : ∃ (r1 : Option Value) (h1 : zH) (r2 : Option Value) (h2 : zH), zEv (zXt nf xs) zIT zmcl zMt 952 q1.1 (.ref 0 :: ys.map Value.int) h r1 h1 ∧ zEv (zXt nf xs) zIT zmcl zMt 952 q2.1 (.ref 128 :: ys.map Value.int) h1 r2 h2 ∧ aSh qW h1 ∧ (lQ h1 ∧ FM0 (gi h) (gi h1)) ∧ lInq h2 ∧ h1.length = h.length ∧ h2.length = h.length ∧ ∃ (E : List aY) (ρ : List Int) (a b : Option aV), aE qW E ρ ∧ arv ρ a r1 ∧ arv ρ b r2 ∧ e a b E = true := by
  unfold lckq at chk
  rw [Bool.and_eq_true, Bool.and_eq_true] at chk
  obtain ⟨r1, h1, r2, h2, e1, e2, s1, j2, l1, l2, k1, k2, w⟩ := ltwoB c1 c2 chk.1 hI.1 hl hb
  have t1 := zEv_KT _ _ _ _ _ _ e1 hI.2.1.1
  have t2 := zEv_KT _ _ _ _ _ _ e2 t1
  have y1 := lQ_keep hI.2 t1 k1 chk.2.1
  exact ⟨r1, h1, r2, h2, e1, e2, s1, ⟨y1, k1.fm (xkr_of (xkq_x chk.2.1))⟩, ⟨j2, lQ_keep y1 t2 k2 chk.2.2⟩, l1, l2, w⟩
theorem lB_mk {h1 h2 : zH} {P R J n : Nat} {E : Nat → Int32 × Int32 × Int32} {rows : Nat → rRow} {kp nt L : Int32} (hP : P = 7 ∨ P = 31) (hR : R ≤ 6) (hJ : J ≤ 6) (hn : n ≤ 20) (hC : CP P R J n E (rows 0) (rows 3) kp nt L (gi h1) (gl h1) (gr h1)) (e : ∀ t ∈ BC, rd h2 t.1 t.2 = rd h1 t.1 t.2) (hr : RP R J n rows kp nt L (gi h2) (gl h2)) (hA : AB R J n E rows kp) : lB h2 := ⟨P, R, J, n, E, rows, kp, nt, L, hP, hR, hJ, hn, hC.st hP hR hJ hn e, hr, hA⟩
