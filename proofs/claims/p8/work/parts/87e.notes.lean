/-! Between the passes, with sizes and notes; pairs of calls that touch them. -/
def lZ (h : zH) : Prop := lX h ∧ lNs h
def lInv (h : zH) : Prop := lJ h ∧ lZ h
def xkz (M : List aD) : Bool := xk M && (nkR M && nkC M)
theorem lZ_keep {M : List aD} {h0 h : zH} (hX : lZ h0) (hT : KT h) (hp : KP M h0 h) (hk : xkz M = true) : lZ h := by
  unfold xkz at hk
  rw [Bool.and_eq_true] at hk
  exact ⟨lX_keep hX.1 hT hp hk.1, lNs_keep hX.2 hp hk.2⟩
theorem lZ_junk {h : zH} (k : Nat) (hl : 176 ≤ h.length) (hX : lZ h) (hr : ∀ a j : Nat, a < h.length → rd (h ++ List.replicate k zjunk) a j = rd h a j) : lZ (h ++ List.replicate k zjunk) := by
  refine ⟨lX_junk k hl hX.1 hr, ?_⟩
  obtain ⟨a1, a2, a3⟩ := hX.2
  refine ⟨?_, ?_, ?_⟩
  · rw [gi_rd (hr 55 3 (by omega)), gi_rd (hr 130 1 (by omega))]; exact a1
  · rw [gi_rd (hr 0 11 (by omega)), gi_rd (hr 70 3 (by omega)), gi_rd (hr 55 3 (by omega))]; exact a2
  · rw [gi_rd (hr 120 5 (by omega)), gi_rd (hr 128 67 (by omega))]; exact a3
def lck3 (q1 q2 : aQ) (ts : List aY) (e : Option aV → Option aV → List aY → Bool) : Bool := lck q1 q2 ts e && (xkz q1.2.2.2.2.1 && xkz q2.2.2.2.2.1)
theorem xk_z {M : List aD} (h : xkz M = true) : xk M = true := by
  unfold xkz at h
  rw [Bool.and_eq_true] at h
  exact h.1
theorem ltwo {nf : Bool} {xs : List Int32} {q1 q2 : aQ} {ts : List aY} {e : Option aV → Option aV → List aY → Bool} {ys : List Int32} {h : zH} (c1 : aCon qW qG (zEv (zXt nf xs) zIT zmcl zMt 952) q1 (fun _ => True)) (c2 : aCon qW qG (zEv (zXt nf xs) zIT zmcl zMt 952) q2 (fun _ => True)) (chk : lck3 q1 q2 ts e = true) (hI : lInv h) (hl : ts.length = ys.length) (hb : ∀ j : Nat, ∀ y : aY, ts[j]? = some y → y.1 = 0 ∧ y.2.1 ≤ (ys.getD j 0).toInt ∧ (ys.getD j 0).toInt ≤ y.2.2) : ∃ (r1 : Option Value) (h1 : zH) (r2 : Option Value) (h2 : zH), zEv (zXt nf xs) zIT zmcl zMt 952 q1.1 (.ref 0 :: ys.map Value.int) h r1 h1 ∧ zEv (zXt nf xs) zIT zmcl zMt 952 q2.1 (.ref 128 :: ys.map Value.int) h1 r2 h2 ∧ aSh qW h1 ∧ (lZ h1 ∧ FM0 (gi h) (gi h1)) ∧ lInv h2 ∧ h1.length = h.length ∧ h2.length = h.length ∧ ∃ (E : List aY) (ρ : List Int) (a b : Option aV), aE qW E ρ ∧ arv ρ a r1 ∧ arv ρ b r2 ∧ e a b E = true := by
  unfold lck3 at chk
  rw [Bool.and_eq_true, Bool.and_eq_true] at chk
  obtain ⟨r1, h1, r2, h2, e1, e2, s1, j2, l1, l2, k1, k2, w⟩ := ltwoB c1 c2 chk.1 hI.1 hl hb
  have t1 := zEv_KT _ _ _ _ _ _ e1 hI.2.1.1
  have t2 := zEv_KT _ _ _ _ _ _ e2 t1
  have y1 := lZ_keep hI.2 t1 k1 chk.2.1
  exact ⟨r1, h1, r2, h2, e1, e2, s1, ⟨y1, k1.fm (xkr_of (xk_z chk.2.1))⟩, ⟨j2, lZ_keep y1 t2 k2 chk.2.2⟩, l1, l2, w⟩
/-- an int within its type, as a number -/
theorem nv_of {h : zH} {a k n : Nat} (hH : aH qW qG [0] [] h) (hi : inW a k = true) (ht : apl (afm qW (asrt qW a)) k = (0, 0, (n : Int))) : ∃ v : Nat, v ≤ n ∧ gi h a k = Int32.ofNat v := by
  obtain ⟨x, -, g2, g3, g4⟩ := iv_of hH hi ht
  exact ⟨x.toNatClampNeg, by rw [Int32.toNatClampNeg]; omega, by rw [g2]; exact xn_of g3⟩
theorem rv_of {h : zH} {a k : Nat} {s s' : Int} (hH : aH qW qG [0] [] h) (hi : inW a k = true) (ht : apl (afm qW (asrt qW a)) k = (2, s, s')) : ∃ b : Nat, rd h a k = some (.ref b) := by
  obtain ⟨h1, h2⟩ := inW_ok hi
  obtain ⟨v, g1, g2⟩ := hH.2.1 a k h1 (Nat.lt_of_lt_of_le h2 (apn_le _))
  rw [qrdx (qG_real h1 h2)] at g1
  rcases g2 with g2 | ⟨e, he, -⟩
  · rw [ht] at g2
    obtain ⟨b, rfl, -⟩ := g2
    exact ⟨b, g1⟩
  · cases he
theorem gsR {h : zH} {a t kd n : Nat} (hS : aSh qW h) (hc : (Nat.blt a qW.1.length && decide (((afm qW (asrt qW a)).1, [0, 1, 1, 2, 3].getD (afm qW (asrt qW a)).2.1 9, (afm qW (asrt qW a)).2.2.1) = (t, kd, n))) = true) : gs h a = (t, kd, n) := by
  rw [Bool.and_eq_true] at hc
  rw [gs_of hS (Nat.le_of_ble_eq_true hc.1 : a < qW.1.length)]
  exact of_decide_eq_true hc.2
theorem gq_of {h : zH} {a : Nat} (ha : a = 55 ∨ a = 70) (hS : aSh qW h) (hr : ∀ t ∈ rfs, rd h t.1 t.2.1 = some (.ref t.2.2)) : GQ (gr h, gs h) a := by
  have m : ([55, 70] : List Nat).all (fun a => decide ((a, 0, a + 1) ∈ rfs) && (decide ((a, 1, a + 2) ∈ rfs) && (List.range 6).all (fun k => decide ((a + 1, k, a + 3 + 2 * k) ∈ rfs) && (decide ((a + 3 + 2 * k, 9, a + 3 + 2 * k + 1) ∈ rfs) && (Nat.blt (a + 3 + 2 * k + 1) qW.1.length && decide (((afm qW (asrt qW (a + 3 + 2 * k + 1))).1, [0, 1, 1, 2, 3].getD (afm qW (asrt qW (a + 3 + 2 * k + 1))).2.1 9, (afm qW (asrt qW (a + 3 + 2 * k + 1))).2.2.1) = (0, 1, 6))))))) = true := by decide +kernel
  have q := List.all_eq_true.mp m a (by rcases ha with rfl | rfl <;> decide)
  rw [Bool.and_eq_true, Bool.and_eq_true] at q
  refine ⟨rf_of hr (of_decide_eq_true q.1), rf_of hr (of_decide_eq_true q.2.1), fun k hk => ?_⟩
  have z := List.all_eq_true.mp q.2.2 k (List.mem_range.mpr hk)
  rw [Bool.and_eq_true, Bool.and_eq_true] at z
  exact ⟨rf_of hr (of_decide_eq_true z.1), rf_of hr (of_decide_eq_true z.2.1), 6, gsR hS z.2.2⟩
def nk3 (M : List aD) : Bool := kf M 55 3 && (kf M 0 11 && kf M 70 3)
theorem note_pair {nf : Bool} {xs : List Int32} {d : Nat} {h h1 h2 : zH} {r1 r2 : Option Value} {x y z : Int32} {M1 M2 : List aD} (hI : lInv h) (e1 : zEv (zXt nf xs) zIT zmcl zMt d 145 [.ref 0, .int x, .int y, .int z] h r1 h1) (e2 : zEv (zXt nf xs) zIT zmcl zMt d 249 [.ref 128, .int x, .int y, .int z] h1 r2 h2) (S1 : aSh qW h1) (k1 : KP M1 h h1) (k2 : KP M2 h1 h2) (q1 : xk M1 = true) (q2 : xk M2 = true) (q3 : nkR M1 = true) (q4 : nk3 M1 = true) (q5 : kf M2 130 1 = true) (q6 : nk3 M2 = true) (q7 : kf M2 120 5 = true) : r1 = r2 ∧ lZ h2 := by
  obtain ⟨hJ, hX, hN⟩ := hI
  have t1 := zEv_KT _ _ _ _ _ _ e1 hX.1
  have t2 := zEv_KT _ _ _ _ _ _ e2 t1
  have y1 := lX_keep hX t1 k1 q1
  have y2 := lX_keep y1 t2 k2 q2
  have x2 := hX.2.1.2.1
  have hr1 := y1.2.1.2.1
  obtain ⟨v, hv, v5⟩ := nv_of (a := 120) (k := 5) (n := 24) hJ.1 (by decide +kernel) (by decide +kernel)
  obtain ⟨a1, a2⟩ := k1.nr q3
  have h67 : gi h1 128 67 = Int32.ofNat v := by rw [a2, ← hN.2.2, v5]
  have b3 : gi h2 55 3 = gi h 55 3 ∧ gi h2 0 11 = gi h 0 11 ∧ gi h2 70 3 = gi h 70 3 := by
    unfold nk3 at q4 q6
    simp only [Bool.and_eq_true] at q4 q6
    obtain ⟨z1, z2, z3, z4, z5, z6⟩ := nk_in
    exact ⟨(gi_rd (k2.pl z3 q6.1)).trans (gi_rd (k1.pl z3 q4.1)), (gi_rd (k2.pl z4 q6.2.1)).trans (gi_rd (k1.pl z4 q4.2.1)), (gi_rd (k2.pl z5 q6.2.2)).trans (gi_rd (k1.pl z5 q4.2.2))⟩
  have b5 : gi h2 120 5 = gi h1 120 5 := gi_rd (k2.pl nk_in.2.2.2.2.2 q7)
  have b1 : gi h2 130 1 = gi h1 130 1 := gi_rd (k2.pl nk_in.1 q5)
  obtain ⟨n1, g1, hs1, c1, c3⟩ := ct_noteC (v := v) (rf_of x2 (by decide +kernel)) (rf_of x2 (by decide +kernel)) (rf_of x2 (by decide +kernel)) (rf_of x2 (by decide +kernel)) (rf_of x2 (by decide +kernel)) (rf_of x2 (by decide +kernel)) v5 hv h r1 h1 (HS_of hX.1) e1
  obtain ⟨n2, g2, hs2, c2, c4⟩ := ct_noteR (v := v) (rf_of hr1 (by decide +kernel)) (gsR S1 (by decide +kernel)) (rf_of hr1 (by decide +kernel)) (rf_of hr1 (by decide +kernel)) (rf_of hr1 (by decide +kernel)) (rf_of hr1 (by decide +kernel)) h67 hv h1 r2 h2 (HS_of t1) e2
  have em1 : gi h1 = n1 := hs1.2.1
  have em2 : gi h2 = n2 := hs2.2.1
  refine ⟨by rw [c1, c2, a1, hN.1], y2, by rw [b3.1, b1, a1]; exact hN.1, by rw [b3.2.1, b3.2.2, b3.1]; exact hN.2.1, ?_⟩
  rw [b5, em1, em2, c3, c4, a1, hN.1]
theorem out_pair {nf : Bool} {xs : List Int32} {d : Nat} {h h1 h2 : zH} {r1 r2 : Option Value} {x : Int32} {M1 M2 : List aD} (hI : lInv h) (e1 : zEv (zXt nf xs) zIT zmcl zMt d 146 [.ref 0, .int x] h r1 h1) (e2 : zEv (zXt nf xs) zIT zmcl zMt d 250 [.ref 128, .int x] h1 r2 h2) (S1 : aSh qW h1) (k1 : KP M1 h h1) (k2 : KP M2 h1 h2) (q1 : xk M1 = true) (q2 : xk M2 = true) (q3 : nkR M1 = true) (q4 : nk3 M1 = true) (q5 : kf M2 130 1 = true) (q6 : nk3 M2 = true) (q7 : kf M2 120 5 = true) : r1 = r2 ∧ lZ h2 := by
  obtain ⟨hJ, hX, hN⟩ := hI
  have t1 := zEv_KT _ _ _ _ _ _ e1 hX.1
  have t2 := zEv_KT _ _ _ _ _ _ e2 t1
  have y1 := lX_keep hX t1 k1 q1
  have y2 := lX_keep y1 t2 k2 q2
  have x2 := hX.2.1.2.1
  have hr1 := y1.2.1.2.1
  obtain ⟨v, hv, v5⟩ := nv_of (a := 120) (k := 5) (n := 24) hJ.1 (by decide +kernel) (by decide +kernel)
  obtain ⟨a1, a2⟩ := k1.nr q3
  have h67 : gi h1 128 67 = Int32.ofNat v := by rw [a2, ← hN.2.2, v5]
  have b3 : gi h2 55 3 = gi h 55 3 ∧ gi h2 0 11 = gi h 0 11 ∧ gi h2 70 3 = gi h 70 3 := by
    unfold nk3 at q4 q6
    simp only [Bool.and_eq_true] at q4 q6
    obtain ⟨z1, z2, z3, z4, z5, z6⟩ := nk_in
    exact ⟨(gi_rd (k2.pl z3 q6.1)).trans (gi_rd (k1.pl z3 q4.1)), (gi_rd (k2.pl z4 q6.2.1)).trans (gi_rd (k1.pl z4 q4.2.1)), (gi_rd (k2.pl z5 q6.2.2)).trans (gi_rd (k1.pl z5 q4.2.2))⟩
  have b5 : gi h2 120 5 = gi h1 120 5 := gi_rd (k2.pl nk_in.2.2.2.2.2 q7)
  have b1 : gi h2 130 1 = gi h1 130 1 := gi_rd (k2.pl nk_in.1 q5)
  obtain ⟨n1, g1, hs1, c1, c3⟩ := ct_outC (v := v) (rf_of x2 (by decide +kernel)) (rf_of x2 (by decide +kernel)) v5 hv h r1 h1 (HS_of hX.1) e1
  obtain ⟨n2, g2, hs2, c2, c4⟩ := ct_outR (v := v) (rf_of hr1 (by decide +kernel)) h67 hv h1 r2 h2 (HS_of t1) e2
  have em1 : gi h1 = n1 := hs1.2.1
  have em2 : gi h2 = n2 := hs2.2.1
  refine ⟨by rw [c1, c2], y2, by rw [b3.1, b1, a1]; exact hN.1, by rw [b3.2.1, b3.2.2, b3.1]; exact hN.2.1, ?_⟩
  rw [b5, em1, em2, c3, c4]
theorem known_pair {nf : Bool} {xs : List Int32} {d : Nat} {h h1 h2 : zH} {r1 r2 : Option Value} {x : Int32} {M1 M2 : List aD} (hI : lInv h) (e1 : zEv (zXt nf xs) zIT zmcl zMt d 147 [.ref 0, .int x] h r1 h1) (e2 : zEv (zXt nf xs) zIT zmcl zMt d 251 [.ref 128, .int x] h1 r2 h2) (S1 : aSh qW h1) (k1 : KP M1 h h1) (k2 : KP M2 h1 h2) (q1 : xk M1 = true) (q2 : xk M2 = true) (q3 : nkR M1 = true) (q4 : nk3 M1 = true) (q5 : kf M2 130 1 = true) (q6 : nk3 M2 = true) (q7 : kf M2 120 5 = true) : r1 = r2 ∧ lZ h2 := by
  obtain ⟨hJ, hX, hN⟩ := hI
  have t1 := zEv_KT _ _ _ _ _ _ e1 hX.1
  have t2 := zEv_KT _ _ _ _ _ _ e2 t1
  have y1 := lX_keep hX t1 k1 q1
  have y2 := lX_keep y1 t2 k2 q2
  have x2 := hX.2.1.2.1
  have hr1 := y1.2.1.2.1
  obtain ⟨v, hv, v5⟩ := nv_of (a := 120) (k := 5) (n := 24) hJ.1 (by decide +kernel) (by decide +kernel)
  obtain ⟨a1, a2⟩ := k1.nr q3
  have h67 : gi h1 128 67 = Int32.ofNat v := by rw [a2, ← hN.2.2, v5]
  have b3 : gi h2 55 3 = gi h 55 3 ∧ gi h2 0 11 = gi h 0 11 ∧ gi h2 70 3 = gi h 70 3 := by
    unfold nk3 at q4 q6
    simp only [Bool.and_eq_true] at q4 q6
    obtain ⟨z1, z2, z3, z4, z5, z6⟩ := nk_in
    exact ⟨(gi_rd (k2.pl z3 q6.1)).trans (gi_rd (k1.pl z3 q4.1)), (gi_rd (k2.pl z4 q6.2.1)).trans (gi_rd (k1.pl z4 q4.2.1)), (gi_rd (k2.pl z5 q6.2.2)).trans (gi_rd (k1.pl z5 q4.2.2))⟩
  have b5 : gi h2 120 5 = gi h1 120 5 := gi_rd (k2.pl nk_in.2.2.2.2.2 q7)
  have b1 : gi h2 130 1 = gi h1 130 1 := gi_rd (k2.pl nk_in.1 q5)
  obtain ⟨n1, g1, hs1, c1, c3⟩ := ct_knownC (v := v) (rf_of x2 (by decide +kernel)) v5 hv h r1 h1 (HS_of hX.1) e1
  obtain ⟨n2, g2, hs2, c2, c4⟩ := ct_knownR (v := v) h67 hv h1 r2 h2 (HS_of t1) e2
  have em1 : gi h1 = n1 := hs1.2.1
  have em2 : gi h2 = n2 := hs2.2.1
  refine ⟨by rw [c1, c2], y2, by rw [b3.1, b1, a1]; exact hN.1, by rw [b3.2.1, b3.2.2, b3.1]; exact hN.2.1, ?_⟩
  rw [b5, em1, em2, c3, c4, h67, v5]
theorem keep_pair {nf : Bool} {xs : List Int32} {d : Nat} {h h1 h2 : zH} {r1 r2 : Option Value} {M1 M2 : List aD} (hI : lInv h) (e1 : zEv (zXt nf xs) zIT zmcl zMt d 118 [.ref 0] h r1 h1) (e2 : zEv (zXt nf xs) zIT zmcl zMt d 258 [.ref 128] h1 r2 h2) (S1 : aSh qW h1) (k1 : KP M1 h h1) (k2 : KP M2 h1 h2) (q1 : xk M1 = true) (q2 : xk M2 = true) (q3 : nkR M1 = true) (q4 : kf M1 55 3 = true) (q5 : kf M1 120 5 = true) (q6 : (nkR M2 && nkC M2) = true) : lZ h2 := by
  obtain ⟨hJ, hX, hN⟩ := hI
  have t1 := zEv_KT _ _ _ _ _ _ e1 hX.1
  have t2 := zEv_KT _ _ _ _ _ _ e2 t1
  have y1 := lX_keep hX t1 k1 q1
  have y2 := lX_keep y1 t2 k2 q2
  have x2 := hX.2.1.2.1
  have hr1 := y1.2.1.2.1
  obtain ⟨a1, a2⟩ := k1.nr q3
  obtain ⟨n, hn, n3⟩ := nv_of (a := 55) (k := 3) (n := 6) hJ.1 (by decide +kernel) (by decide +kernel)
  obtain ⟨x, hx⟩ := rv_of (a := 55) (k := 2) (s := 7) (s' := 7) hJ.1 (by decide +kernel) (by decide +kernel)
  obtain ⟨n1, g1, G1, hs1, -, -, m1, c2, c3⟩ := cg_keep (n := n) (x := x) (rf_of x2 (by decide +kernel)) (rf_of x2 (by decide +kernel)) (gq_of (Or.inl rfl) hJ.1.1 x2) (gq_of (Or.inr rfl) hJ.1.1 x2) hn n3 (gr_of hx) h r1 h1 (HS_of hX.1) e1
  have em1 : gi h1 = n1 := hs1.2.1
  have w3 : gi h1 55 3 = gi h 55 3 := gi_rd (k1.pl nk_in.2.2.1 q4)
  refine ⟨y2, lNs_keep ⟨?_, Or.inr ?_, ?_⟩ k2 q6⟩
  · rw [w3, a1]; exact hN.1
  · rw [w3, em1, c3, xu_row (by decide)]; exact c2.2.1 3 (by decide) (by decide)
  · rw [a2, gi_rd (k1.pl nk_in.2.2.2.2.2 q5)]; exact hN.2.2
theorem back_pair {nf : Bool} {xs : List Int32} {d : Nat} {h h1 h2 : zH} {r1 r2 : Option Value} {M1 M2 : List aD} (hI : lInv h) (e1 : zEv (zXt nf xs) zIT zmcl zMt d 119 [.ref 0] h r1 h1) (e2 : zEv (zXt nf xs) zIT zmcl zMt d 259 [.ref 128] h1 r2 h2) (S1 : aSh qW h1) (k1 : KP M1 h h1) (k2 : KP M2 h1 h2) (q1 : xk M1 = true) (q2 : xk M2 = true) (q3 : nkR M1 = true) (q4 : kf M1 0 11 = true) (q5 : kf M1 120 5 = true) (q7 : kf M1 70 3 = true) (q6 : (nkR M2 && nkC M2) = true) : lZ h2 := by
  obtain ⟨hJ, hX, hN⟩ := hI
  have t1 := zEv_KT _ _ _ _ _ _ e1 hX.1
  have t2 := zEv_KT _ _ _ _ _ _ e2 t1
  have y1 := lX_keep hX t1 k1 q1
  have y2 := lX_keep y1 t2 k2 q2
  have x2 := hX.2.1.2.1
  have hr1 := y1.2.1.2.1
  obtain ⟨a1, a2⟩ := k1.nr q3
  obtain ⟨n, hn, n3⟩ := nv_of (a := 70) (k := 3) (n := 6) hJ.1 (by decide +kernel) (by decide +kernel)
  obtain ⟨x, hx⟩ := rv_of (a := 70) (k := 2) (s := 7) (s' := 7) hJ.1 (by decide +kernel) (by decide +kernel)
  obtain ⟨n1, g1, G1, hs1, c1⟩ := cg_back (n := n) (x := x) (rf_of x2 (by decide +kernel)) (rf_of x2 (by decide +kernel)) (rf_of x2 (by decide +kernel)) (gq_of (Or.inl rfl) hJ.1.1 x2) (gq_of (Or.inr rfl) hJ.1.1 x2) hn n3 (gr_of hx) h r1 h1 (HS_of hX.1) e1
  have em1 : gi h1 = n1 := hs1.2.1
  have w11 : gi h1 0 11 = gi h 0 11 := gi_rd (k1.pl nk_in.2.2.2.1 q4)
  have w70 : gi h1 70 3 = gi h 70 3 := gi_rd (k1.pl nk_in.2.2.2.2.1 q7)
  have w3 : gi h1 55 3 = gi h 55 3 := by
    rcases c1 with ⟨-, -, c2, -⟩ | ⟨c0, -, -, m1, c2, c3⟩
    · rw [em1, c2]
    · rw [em1, c3, xu_row (by decide), c2.2.1 3 (by decide) (by decide)]
      rcases hN.2.1 with z | z
      · exact absurd z c0
      · exact z
  refine ⟨y2, lNs_keep ⟨?_, ?_, ?_⟩ k2 q6⟩
  · rw [w3, a1]; exact hN.1
  · rw [w11, w70, w3]; exact hN.2.1
  · rw [a2, gi_rd (k1.pl nk_in.2.2.2.2.2 q5)]; exact hN.2.2
