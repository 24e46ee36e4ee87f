/-! What holds between the passes, besides: references, words, tapes alike. -/
/-- references that never change -/
def rfs : List (Nat × Nat × Nat) := [(0, 0, 1), (0, 4, 2), (0, 7, 55), (0, 8, 70), (0, 13, 116), (0, 14, 120), (2, 0, 3), (2, 1, 6), (3, 0, 4), (55, 0, 56), (55, 1, 57), (70, 0, 71), (70, 1, 72), (116, 0, 117), (116, 1, 118), (116, 2, 119), (120, 0, 121), (120, 1, 122), (120, 2, 123), (120, 3, 124), (128, 1, 129), (128, 69, 170), (128, 70, 171), (128, 71, 172), (128, 72, 173)] ++ [7, 31].flatMap (fun P => (List.range 8).map (fun w => (P, w, P + 1 + 2 * w)) ++ ((List.range 8).map (fun w => (P + 1 + 2 * w, 2, P + 2 + 2 * w)) ++ [(P, 8, P + 17), (P + 17, 0, P + 18), (P + 17, 1, P + 19), (P + 17, 2, P + 20), (P + 17, 3, P + 21), (P + 17, 5, P + 22), (P + 17, 6, P + 23)])) ++ ((List.range 6).map (fun k => (56, k, 58 + 2 * k)) ++ ((List.range 6).map (fun k => (58 + 2 * k, 9, 58 + 2 * k + 1)) ++ ((List.range 6).map (fun k => (71, k, 73 + 2 * k)) ++ ((List.range 6).map (fun k => (73 + 2 * k, 9, 73 + 2 * k + 1)) ++ ((List.range 18).map (fun k => (128, 3 + k, 130 + k)) ++ (List.range 15).map (fun k => (128, 37 + k, 150 + k)))))))
def lXb (h : zH) : Prop := KT h ∧ (∀ t ∈ rfs, rd h t.1 t.2.1 = some (.ref t.2.2)) ∧ (∃ P S : Nat, (P = 7 ∧ S = 31 ∨ P = 31 ∧ S = 7) ∧ rd h 0 5 = some (.ref P) ∧ rd h 0 6 = some (.ref S)) ∧ (∀ i : Nat, i < 22 → rd h 4 i = some (.int (wcs.getD i 0))) ∧ (∀ i : Nat, i < 700 → gi h 1 i = gi h 129 i) ∧ gi h 0 2 = gi h 128 30 ∧ gi h 0 3 = gi h 128 31
/-- the class's plan and the reference's first halves hold the same tables -/
def lT (h : zH) : Prop := (rd h 3 1 = some (.ref 1) ∨ rd h 3 1 = some (.ref 5)) ∧ ∃ (P : Nat) (T : Nat → List (List Int32)), (P = 7 ∨ P = 31) ∧ rd h 0 5 = some (.ref P) ∧ (∀ w : Nat, w < 8 → tbC (P + 1 + 2 * w) (P + 2 + 2 * w) (cN w) (mN w) (T w) (gi h)) ∧ TB T (gi h)
def lX (h : zH) : Prop := KT h ∧ lXb h ∧ lT h
def lInvX (h : zH) : Prop := lJ h ∧ lX h
/-- places that are there -/
def inW (a k : Nat) : Bool := Nat.blt a qW.1.length && Nat.blt k (afm qW (asrt qW a)).2.2.1
theorem inW_ok {a k : Nat} (h : inW a k = true) : a < qW.1.length ∧ k < (afm qW (asrt qW a)).2.2.1 := by
  unfold inW at h
  rw [Bool.and_eq_true] at h
  exact ⟨Nat.le_of_ble_eq_true h.1, Nat.le_of_ble_eq_true h.2⟩
theorem rfs_in : rfs.all (fun t => inW t.1 t.2.1) = true := by decide +kernel
theorem row_in : inW 0 5 = true ∧ inW 0 6 = true ∧ inW 4 21 = true ∧ inW 1 699 = true ∧ inW 129 699 = true := by decide +kernel
theorem inW_dn {a j k : Nat} (h : inW a k = true) (hj : j ≤ k) : inW a j = true := by
  obtain ⟨h1, h2⟩ := inW_ok h
  unfold inW
  rw [Bool.and_eq_true]
  exact ⟨Nat.ble_eq_true_of_le h1, Nat.ble_eq_true_of_le (by omega)⟩
/-- what a call may not write, that all this stays: the references, .. -/
def xk0 (M : List aD) : Bool := rfs.all (fun t => kf M t.1 t.2.1) && ks M 4
/-- .., plan and spare, .. -/
def xk1 (M : List aD) : Bool := kf M 0 5 && kf M 0 6
/-- .. the tapes -/
def xk2 (M : List aD) : Bool := ks M 1 && ks M 50
/-- .., the latest fault -/
def xk3 (M : List aD) : Bool := kf M 0 2 && (kf M 0 3 && (kf M 128 30 && kf M 128 31))
def xkb (M : List aD) : Bool := xk0 M && (xk1 M && (xk2 M && xk3 M))
theorem flt_in : inW 0 2 = true ∧ inW 0 3 = true ∧ inW 128 30 = true ∧ inW 128 31 = true := by decide +kernel
theorem KP.pl {M : List aD} {h0 h : zH} {a k : Nat} (hp : KP M h0 h) (hi : inW a k = true) (hk : kf M a k = true) : rd h a k = rd h0 a k := hp a k (inW_ok hi).1 (inW_ok hi).2 hk
theorem KP.rf {M : List aD} {h0 h : zH} (hp : KP M h0 h) (hk : xk0 M = true) (hr : ∀ t ∈ rfs, rd h0 t.1 t.2.1 = some (.ref t.2.2)) : ∀ t ∈ rfs, rd h t.1 t.2.1 = some (.ref t.2.2) := fun t ht => by
  unfold xk0 at hk
  rw [Bool.and_eq_true] at hk
  rw [hp.pl (List.all_eq_true.mp rfs_in t ht) (List.all_eq_true.mp hk.1 t ht)]
  exact hr t ht
theorem KP.wd {M : List aD} {h0 h : zH} (hp : KP M h0 h) (hk : xk0 M = true) (hr : ∀ i : Nat, i < 22 → rd h0 4 i = some (.int (wcs.getD i 0))) : ∀ i : Nat, i < 22 → rd h 4 i = some (.int (wcs.getD i 0)) := fun i hi => by
  unfold xk0 at hk
  rw [Bool.and_eq_true] at hk
  rw [hp.pl (inW_dn row_in.2.2.1 (by omega)) (ks_kf hk.2 (by decide +kernel))]
  exact hr i hi
theorem gi_rd {h h0 : zH} {a k : Nat} (e : rd h a k = rd h0 a k) : gi h a k = gi h0 a k := by
  show xi (rd h a k) = xi (rd h0 a k)
  rw [e]
theorem KP.tp {M : List aD} {h0 h : zH} (hp : KP M h0 h) (hk : xk2 M = true) {i : Nat} (hi : i < 700) : gi h 1 i = gi h0 1 i ∧ gi h 129 i = gi h0 129 i := by
  unfold xk2 at hk
  rw [Bool.and_eq_true] at hk
  exact ⟨gi_rd (hp.pl (inW_dn row_in.2.2.2.1 (by omega)) (ks_kf hk.1 (by decide +kernel))), gi_rd (hp.pl (inW_dn row_in.2.2.2.2 (by omega)) (ks_kf hk.2 (by decide +kernel)))⟩
theorem KP.ps {M : List aD} {h0 h : zH} (hp : KP M h0 h) (hk : xk1 M = true) : rd h 0 5 = rd h0 0 5 ∧ rd h 0 6 = rd h0 0 6 := by
  unfold xk1 at hk
  rw [Bool.and_eq_true] at hk
  exact ⟨hp.pl row_in.1 hk.1, hp.pl row_in.2.1 hk.2⟩
theorem KP.ft {M : List aD} {h0 h : zH} (hp : KP M h0 h) (hk : xk3 M = true) : gi h 0 2 = gi h0 0 2 ∧ gi h 0 3 = gi h0 0 3 ∧ gi h 128 30 = gi h0 128 30 ∧ gi h 128 31 = gi h0 128 31 := by
  unfold xk3 at hk
  simp only [Bool.and_eq_true] at hk
  exact ⟨gi_rd (hp.pl flt_in.1 hk.1), gi_rd (hp.pl flt_in.2.1 hk.2.1), gi_rd (hp.pl flt_in.2.2.1 hk.2.2.1), gi_rd (hp.pl flt_in.2.2.2 hk.2.2.2)⟩
theorem lXb_keep {M : List aD} {h0 h : zH} (hX : lXb h0) (hT : KT h) (hp : KP M h0 h) (hk : xkb M = true) : lXb h := by
  obtain ⟨x1, x2, ⟨P, S, x3, x4, x5⟩, x6, x7, x8, x9⟩ := hX
  unfold xkb at hk
  rw [Bool.and_eq_true, Bool.and_eq_true, Bool.and_eq_true] at hk
  obtain ⟨f1, f2, f3, f4⟩ := hp.ft hk.2.2.2
  refine ⟨hT, hp.rf hk.1 x2, ⟨P, S, x3, ?_, ?_⟩, hp.wd hk.1 x6, fun i hi => ?_, by rw [f1, f3]; exact x8, by rw [f2, f4]; exact x9⟩
  · rw [(hp.ps hk.2.1).1]; exact x4
  · rw [(hp.ps hk.2.1).2]; exact x5
  · rw [(hp.tp hk.2.2.1 hi).1, (hp.tp hk.2.2.1 hi).2]; exact x7 i hi
theorem lXb_junk {h : zH} (k : Nat) (hl : 176 ≤ h.length) (hX : lXb h) (hr : ∀ a j : Nat, a < h.length → rd (h ++ List.replicate k zjunk) a j = rd h a j) : lXb (h ++ List.replicate k zjunk) := by
  obtain ⟨x1, x2, ⟨P, S, x3, x4, x5⟩, x6, x7, x8, x9⟩ := hX
  have hW : qW.1.length = 176 := by decide +kernel
  refine ⟨KT_junk k x1, fun t ht => ?_, ⟨P, S, x3, ?_, ?_⟩, fun i hi => ?_, fun i hi => ?_, by rw [gi_rd (hr 0 2 (by omega)), gi_rd (hr 128 30 (by omega))]; exact x8, by rw [gi_rd (hr 0 3 (by omega)), gi_rd (hr 128 31 (by omega))]; exact x9⟩
  · have := (inW_ok (List.all_eq_true.mp rfs_in t ht)).1
    rw [hr _ _ (by omega)]; exact x2 t ht
  · rw [hr _ _ (by omega)]; exact x4
  · rw [hr _ _ (by omega)]; exact x5
  · rw [hr _ _ (by omega)]; exact x6 i hi
  · rw [gi_rd (hr 1 i (by omega)), gi_rd (hr 129 i (by omega))]; exact x7 i hi
/-- places of the reference's first halves -/
def fhL : List (Nat × Nat) := [(130, 9), (131, 6), (132, 6), (133, 6), (134, 6), (135, 6), (136, 6), (137, 6), (138, 6), (140, 5), (141, 5), (142, 3), (143, 3)]
def xkr (M : List aD) : Bool := fhL.all (fun q => (List.range q.2).all (fun k => kf M q.1 k))
/-- the class's tables at P -/
def xkp (M : List aD) (P : Nat) : Bool := (List.range 8).all (fun w => kf M (P + 1 + 2 * w) 0 && (kf M (P + 1 + 2 * w) 1 && (kf M (P + 1 + 2 * w) 3 && (List.range 40).all (fun k => !(inW (P + 2 + 2 * w) k) || kf M (P + 2 + 2 * w) k))))
def xkc (M : List aD) : Bool := kf M 0 5 && (kf M 3 1 && (xkp M 7 && xkp M 31))
def xkt (M : List aD) : Bool := xkr M && xkc M
theorem fhL_in : fhL.all (fun q => (List.range q.2).all (fun k => inW q.1 k)) = true := by decide +kernel
theorem fhL_of {a k : Nat} (h : fhp a k) : ∃ n : Nat, (a, n) ∈ fhL ∧ k < n := by
  rcases h with ⟨rfl, h⟩ | ⟨⟨h1, h2⟩, h⟩ | ⟨rfl | rfl, h⟩ | ⟨rfl | rfl, h⟩
  · exact ⟨9, by decide, h⟩
  · rcases (show a = 131 ∨ a = 132 ∨ a = 133 ∨ a = 134 ∨ a = 135 ∨ a = 136 ∨ a = 137 ∨ a = 138 by omega) with rfl | rfl | rfl | rfl | rfl | rfl | rfl | rfl
    all_goals exact ⟨6, by decide, h⟩
  · exact ⟨5, by decide, h⟩
  · exact ⟨5, by decide, h⟩
  · exact ⟨3, by decide, h⟩
  · exact ⟨3, by decide, h⟩
theorem KP.fm {M : List aD} {h0 h : zH} (hp : KP M h0 h) (hk : xkr M = true) : FM0 (gi h0) (gi h) := fun a k q => by
  obtain ⟨n, hn, hk2⟩ := fhL_of q
  exact gi_rd (hp.pl (List.all_eq_true.mp (List.all_eq_true.mp fhL_in _ hn) k (List.mem_range.mpr hk2)) (List.all_eq_true.mp (List.all_eq_true.mp hk _ hn) k (List.mem_range.mpr hk2)))
def tin (P w : Nat) : Bool := inW (P + 1 + 2 * w) 0 && (inW (P + 1 + 2 * w) 1 && (inW (P + 1 + 2 * w) 3 && (List.range (mN w * cN w)).all (fun k => inW (P + 2 + 2 * w) k)))
theorem tin_ok : (List.range 8).all (fun w => tin 7 w && tin 31 w) = true := by decide +kernel
theorem mc_le (w : Nat) : mN w * cN w ≤ 40 := by
  have h1 := (mN_b w).1
  have h2 := (cN_b w).1
  exact Nat.le_trans (Nat.mul_le_mul h1 h2) (by decide)
theorem mc_lt {r k a b : Nat} (hr : r < a) (hk : k < b) : r * b + k < a * b := by
  have := Nat.mul_le_mul_right b (show r + 1 ≤ a from hr)
  rw [Nat.add_mul, Nat.one_mul] at this
  omega
theorem tbC_pl {t c cols most : Nat} {rows : List (List Int32)} {m m' : xM} (h : tbC t c cols most rows m) (h0 : m' t 0 = m t 0) (h1 : m' t 1 = m t 1) (h3 : m' t 3 = m t 3) (hc : ∀ j : Nat, j < most * cols → m' c j = m c j) : tbC t c cols most rows m' :=
  ⟨h0.trans h.1, h1.trans h.2.1, h3.trans h.2.2.1, h.2.2.2.1, fun r hr k hk => (hc _ (mc_lt (Nat.lt_of_lt_of_le hr h.2.2.2.1) hk)).trans (h.2.2.2.2 r hr k hk)⟩
theorem KP.tc {M : List aD} {h0 h : zH} {P : Nat} {T : Nat → List (List Int32)} (hp : KP M h0 h) (hP : P = 7 ∨ P = 31) (hk : xkp M P = true) (ht : ∀ w : Nat, w < 8 → tbC (P + 1 + 2 * w) (P + 2 + 2 * w) (cN w) (mN w) (T w) (gi h0)) : ∀ w : Nat, w < 8 → tbC (P + 1 + 2 * w) (P + 2 + 2 * w) (cN w) (mN w) (T w) (gi h) := fun w hw => by
  have i1 := List.all_eq_true.mp tin_ok w (List.mem_range.mpr hw)
  rw [Bool.and_eq_true] at i1
  have i2 : tin P w = true := by
    rcases hP with rfl | rfl
    · exact i1.1
    · exact i1.2
  unfold tin at i2
  rw [Bool.and_eq_true, Bool.and_eq_true, Bool.and_eq_true] at i2
  have k1 := List.all_eq_true.mp hk w (List.mem_range.mpr hw)
  rw [Bool.and_eq_true, Bool.and_eq_true, Bool.and_eq_true] at k1
  refine tbC_pl (ht w hw) (gi_rd (hp.pl i2.1 k1.1)) (gi_rd (hp.pl i2.2.1 k1.2.1)) (gi_rd (hp.pl i2.2.2.1 k1.2.2.1)) (fun j hj => ?_)
  have i3 := List.all_eq_true.mp i2.2.2.2 j (List.mem_range.mpr hj)
  have k3 := List.all_eq_true.mp k1.2.2.2 j (List.mem_range.mpr (Nat.lt_of_lt_of_le hj (mc_le w)))
  try dsimp only at k3
  rw [i3] at k3
  exact gi_rd (hp.pl i3 k3)
theorem p31_in : inW 3 1 = true := by decide +kernel
theorem xkp_of {M : List aD} {P : Nat} (hP : P = 7 ∨ P = 31) (hk : xkc M = true) : xkp M P = true := by
  unfold xkc at hk
  rw [Bool.and_eq_true, Bool.and_eq_true, Bool.and_eq_true] at hk
  rcases hP with rfl | rfl
  · exact hk.2.2.1
  · exact hk.2.2.2
theorem lT_keep {M : List aD} {h0 h : zH} (hT : lT h0) (hp : KP M h0 h) (hk : xkt M = true) : lT h := by
  obtain ⟨t1, P, T, hP, t2, t3, t4⟩ := hT
  unfold xkt at hk
  rw [Bool.and_eq_true] at hk
  have k2 := hk.2
  unfold xkc at k2
  rw [Bool.and_eq_true, Bool.and_eq_true] at k2
  refine ⟨?_, P, T, hP, ?_, hp.tc hP (xkp_of hP hk.2) t3, t4.of (hp.fm hk.1)⟩
  · rw [hp.pl p31_in k2.2.1]; exact t1
  · rw [hp.pl row_in.1 k2.1]; exact t2
theorem lT_junk {h : zH} (k : Nat) (hl : 176 ≤ h.length) (hT : lT h) (hr : ∀ a j : Nat, a < h.length → rd (h ++ List.replicate k zjunk) a j = rd h a j) : lT (h ++ List.replicate k zjunk) := by
  obtain ⟨t1, P, T, hP, t2, t3, t4⟩ := hT
  have e : ∀ a : Nat, a < 176 → ∀ j : Nat, gi (h ++ List.replicate k zjunk) a j = gi h a j := fun a ha j => gi_rd (hr a j (by omega))
  refine ⟨by rw [hr 3 1 (by omega)]; exact t1, P, T, hP, by rw [hr 0 5 (by omega)]; exact t2, fun w hw => ?_, t4.of (fun a j q => ?_)⟩
  · exact tbC_row (t3 w hw) (funext (e _ (by omega))) (funext (e _ (by omega)))
  · exact e a (by have := fhp_b q; omega) j
def xk (M : List aD) : Bool := xkb M && xkt M
theorem xkr_of {M : List aD} (h : xk M = true) : xkr M = true := by
  unfold xk xkt at h
  rw [Bool.and_eq_true, Bool.and_eq_true] at h
  exact h.2.1
theorem lX_keep {M : List aD} {h0 h : zH} (hX : lX h0) (hT : KT h) (hp : KP M h0 h) (hk : xk M = true) : lX h := by
  unfold xk at hk
  rw [Bool.and_eq_true] at hk
  exact ⟨hT, lXb_keep hX.2.1 hT hp hk.1, lT_keep hX.2.2 hp hk.2⟩
theorem lX_junk {h : zH} (k : Nat) (hl : 176 ≤ h.length) (hX : lX h) (hr : ∀ a j : Nat, a < h.length → rd (h ++ List.replicate k zjunk) a j = rd h a j) : lX (h ++ List.replicate k zjunk) := ⟨KT_junk k hX.1, lXb_junk k hl hX.2.1 hr, lT_junk k hl hX.2.2 hr⟩
theorem zGo_KT {nf : Bool} {xs : List Int32} {I : zI} {mcl : Nat → Nat} {mt : zM} {d c : Nat} {ini : Bool} {nL : Nat} {tab : Nat → Option (Instr × Nat)} : ∀ (n : Nat) (a b : zSt), zGo (zXt nf xs) I mcl (zEv (zXt nf xs) I mcl mt d) c ini nL tab n a b → KT a.2.2.2 → KT b.2.2.2 := by
  intro n
  induction n with
  | zero =>
    intro a b q hK
    have q : a = b := q
    subst q
    exact hK
  | succ n ih =>
    intro a b q hK
    obtain ⟨i, len, -, q⟩ := q
    rcases q with ⟨s1, q1, q2⟩ | ⟨rest, -, q2⟩ | ⟨mi, as, rest, r1, h1, -, q1, q2⟩
    · obtain ⟨p1, l1, t1, h1⟩ := s1
      exact ih _ _ q2 (zstep_KT hK q1)
    · exact ih _ _ q2 hK
    · exact ih _ _ q2 (zEv_KT _ _ _ _ _ _ q1 hK)
