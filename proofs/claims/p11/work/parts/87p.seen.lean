/-! Between the passes, with nothing tried; seen of both sides. -/
def lW (h : zH) : Prop := lZ h ∧ gi h 128 55 = 0
def lInw (h : zH) : Prop := lJ h ∧ lW h
def xkw (M : List aD) : Bool := xkz M && kf M 128 55
theorem in55 : inW 128 55 = true := by decide +kernel
theorem lW_keep {M : List aD} {h0 h : zH} (hX : lW h0) (hT : KT h) (hp : KP M h0 h) (hk : xkw M = true) : lW h := by
  unfold xkw at hk
  rw [Bool.and_eq_true] at hk
  exact ⟨lZ_keep hX.1 hT hp hk.1, (gi_rd (hp.pl in55 hk.2)).trans hX.2⟩
theorem lW_junk {h : zH} (k : Nat) (hl : 176 ≤ h.length) (hX : lW h) (hr : ∀ a j : Nat, a < h.length → rd (h ++ List.replicate k zjunk) a j = rd h a j) : lW (h ++ List.replicate k zjunk) := ⟨lZ_junk k hl hX.1 hr, (gi_rd (hr 128 55 (by omega))).trans hX.2⟩
def lckw (q1 q2 : aQ) (ts : List aY) (e : Option aV → Option aV → List aY → Bool) : Bool := lck q1 q2 ts e && (xkw q1.2.2.2.2.1 && xkw q2.2.2.2.2.1)
theorem xkw_x {M : List aD} (h : xkw M = true) : xk M = true := by
  unfold xkw at h
  rw [Bool.and_eq_true] at h
  exact xk_z h.1
theorem ltwow {nf : Bool} {xs : List Int32} {q1 q2 : aQ} {ts : List aY} {e : Option aV → Option aV → List aY → Bool} {ys : List Int32} {h : zH} (c1 : aCon qW qG (zEv (zXt nf xs) zIT zmcl zMt 952) q1 (fun _ => True)) (c2 : aCon qW qG (zEv (zXt nf xs) zIT zmcl zMt 952) q2 (fun _ => True)) (chk : lckw q1 q2 ts e = true) (hI : lInw h) (hl : ts.length = ys.length) (hb : ∀ j : Nat, ∀ y : aY, ts[j]? = some y → y.1 = 0 ∧ y.2.1 ≤ (ys.getD j 0).toInt ∧ (ys.getD j 0).toInt ≤ y.2.2) : ∃ (r1 : Option Value) (h1 : zH) (r2 : Option Value) (h2 : zH), zEv (zXt nf xs) zIT zmcl zMt 952 q1.1 (.ref 0 :: ys.map Value.int) h r1 h1 ∧ zEv (zXt nf xs) zIT zmcl zMt 952 q2.1 (.ref 128 :: ys.map Value.int) h1 r2 h2 ∧ aSh qW h1 ∧ (lW h1 ∧ FM0 (gi h) (gi h1)) ∧ lInw h2 ∧ h1.length = h.length ∧ h2.length = h.length ∧ ∃ (E : List aY) (ρ : List Int) (a b : Option aV), aE qW E ρ ∧ arv ρ a r1 ∧ arv ρ b r2 ∧ e a b E = true := by
  unfold lckw at chk
  rw [Bool.and_eq_true, Bool.and_eq_true] at chk
  obtain ⟨r1, h1, r2, h2, e1, e2, s1, j2, l1, l2, k1, k2, w⟩ := ltwoB c1 c2 chk.1 hI.1 hl hb
  have t1 := zEv_KT _ _ _ _ _ _ e1 hI.2.1.1.1
  have t2 := zEv_KT _ _ _ _ _ _ e2 t1
  have y1 := lW_keep hI.2 t1 k1 chk.2.1
  exact ⟨r1, h1, r2, h2, e1, e2, s1, ⟨y1, k1.fm (xkr_of (xkw_x chk.2.1))⟩, ⟨j2, lW_keep y1 t2 k2 chk.2.2⟩, l1, l2, w⟩
theorem dk_eq {a b a' b' : Nat → Int32} {x : Int32} : ∀ n : Nat, (∀ k : Nat, k < n → a k = a' k ∧ b k = b' k) → dkF a b x n = dkF a' b' x n := by
  intro n
  induction n with
  | zero => intro _; rfl
  | succ n ih =>
    intro h
    show (dkF a b x n || (decide ((a n).toInt ≤ x.toInt) && decide (x.toInt ≤ (b n).toInt))) = (dkF a' b' x n || (decide ((a' n).toInt ≤ x.toInt) && decide (x.toInt ≤ (b' n).toInt)))
    rw [ih (fun k hk => h k (by omega)), (h n (by omega)).1, (h n (by omega)).2]
theorem sm_eq {a b a' b' : Nat → Int32} {x : Int32} : ∀ n : Nat, (∀ k : Nat, k < n → a k = a' k ∧ b k = b' k) → smF a b x n = smF a' b' x n := by
  intro n
  induction n with
  | zero => intro _; rfl
  | succ n ih =>
    intro h
    show (if a n = x then smF a b x n + b n else smF a b x n) = (if a' n = x then smF a' b' x n + b' n else smF a' b' x n)
    rw [ih (fun k hk => h k (by omega)), (h n (by omega)).1, (h n (by omega)).2]
theorem seen_pair {nf : Bool} {xs : List Int32} {d : Nat} {h h1 h2 : zH} {r1 r2 : Option Value} {x : Int32} {M1 : List aD} (hI : lInw h) (e1 : zEv (zXt nf xs) zIT zmcl zMt d 111 [.ref 0, .int x] h r1 h1) (e2 : zEv (zXt nf xs) zIT zmcl zMt d 222 [.ref 128, .int x] h1 r2 h2) (S1 : aSh qW h1) (k1 : KP M1 h h1) (q1 : xkw M1 = true) : r1 = r2 := by
  obtain ⟨hJ, ⟨hX, hN⟩, h55⟩ := hI
  have t1 := zEv_KT _ _ _ _ _ _ e1 hX.1
  have y1 := lW_keep ⟨⟨hX, hN⟩, h55⟩ t1 k1 q1
  have x2 := hX.2.1.2.1
  have hr1 := y1.1.1.2.1.2.1
  obtain ⟨-, P, T, hP, y5, yc, yr⟩ := hX.2.2
  have yr1 : TB T (gi h1) := yr.of (k1.fm (xkr_of (xkw_x q1)))
  have g4 := yc 4 (by decide)
  have g5 := yc 5 (by decide)
  rw [show P + 1 + 2 * 4 = P + 9 by omega, show P + 2 + 2 * 4 = P + 10 by omega] at g4
  rw [show P + 1 + 2 * 5 = P + 11 by omega, show P + 2 + 2 * 5 = P + 12 by omega] at g5
  obtain ⟨a0, a1, a2, a3, a4⟩ := g4
  obtain ⟨b0, b1, b2, b3, b4⟩ := g5
  have a3 : (T 4).length ≤ 5 := a3
  have b3 : (T 5).length ≤ 3 := b3
  have gP : (gr h P 4 = some (P + 9) ∧ gr h (P + 9) 2 = some (P + 10) ∧ gs h (P + 10) = (0, 1, 10)) ∧ gr h P 5 = some (P + 11) ∧ gr h (P + 11) 2 = some (P + 12) ∧ gs h (P + 12) = (0, 1, 6) := by
    rcases hP with rfl | rfl
    · exact ⟨⟨rf_of x2 (by decide +kernel), rf_of x2 (by decide +kernel), gsR hJ.1.1 (by decide +kernel)⟩, rf_of x2 (by decide +kernel), rf_of x2 (by decide +kernel), gsR hJ.1.1 (by decide +kernel)⟩
    · exact ⟨⟨rf_of x2 (by decide +kernel), rf_of x2 (by decide +kernel), gsR hJ.1.1 (by decide +kernel)⟩, rf_of x2 (by decide +kernel), rf_of x2 (by decide +kernel), gsR hJ.1.1 (by decide +kernel)⟩
  obtain ⟨⟨p1, p2, p3⟩, p4, p5, p6⟩ := gP
  obtain ⟨n1, g1, hs1, c1, -, -⟩ := ct_seenC (P := P) (n := (T 4).length) (n5 := (T 5).length) (x := x) (gr_of y5) p1 p2 p3 a0 a1 a2 a3 p4 p5 p6 b0 b1 b2 b3 h r1 h1 (HS_of hX.1) e1
  obtain ⟨n2, g2, hs2, c2, -, -⟩ := ct_seenR (n := (T 5).length) (n4 := (T 4).length) (x := x) (rf_of hr1 (by decide +kernel)) (gsR S1 (by decide +kernel)) (rf_of hr1 (by decide +kernel)) (rf_of hr1 (by decide +kernel)) (gsR (t := 0) (kd := 1) (n := 6) S1 (by decide +kernel)) (gsR (t := 0) (kd := 1) (n := 6) S1 (by decide +kernel)) y1.2 (yr1.2.1 5 (by decide) (by decide)) b3 (rf_of hr1 (by decide +kernel)) (rf_of hr1 (by decide +kernel)) (gsR (t := 0) (kd := 1) (n := 10) S1 (by decide +kernel)) (gsR (t := 0) (kd := 1) (n := 10) S1 (by decide +kernel)) (yr1.2.1 4 (by decide) (by decide)) a3 h1 r2 h2 (HS_of t1) e2
  have e4 : ∀ k : Nat, k < (T 4).length → tA (gi h) (P + 10) 2 0 k = gi h1 140 k ∧ tA (gi h) (P + 10) 2 1 k = gi h1 141 k := fun k hk =>
    ⟨(a4 k hk 0 (by decide)).trans (yr1.2.2.1 4 (Or.inr (Or.inr (Or.inl rfl))) k hk 0 (by decide)).symm, (a4 k hk 1 (by decide)).trans (yr1.2.2.1 4 (Or.inr (Or.inr (Or.inl rfl))) k hk 1 (by decide)).symm⟩
  have e5 : ∀ k : Nat, k < (T 5).length → tA (gi h) (P + 12) 2 0 k = gi h1 142 k ∧ tA (gi h) (P + 12) 2 1 k = gi h1 143 k := fun k hk =>
    ⟨(b4 k hk 0 (by decide)).trans (yr1.2.2.1 5 (Or.inr (Or.inr (Or.inr rfl))) k hk 0 (by decide)).symm, (b4 k hk 1 (by decide)).trans (yr1.2.2.1 5 (Or.inr (Or.inr (Or.inr rfl))) k hk 1 (by decide)).symm⟩
  rw [c1, c2, dk_eq _ e5, sm_eq _ e4]
theorem lW_2 {h h1 h2 : zH} {M1 M2 : List aD} (hI : lInw h) (k1 : KP M1 h h1) (k2 : KP M2 h1 h2) (hZ : lZ h2) (p1 : kf M1 128 55 = true) (p2 : kf M2 128 55 = true) : lW h2 := ⟨hZ, (gi_rd (k2.pl in55 p2)).trans ((gi_rd (k1.pl in55 p1)).trans hI.2.2)⟩
theorem lV_of {h : zH} (hI : lInw h) : lInv h := ⟨hI.1, hI.2.1⟩
