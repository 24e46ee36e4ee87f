/-! Rides, images, what can be undone: what holds between the passes, of both sides. -/
/-- the class's ride at a is as the row w tells -/
def CL (R J : Nat) (m : xM) (g : xL) (a : Nat) (w : rRow) : Prop := m a 4 = w.1 ∧ m a 5 = w.2.1 ∧ (∀ p : Nat, p < R → m (a + 3 + 2 * p) 2 = w.2.2.2.1 p ∧ m (a + 3 + 2 * p) 4 = bI (bj w.2.2.1 p)) ∧ ∀ j : Nat, j < J → g (a + 2) j = w.2.2.2.2 j
/-- nothing is told beyond mile 60 -/
def HB (J : Nat) (w : rRow) : Prop := ∀ j : Nat, j < J → ∀ v : Nat, 61 ≤ v → v < 64 → bl (w.2.2.2.2 j) v = false
/-- what is undone: from the row B to the row A -/
def ST (R J : Nat) (e : Int32 × Int32 × Int32) (A B : rRow) : Prop := A.1 = B.1 ∧ A.2.1 = B.2.1 ∧ (
  (e.1 = 1 ∧ ∃ p : Nat, p < R ∧ e.2.1 = Int32.ofNat p ∧ A.2.2.2.1 = B.2.2.2.1 ∧ A.2.2.2.2 = B.2.2.2.2 ∧ ∀ q : Nat, q < R → bj A.2.2.1 q = if q = p then decide (e.2.2 = 1) else bj B.2.2.1 q) ∨
  (e.1 = 2 ∧ ∃ p : Nat, p < R ∧ e.2.1 = Int32.ofNat p ∧ A.2.2.1 = B.2.2.1 ∧ A.2.2.2.2 = B.2.2.2.2 ∧ A.2.2.2.1 = fun q => if q = p then e.2.2 else B.2.2.2.1 q) ∨
  (e.1 = 3 ∧ ∃ j : Nat, j < J ∧ e.2.1 = Int32.ofNat j ∧ ∃ u : Nat, u ≤ 60 ∧ e.2.2 = Int32.ofNat u ∧ A.2.2.1 = B.2.2.1 ∧ A.2.2.2.1 = B.2.2.2.1 ∧ A.2.2.2.2 = fun q => if q = j then flB (Int32.ofNat u) (B.2.2.2.2 q) else B.2.2.2.2 q))
/-- the class's cells -/
def CP (P R J n : Nat) (E : Nat → Int32 × Int32 × Int32) (w0 w3 : rRow) (kp nt L : Int32) (m : xM) (g : xL) (q : Nat → Nat → Option Nat) : Prop := q 0 5 = some P ∧ q 55 2 = some P ∧ m P 10 = L ∧ m (P + 5) 3 = Int32.ofNat J ∧ m 55 3 = Int32.ofNat R ∧ m 116 3 = Int32.ofNat n ∧ m 120 5 = nt ∧ m 0 11 = kp ∧ CL R J m g 55 w0 ∧ (kp = 0 ∨ (m 70 3 = Int32.ofNat R ∧ q 70 2 = some P ∧ CL R J m g 70 w3)) ∧ ∀ k : Nat, k < n → (m 117 k, m 118 k, m 119 k) = E k
/-- the reference's cells -/
def RP (R J n : Nat) (rows : Nat → rRow) (kp nt L : Int32) (m : xM) (g : xL) : Prop := m 130 0 = L ∧ m 130 1 = Int32.ofNat R ∧ m 130 2 = Int32.ofNat J ∧ m 128 54 = Int32.ofNat n ∧ m 128 67 = nt ∧ m 128 53 = kp ∧ ∀ r : Nat, (r = 0 ∨ r = 3 ∨ (4 ≤ r ∧ r < 4 + n)) → rowOf m g r = rows r
def AB (R J n : Nat) (E : Nat → Int32 × Int32 × Int32) (rows : Nat → rRow) (kp : Int32) : Prop := HB J (rows 0) ∧ (kp = 0 ∨ HB J (rows 3)) ∧ ∀ k : Nat, k < n → ST R J (E k) (rows (4 + k)) (rows (if k + 1 < n then 4 + (k + 1) else 0))
def LB (m : xM) (g : xL) (q : Nat → Nat → Option Nat) : Prop := ∃ (P R J n : Nat) (E : Nat → Int32 × Int32 × Int32) (rows : Nat → rRow) (kp nt L : Int32), (P = 7 ∨ P = 31) ∧ R ≤ 6 ∧ J ≤ 6 ∧ n ≤ 20 ∧ CP P R J n E (rows 0) (rows 3) kp nt L m g q ∧ RP R J n rows kp nt L m g ∧ AB R J n E rows kp
def lB (h : zH) : Prop := LB (gi h) (gl h) (gr h)
theorem CL.of {R J a : Nat} {m m' : xM} {g g' : xL} {w : rRow} (h : CL R J m g a w) (h4 : m' a 4 = m a 4) (h5 : m' a 5 = m a 5) (hp : ∀ p : Nat, p < R → m' (a + 3 + 2 * p) 2 = m (a + 3 + 2 * p) 2 ∧ m' (a + 3 + 2 * p) 4 = m (a + 3 + 2 * p) 4) (hg : ∀ j : Nat, j < J → g' (a + 2) j = g (a + 2) j) : CL R J m' g' a w :=
  ⟨h4.trans h.1, h5.trans h.2.1, fun p hp2 => ⟨(hp p hp2).1.trans (h.2.2.1 p hp2).1, (hp p hp2).2.trans (h.2.2.1 p hp2).2⟩, fun j hj => (hg j hj).trans (h.2.2.2 j hj)⟩
theorem CL.row {R J a : Nat} {m m' : xM} {g g' : xL} {w : rRow} (hR : R ≤ 6) (h : CL R J m g a w) (hm : ∀ c : Nat, a ≤ c → c < a + 15 → m' c = m c) (hg : g' (a + 2) = g (a + 2)) : CL R J m' g' a w :=
  h.of (by rw [hm a (by omega) (by omega)]) (by rw [hm a (by omega) (by omega)]) (fun p hp => by rw [hm (a + 3 + 2 * p) (by omega) (by omega)]; exact ⟨rfl, rfl⟩) (fun j _ => by rw [hg])
/-- the class's cells stay where the reference writes -/
theorem CP.of {P R J n : Nat} {E : Nat → Int32 × Int32 × Int32} {w0 w3 : rRow} {kp nt L : Int32} {m m' : xM} {g g' : xL} {q q' : Nat → Nat → Option Nat} (hP : P = 7 ∨ P = 31) (hR : R ≤ 6) (h : CP P R J n E w0 w3 kp nt L m g q) (hm : ∀ c : Nat, c < 128 → m' c = m c) (hg : ∀ c : Nat, c < 128 → g' c = g c) (hq : q' = q) : CP P R J n E w0 w3 kp nt L m' g' q' := by
  obtain ⟨c1, c2, c3, c4, c5, c6, c7, c8, c9, c10, c11⟩ := h
  subst hq
  refine ⟨c1, c2, by rw [hm P (by omega)]; exact c3, by rw [hm (P + 5) (by omega)]; exact c4, by rw [hm 55 (by decide)]; exact c5, by rw [hm 116 (by decide)]; exact c6, by rw [hm 120 (by decide)]; exact c7, by rw [hm 0 (by decide)]; exact c8, c9.row hR (fun c _ _ => hm c (by omega)) (hg 57 (by decide)), ?_, fun k hk => by rw [hm 117 (by decide), hm 118 (by decide), hm 119 (by decide)]; exact c11 k hk⟩
  rcases c10 with z | ⟨z1, z2, z3⟩
  · exact Or.inl z
  · exact Or.inr ⟨by rw [hm 70 (by decide)]; exact z1, z2, z3.row hR (fun c _ _ => hm c (by omega)) (hg 72 (by decide))⟩
theorem RP.of {R J n : Nat} {rows : Nat → rRow} {kp nt L : Int32} {m m' : xM} {g g' : xL} (h : RP R J n rows kp nt L m g) (hm : m' 130 = m 130) (h53 : m' 128 53 = m 128 53) (h54 : m' 128 54 = m 128 54) (h67 : m' 128 67 = m 128 67) (hr : ∀ r : Nat, (r = 0 ∨ r = 3 ∨ (4 ≤ r ∧ r < 4 + n)) → rowOf m' g' r = rowOf m g r) : RP R J n rows kp nt L m' g' := by
  obtain ⟨r1, r2, r3, r4, r5, r6, r7⟩ := h
  exact ⟨by rw [hm]; exact r1, by rw [hm]; exact r2, by rw [hm]; exact r3, h54.trans r4, h67.trans r5, h53.trans r6, fun r hr2 => (hr r hr2).trans (r7 r hr2)⟩
/-- .. where the class writes -/
theorem RP.ge {R J n : Nat} {rows : Nat → rRow} {kp nt L : Int32} {m m' : xM} {g g' : xL} (h : RP R J n rows kp nt L m g) (hm : ∀ c : Nat, 128 ≤ c → m' c = m c) (hg : g' 164 = g 164) : RP R J n rows kp nt L m' g' :=
  h.of (hm 130 (by decide)) (by rw [hm 128 (by decide)]) (by rw [hm 128 (by decide)]) (by rw [hm 128 (by decide)]) (fun r _ => rowOf_st (fun c c0 _ => hm c (by omega)) hg)
theorem RP.nw {R J n : Nat} {rows : Nat → rRow} {kp nt L : Int32} {m m' : xM} {g g' : xL} (h : RP R J n rows kp nt L m g) (hw : NW m g m' g') : RP R J n rows kp nt L m' g' :=
  h.of (hw.1 130 (by decide)) (hw.2.1 53 (by decide)) (hw.2.1 54 (by decide)) (hw.2.1 67 (by decide)) (fun r _ => rowOf_st (fun c c0 _ => hw.1 c (by omega)) (by rw [hw.2.2]))
/-- one more that can be undone -/
def pE (n : Nat) (E : Nat → Int32 × Int32 × Int32) (e : Int32 × Int32 × Int32) (k : Nat) : Int32 × Int32 × Int32 := if k + 1 < kN n then E (k + kS n) else e
def pR (n : Nat) (rows : Nat → rRow) (w : rRow) (r : Nat) : rRow := if r = 0 then w else if r < 4 then rows r else if r + 1 < 4 + kN n then rows (r + kS n) else rows 0
theorem kNS {n : Nat} (hn : n ≤ 20) : kN n + kS n = n + 1 ∧ 1 ≤ kN n ∧ kN n ≤ 20 := by
  unfold kN kS
  by_cases e : n = 20
  · rw [if_pos e, if_pos e]; omega
  · rw [if_neg e, if_neg e]; omega
theorem AB.push {R J n : Nat} {E : Nat → Int32 × Int32 × Int32} {rows : Nat → rRow} {kp : Int32} {e : Int32 × Int32 × Int32} {w : rRow} (hn : n ≤ 20) (h : AB R J n E rows kp) (hs : ST R J e (rows 0) w) (hb : HB J w) : AB R J (kN n) (pE n E e) (pR n rows w) kp := by
  obtain ⟨k1, k2, k3⟩ := kNS hn
  refine ⟨hb, h.2.1, fun k hk => ?_⟩
  unfold pE
  have e4 : pR n rows w (4 + k) = if k + 1 < kN n then rows (4 + (k + kS n)) else rows 0 := by
    unfold pR
    rw [if_neg (by omega), if_neg (by omega)]
    by_cases z : k + 1 < kN n
    · rw [if_pos z, if_pos (by omega), show 4 + k + kS n = 4 + (k + kS n) by omega]
    · rw [if_neg z, if_neg (by omega)]
  rw [e4]
  by_cases z : k + 1 < kN n
  · rw [if_pos z, if_pos z, if_pos z]
    have old := h.2.2 (k + kS n) (by omega)
    have e5 : pR n rows w (4 + (k + 1)) = rows (if k + kS n + 1 < n then 4 + (k + kS n + 1) else 0) := by
      unfold pR
      rw [if_neg (by omega), if_neg (by omega)]
      by_cases y : k + kS n + 1 < n
      · rw [if_pos (by omega), if_pos y, show 4 + (k + 1) + kS n = 4 + (k + kS n + 1) by omega]
      · rw [if_neg (by omega), if_neg y]
    rw [e5]
    exact old
  · rw [if_neg z, if_neg z, if_neg z]
    exact hs
theorem HB.undo {R J : Nat} {e : Int32 × Int32 × Int32} {A B : rRow} (hs : ST R J e A B) (hb : HB J B) : HB J A := by
  intro j hj v v1 v2
  obtain ⟨-, -, h⟩ := hs
  rcases h with ⟨-, p, -, -, -, h, -⟩ | ⟨-, p, -, -, -, h, -⟩ | ⟨-, j2, -, -, u, hu, -, -, -, h⟩
  · rw [h]; exact hb j hj v v1 v2
  · rw [h]; exact hb j hj v v1 v2
  · rw [h]
    dsimp only
    by_cases z : j = j2
    · rw [if_pos z]
      unfold flB
      rw [bl_xor, bl_one (by omega) v2, decide_eq_false (by omega), Bool.xor_false]
      exact hb j hj v v1 v2
    · rw [if_neg z]; exact hb j hj v v1 v2
theorem HB.fw {R J : Nat} {e : Int32 × Int32 × Int32} {A B : rRow} (hs : ST R J e A B) (hb : HB J A) : HB J B := by
  intro j hj v v1 v2
  obtain ⟨-, -, h⟩ := hs
  have hA := hb j hj v v1 v2
  rcases h with ⟨-, p, -, -, -, h, -⟩ | ⟨-, p, -, -, -, h, -⟩ | ⟨-, j2, -, -, u, hu, -, -, -, h⟩
  · rw [h] at hA; exact hA
  · rw [h] at hA; exact hA
  · rw [h] at hA
    dsimp only at hA
    by_cases z : j = j2
    · rw [if_pos z] at hA
      unfold flB at hA
      rw [bl_xor, bl_one (by omega) v2, decide_eq_false (by omega), Bool.xor_false] at hA
      exact hA
    · rw [if_neg z] at hA; exact hA
/-- the latest undone: the rows -/
def uR (n : Nat) (rows : Nat → rRow) (r : Nat) : rRow := if r = 0 then rows (4 + n) else rows r
theorem AB.undo {R J n : Nat} {E : Nat → Int32 × Int32 × Int32} {rows : Nat → rRow} {kp : Int32} (h : AB R J (n + 1) E rows kp) : ST R J (E n) (rows (4 + n)) (rows 0) ∧ AB R J n E (uR n rows) kp := by
  have s := h.2.2 n (by omega)
  rw [if_neg (by omega)] at s
  refine ⟨s, HB.undo s h.1, h.2.1, fun k hk => ?_⟩
  have o := h.2.2 k (by omega)
  rw [if_pos (by omega)] at o
  unfold uR
  rw [if_neg (by omega)]
  by_cases z : k + 1 < n
  · rw [if_pos z, if_neg (by omega)]; exact o
  · rw [if_neg z, if_pos rfl, show 4 + n = 4 + (k + 1) by omega]; exact o
/-- a change of the row that now is, in the reference -/
theorem row_ears {m : xM} {g : xL} {z : Int32} {r : Nat} : rowOf (xu m 155 0 z) g r = if r = 0 then ((rowOf m g 0).1, (rowOf m g 0).2.1, z, (rowOf m g 0).2.2.2) else rowOf m g r := by
  by_cases e : r = 0
  · subst e
    rw [if_pos rfl]
    unfold rowOf
    rw [xu_same, xu_row (b := 150) (by decide), xu_row (b := 151) (by decide), xu_row (b := 156) (by decide)]
  · rw [if_neg e]
    exact rowOf_eq (by rw [xu_row (by decide)]) (by rw [xu_row (by decide)]) (xu_oth (by omega)) (fun p _ => by rw [xu_row (by decide)]) (fun _ _ => rfl)
theorem row_seat {m : xM} {g : xL} {z : Int32} {r p : Nat} (hp : p < 6) : rowOf (xu m 156 p z) g r = if r = 0 then ((rowOf m g 0).1, (rowOf m g 0).2.1, (rowOf m g 0).2.2.1, (fun q => if q = p then z else (rowOf m g 0).2.2.2.1 q), (rowOf m g 0).2.2.2.2) else rowOf m g r := by
  by_cases e : r = 0
  · subst e
    rw [if_pos rfl]
    have e4 : (fun q => if q < 6 then xu m 156 p z 156 (6 * 0 + q) else 0) = (fun q => if q = p then z else (rowOf m g 0).2.2.2.1 q) := funext fun q => by
      show _ = if q = p then z else (if q < 6 then m 156 (6 * 0 + q) else 0)
      by_cases h : q = p
      · rw [if_pos h, if_pos (by omega), h, show 6 * 0 + p = p by omega, xu_same]
      · rw [if_neg h]
        by_cases h6 : q < 6
        · rw [if_pos h6, if_pos h6, xu_oth (by omega)]
        · rw [if_neg h6, if_neg h6]
    show (xu m 156 p z 150 0, xu m 156 p z 151 0, xu m 156 p z 155 0, (fun q => if q < 6 then xu m 156 p z 156 (6 * 0 + q) else 0), (fun j => if j < 6 then g 164 (6 * 0 + j) else 0)) = _
    rw [e4, xu_row (b := 150) (by decide), xu_row (b := 151) (by decide), xu_row (b := 155) (by decide)]
    rfl
  · rw [if_neg e]
    exact rowOf_eq (by rw [xu_row (by decide)]) (by rw [xu_row (by decide)]) (by rw [xu_row (by decide)]) (fun q _ => xu_oth (by omega)) (fun _ _ => rfl)
theorem row_tell {m : xM} {g : xL} {z : Int64} {r p : Nat} (hp : p < 6) : rowOf m (xu g 164 p z) r = if r = 0 then ((rowOf m g 0).1, (rowOf m g 0).2.1, (rowOf m g 0).2.2.1, (rowOf m g 0).2.2.2.1, (fun q => if q = p then z else (rowOf m g 0).2.2.2.2 q)) else rowOf m g r := by
  by_cases e : r = 0
  · subst e
    rw [if_pos rfl]
    have e4 : (fun q => if q < 6 then xu g 164 p z 164 (6 * 0 + q) else 0) = (fun q => if q = p then z else (rowOf m g 0).2.2.2.2 q) := funext fun q => by
      show _ = if q = p then z else (if q < 6 then g 164 (6 * 0 + q) else 0)
      by_cases h : q = p
      · rw [if_pos h, if_pos (by omega), h, show 6 * 0 + p = p by omega, xu_same]
      · rw [if_neg h]
        by_cases h6 : q < 6
        · rw [if_pos h6, if_pos h6, xu_oth (by omega)]
        · rw [if_neg h6, if_neg h6]
    show (m 150 0, m 151 0, m 155 0, (fun q => if q < 6 then m 156 (6 * 0 + q) else 0), (fun q => if q < 6 then xu g 164 p z 164 (6 * 0 + q) else 0)) = _
    rw [e4]
    rfl
  · rw [if_neg e]
    exact rowOf_eq rfl rfl rfl (fun _ _ => rfl) (fun q _ => xu_oth (by omega))
theorem row_at {m : xM} {g : xL} : (rowOf m g 0).1 = m 150 0 ∧ (rowOf m g 0).2.1 = m 151 0 ∧ (rowOf m g 0).2.2.1 = m 155 0 ∧ (∀ p : Nat, p < 6 → (rowOf m g 0).2.2.2.1 p = m 156 p) ∧ ∀ j : Nat, j < 6 → (rowOf m g 0).2.2.2.2 j = g 164 j := by
  refine ⟨rfl, rfl, rfl, fun p hp => ?_, fun j hj => ?_⟩
  · show (if p < 6 then m 156 (6 * 0 + p) else 0) = _
    rw [if_pos hp, show 6 * 0 + p = p by omega]
  · show (if j < 6 then g 164 (6 * 0 + j) else 0) = _
    rw [if_pos hj, show 6 * 0 + j = j by omega]
/-- the reference behind keepNow and a change of the row that now is -/
theorem RP.push {R J n : Nat} {rows : Nat → rRow} {kp nt L : Int32} {m m1 m2 : xM} {g g1 g2 : xL} {w : rRow} (hn : n ≤ 20) (h : RP R J n rows kp nt L m g) (hk : KNP n m g m1 g1) (hc : m2 128 = m1 128 ∧ m2 130 = m1 130) (h0 : rowOf m2 g2 0 = w) (hr : ∀ r : Nat, ¬ r = 0 → rowOf m2 g2 r = rowOf m1 g1 r) : RP R J (kN n) (pR n rows w) kp nt L m2 g2 := by
  obtain ⟨r1, r2, r3, r4, r5, r6, r7⟩ := h
  obtain ⟨k1, k2, k3, k4, k5, k6, k7⟩ := hk
  obtain ⟨z1, z2, z3⟩ := kNS hn
  have e130 : m2 130 = m 130 := hc.2.trans (k1 130 (by decide) (Or.inl (by decide)))
  refine ⟨by rw [e130]; exact r1, by rw [e130]; exact r2, by rw [e130]; exact r3, by rw [hc.1]; exact k4, by rw [hc.1, k2 67 (by decide)]; exact r5, by rw [hc.1, k2 53 (by decide)]; exact r6, fun r hr2 => ?_⟩
  unfold pR
  by_cases e : r = 0
  · rw [if_pos e, e]; exact h0
  · rw [if_neg e, hr r e]
    by_cases e4 : r < 4
    · rw [if_pos e4, k7 r e4]
      exact r7 r (by omega)
    · rw [if_neg e4]
      obtain ⟨k, rfl⟩ : ∃ k : Nat, r = 4 + k := ⟨r - 4, by omega⟩
      have hk : k < kN n := by omega
      by_cases z : 4 + k + 1 < 4 + kN n
      · rw [if_pos z, k5 k (by omega), show 4 + k + kS n = 4 + (k + kS n) by omega]
        exact r7 _ (by omega)
      · rw [if_neg z, show k = kN n - 1 by omega, k6]
        exact r7 0 (Or.inl rfl)
/-- the class behind a push -/
theorem CP.push {P R J n : Nat} {E : Nat → Int32 × Int32 × Int32} {w0 w3 w : rRow} {kp nt L kd a b : Int32} {m m0 m1 m2 : xM} {g g2 : xL} {q : Nat → Nat → Option Nat} (hP : P = 7 ∨ P = 31) (hR : R ≤ 6) (hn : n ≤ 20) (h : CP P R J n E w0 w3 kp nt L m g q) (hm : ∀ c : Nat, c < 58 ∨ 70 ≤ c → m0 c = m c) (hs : PSH n kd a b m0 m1) (hm2 : ∀ c : Nat, c < 58 ∨ 70 ≤ c → m2 c = m1 c) (hg : g2 72 = g 72) (hl : CL R J m2 g2 55 w) : CP P R J (kN n) (pE n E (kd, a, b)) w w3 kp nt L m2 g2 q := by
  obtain ⟨c1, c2, c3, c4, c5, c6, c7, c8, c9, c10, c11⟩ := h
  obtain ⟨s1, s2, s3, s4, s5, s6⟩ := hs
  obtain ⟨z1, z2, z3⟩ := kNS hn
  have hc : ∀ c : Nat, c < 58 ∨ (70 ≤ c ∧ c < 116) ∨ 119 < c → m2 c = m c := fun c hc => by rw [hm2 c (by omega), s1 c (by omega), hm c (by omega)]
  refine ⟨c1, c2, by rw [hc P (by omega)]; exact c3, by rw [hc (P + 5) (by omega)]; exact c4, by rw [hc 55 (by decide)]; exact c5, by rw [hm2 116 (by decide)]; exact s2, by rw [hc 120 (by decide)]; exact c7, by rw [hc 0 (by decide)]; exact c8, hl, ?_, fun k hk => ?_⟩
  · rcases c10 with z | ⟨y1, y2, y3⟩
    · exact Or.inl z
    · exact Or.inr ⟨by rw [hc 70 (by decide)]; exact y1, y2, y3.row hR (fun c c1 c2 => hc c (by omega)) hg⟩
  · rw [hm2 117 (by decide), hm2 118 (by decide), hm2 119 (by decide)]
    unfold pE
    by_cases z : k + 1 < kN n
    · rw [if_pos z, s3 117 (by decide) (by decide) k z, s3 118 (by decide) (by decide) k z, s3 119 (by decide) (by decide) k z, hm 117 (by decide), hm 118 (by decide), hm 119 (by decide)]
      exact c11 _ (by omega)
    · rw [if_neg z, show k = kN n - 1 by omega, s4, s5, s6]
