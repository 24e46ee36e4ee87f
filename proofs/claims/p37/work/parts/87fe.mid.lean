/-! Joined: 87fe.mid, 87g.rel, 87h.relkeep, 87i.does, 87j.undo, 87k.go, 87l.text, 87m.told. -/
section
/-! Behind the first call of two: all within its type. -/
/-- behind the first call of two all is within its type -/
def lckH (q1 : aQ) (ts : List aY) : Bool := match acon qW q1.2.2.2.2.1 (lE ts) lm (.inr (.inr (.inl 1)) :: lA 4 ts.length) q1 with
  | some A => A.2.2.all (fun o => lbad o.1 || lfin o)
  | none => false
theorem lmid {nf : Bool} {xs : List Int32} {q1 : aQ} {ts : List aY} {ys : List Int32} {h : zH} (c1 : aCon qW qG (zEv (zXt nf xs) zIT zmcl zMt 952) q1 (fun _ => True)) (chk : lckH q1 ts = true) (hI : lJ h) (hl : ts.length = ys.length) (hb : ∀ j : Nat, ∀ y : aY, ts[j]? = some y → y.1 = 0 ∧ y.2.1 ≤ (ys.getD j 0).toInt ∧ (ys.getD j 0).toInt ≤ y.2.2) {r1 : Option Value} {h1 : zH} (e1 : zEv (zXt nf xs) zIT zmcl zMt 952 q1.1 (.ref 0 :: ys.map Value.int) h r1 h1) : aH qW qG [0] [] h1 := by
  obtain ⟨hH, x, x1, x2⟩ := hI
  unfold lckH at chk
  split at chk
  · next A hA =>
    have hx : 0 ≤ x.toInt ∧ x.toInt ≤ 700 := by
      obtain ⟨v, g1, g2⟩ := hH.2.1 0 1 (by decide +kernel) (by decide +kernel)
      rw [qrdx (qG_off (by decide) (by decide)), x1] at g1
      cases g1
      rcases g2 with g2 | ⟨e, he, -⟩
      · have ht : apl (afm qW (asrt qW 0)) 1 = (0, 0, 700) := by decide +kernel
        rw [ht] at g2
        obtain ⟨y, y1, y2⟩ := g2
        cases y1
        exact y2
      · cases he
    have hE := lE_ok hx ys ts hl hb
    have hH1 : aH qW qG ([0, 0, 128, x.toInt] ++ ys.map Int32.toInt) lm h := by
      have m1 := aH_add (q := (1, 0, 1)) (b := .inl (3, 0)) (a := 0) (k := 1) (v := .int x) (aH_nil (ρ' := [0, 0, 128, x.toInt] ++ ys.map Int32.toInt) hH) (qden (k := 1) (c := 0) (r := 1) hE (by decide) rfl) (by decide +kernel) (by decide +kernel) (by rw [qrdx (qG_off (by decide) (by decide))]; exact x1) ⟨x, ⟨x.toInt, rfl, by rw [Int.add_zero, Int32.ofInt_toInt]⟩, rfl⟩
      exact aH_add (q := (2, 0, 2)) (b := .inl (3, 0)) (a := 128) (k := 2) (v := .int x) m1 (qden (k := 2) (c := 128) (r := 2) hE (by decide) rfl) (by decide +kernel) (by decide +kernel) (by rw [qrdx (qG_real (by decide +kernel) (by decide +kernel))]; exact x2) ⟨x, ⟨x.toInt, rfl, by rw [Int.add_zero, Int32.ofInt_toInt]⟩, rfl⟩
    have hst : aSt ([0, 0, 128, x.toInt] ++ ys.map Int32.toInt) (lA 4 ts.length) (ys.map Value.int) := by
      rw [hl]
      refine lA_st ys 4 (fun j hj => ⟨(ys.getD j 0).toInt, ?_, by rw [Int32.ofInt_toInt]⟩)
      rw [List.getElem?_append_right (by simp)]
      show (ys.map Int32.toInt)[4 + j - 4]? = _
      rw [show 4 + j - 4 = j by omega, List.getElem?_map, List.getElem?_eq_getElem hj, List.getD_eq_getElem?_getD, List.getElem?_eq_getElem hj]
      rfl
    have hs0 : aSt ([0, 0, 128, x.toInt] ++ ys.map Int32.toInt) (.inr (.inr (.inl 1)) :: lA 4 ts.length) (.ref 0 :: ys.map Value.int) := ⟨.ref 0, _, rfl, ⟨0, rfl, rfl⟩, hst⟩
    obtain ⟨r1x, h1x, g1, o, o1, ρ1, y1, y2, y3, y4, y5⟩ := acon_use (h0 := h) hA hE hH1 hs0 aF.rf c1 (fun _ _ _ _ _ => trivial)
    have chk := List.all_eq_true.mp chk o o1
    rw [Bool.or_eq_true] at chk
    rcases chk with chk | chk
    · exact (lbad_no y2 chk).elim
    · unfold lfin at chk
      rw [Bool.and_eq_true] at chk
      obtain ⟨k3, k4⟩ := chk
      obtain ⟨m', hm'⟩ := Option.isSome_iff_exists.mp k3
      obtain ⟨hK, hK2⟩ := akill_ok y2 hm' y4
      have e0 : m' = [] := by
        cases m' with
        | nil => rfl
        | cons a r => cases (hK2 a List.mem_cons_self).2
      subst e0
      obtain ⟨-, eh⟩ := zEv_same e1 g1
      rw [eh]
      exact aH_nil hK
  · cases chk
end
section
/-! Rides, images, what can be undone: what holds between the passes, of both sides. -/
/-- the class's ride at a is as the row w tells -/
def CL (R J : Nat) (m : xM) (g : xL) (a : Nat) (w : rRow) : Prop := m a 4 = w.1 ∧ m a 5 = w.2.1 ∧ (∀ p : Nat, p < R → m (a + 3 + 2 * p) 2 = w.2.2.2.1 p ∧ m (a + 3 + 2 * p) 4 = bI (bj w.2.2.1 p)) ∧ ∀ j : Nat, j < J → g (a + 2) j = w.2.2.2.2 j
/-- nothing is told beyond mile 60 -/
def HB (J : Nat) (w : rRow) : Prop := ∀ j : Nat, j < J → ∀ v : Nat, 61 ≤ v → v < 64 → bl (w.2.2.2.2 j) v = false
/-- what is undone: from the row B to the row A -/
def ST (R J : Nat) (e : Int32 × Int32 × Int32) (A B : rRow) : Prop := A.1 = B.1 ∧ A.2.1 = B.2.1 ∧ (
  (e.1 = 1 ∧ ∃ p : Nat, p < R ∧ e.2.1 = Int32.ofNat p ∧ A.2.2.2.1 = B.2.2.2.1 ∧ A.2.2.2.2 = B.2.2.2.2 ∧ ∀ q : Nat, q < R → bj A.2.2.1 q = if q = p then decide (e.2.2 = 1) else bj B.2.2.1 q) ∨
  (e.1 = 2 ∧ ∃ p : Nat, p < R ∧ e.2.1 = Int32.ofNat p ∧ A.2.2.1 = B.2.2.1 ∧ A.2.2.2.2 = B.2.2.2.2 ∧ A.2.2.2.1 = fun q => if q = p then e.2.2 else B.2.2.2.1 q) ∨
  (e.1 = 3 ∧ ∃ j : Nat, j < J ∧ e.2.1 = Int32.ofNat j ∧ ∃ u : Nat, u ≤ 60 ∧ e.2.2 = Int32.ofNat u ∧ A.2.2.1 = B.2.2.1 ∧ A.2.2.2.1 = B.2.2.2.1 ∧ A.2.2.2.2 = fun q => if q = j then flB (Int32.ofNat u) (B.2.2.2.2 q) else B.2.2.2.2 q))
/-- the class's cells -/
def CP (P R J n : Nat) (E : Nat → Int32 × Int32 × Int32) (w0 w3 : rRow) (kp nt L : Int32) (m : xM) (g : xL) (q : Nat → Nat → Option Nat) : Prop := q 0 5 = some P ∧ q 55 2 = some P ∧ m P 10 = L ∧ m (P + 5) 3 = Int32.ofNat J ∧ m 55 3 = Int32.ofNat R ∧ m 116 3 = Int32.ofNat n ∧ m 120 5 = nt ∧ m 0 11 = kp ∧ CL R J m g 55 w0 ∧ (kp = 0 ∨ (m 70 3 = Int32.ofNat R ∧ q 70 2 = some P ∧ CL R J m g 70 w3)) ∧ ∀ k : Nat, k < n → (m 117 k, m 118 k, m 119 k) = E k
/-- the reference's cells -/
def RP (R J n : Nat) (rows : Nat → rRow) (kp nt L : Int32) (m : xM) (g : xL) : Prop := m 130 0 = L ∧ m 130 1 = Int32.ofNat R ∧ m 130 2 = Int32.ofNat J ∧ m 128 54 = Int32.ofNat n ∧ m 128 67 = nt ∧ m 128 53 = kp ∧ ∀ r : Nat, (r = 0 ∨ r = 3 ∨ (4 ≤ r ∧ r < 4 + n)) → rowOf m g r = rows r
def AB (R J n : Nat) (E : Nat → Int32 × Int32 × Int32) (rows : Nat → rRow) (kp : Int32) : Prop := HB J (rows 0) ∧ (kp = 0 ∨ HB J (rows 3)) ∧ ∀ k : Nat, k < n → ST R J (E k) (rows (4 + k)) (rows (if k + 1 < n then 4 + (k + 1) else 0))
def LB (m : xM) (g : xL) (q : Nat → Nat → Option Nat) : Prop := ∃ (P R J n : Nat) (E : Nat → Int32 × Int32 × Int32) (rows : Nat → rRow) (kp nt L : Int32), (P = 7 ∨ P = 31) ∧ R ≤ 6 ∧ J ≤ 6 ∧ n ≤ 20 ∧ CP P R J n E (rows 0) (rows 3) kp nt L m g q ∧ RP R J n rows kp nt L m g ∧ AB R J n E rows kp
def lB (h : zH) : Prop := LB (gi h) (gl h) (gr h)
theorem CL.of {R J a : Nat} {m m' : xM} {g g' : xL} {w : rRow} (h : CL R J m g a w) (h4 : m' a 4 = m a 4) (h5 : m' a 5 = m a 5) (hp : ∀ p : Nat, p < R → m' (a + 3 + 2 * p) 2 = m (a + 3 + 2 * p) 2 ∧ m' (a + 3 + 2 * p) 4 = m (a + 3 + 2 * p) 4) (hg : ∀ j : Nat, j < J → g' (a + 2) j = g (a + 2) j) : CL R J m' g' a w :=
  ⟨h4.trans h.1, h5.trans h.2.1, fun p hp2 => ⟨(hp p hp2).1.trans (h.2.2.1 p hp2).1, (hp p hp2).2.trans (h.2.2.1 p hp2).2⟩, fun j hj => (hg j hj).trans (h.2.2.2 j hj)⟩
theorem CL.row {R J a : Nat} {m m' : xM} {g g' : xL} {w : rRow} (hR : R ≤ 6) (h : CL R J m g a w) (hm : ∀ c : Nat, a ≤ c → c < a + 15 → m' c = m c) (hg : g' (a + 2) = g (a + 2)) : CL R J m' g' a w :=
  h.of (by rw [hm a (by omega) (by omega)]) (by rw [hm a (by omega) (by omega)]) (fun p hp => by rw [hm (a + 3 + 2 * p) (by omega) (by omega)]; exact ⟨rfl, rfl⟩) (fun j _ => by rw [hg])
/-- the class's cells stay where the reference writes -/
theorem CP.of {P R J n : Nat} {E : Nat → Int32 × Int32 × Int32} {w0 w3 : rRow} {kp nt L : Int32} {m m' : xM} {g g' : xL} {q q' : Nat → Nat → Option Nat} (hP : P = 7 ∨ P = 31) (hR : R ≤ 6) (h : CP P R J n E w0 w3 kp nt L m g q) (hm : ∀ c : Nat, c < 128 → m' c = m c) (hg : ∀ c : Nat, c < 128 → g' c = g c) (hq : q' = q) : CP P R J n E w0 w3 kp nt L m' g' q' := by
  obtain ⟨c1, c2, c3, c4, c5, c6, c7, c8, c9, c10, c11⟩ := h
  subst hq
  refine ⟨c1, c2, by rw [hm P (by omega)]; exact c3, by rw [hm (P + 5) (by omega)]; exact c4, by rw [hm 55 (by decide)]; exact c5, by rw [hm 116 (by decide)]; exact c6, by rw [hm 120 (by decide)]; exact c7, by rw [hm 0 (by decide)]; exact c8, c9.row hR (fun c _ _ => hm c (by omega)) (hg 57 (by decide)), ?_, fun k hk => by rw [hm 117 (by decide), hm 118 (by decide), hm 119 (by decide)]; exact c11 k hk⟩
  rcases c10 with z | ⟨z1, z2, z3⟩
  · exact Or.inl z
  · exact Or.inr ⟨by rw [hm 70 (by decide)]; exact z1, z2, z3.row hR (fun c _ _ => hm c (by omega)) (hg 72 (by decide))⟩
theorem RP.of {R J n : Nat} {rows : Nat → rRow} {kp nt L : Int32} {m m' : xM} {g g' : xL} (h : RP R J n rows kp nt L m g) (hm : m' 130 = m 130) (h53 : m' 128 53 = m 128 53) (h54 : m' 128 54 = m 128 54) (h67 : m' 128 67 = m 128 67) (hr : ∀ r : Nat, (r = 0 ∨ r = 3 ∨ (4 ≤ r ∧ r < 4 + n)) → rowOf m' g' r = rowOf m g r) : RP R J n rows kp nt L m' g' := by
  obtain ⟨r1, r2, r3, r4, r5, r6, r7⟩ := h
  exact ⟨by rw [hm]; exact r1, by rw [hm]; exact r2, by rw [hm]; exact r3, h54.trans r4, h67.trans r5, h53.trans r6, fun r hr2 => (hr r hr2).trans (r7 r hr2)⟩
/-- .. where the class writes -/
theorem RP.ge {R J n : Nat} {rows : Nat → rRow} {kp nt L : Int32} {m m' : xM} {g g' : xL} (h : RP R J n rows kp nt L m g) (hm : ∀ c : Nat, 128 ≤ c → m' c = m c) (hg : g' 164 = g 164) : RP R J n rows kp nt L m' g' :=
  h.of (hm 130 (by decide)) (by rw [hm 128 (by decide)]) (by rw [hm 128 (by decide)]) (by rw [hm 128 (by decide)]) (fun r _ => rowOf_st (fun c c0 _ => hm c (by omega)) hg)
theorem RP.nw {R J n : Nat} {rows : Nat → rRow} {kp nt L : Int32} {m m' : xM} {g g' : xL} (h : RP R J n rows kp nt L m g) (hw : NW m g m' g') : RP R J n rows kp nt L m' g' :=
  h.of (hw.1 130 (by decide)) (hw.2.1 53 (by decide)) (hw.2.1 54 (by decide)) (hw.2.1 67 (by decide)) (fun r _ => rowOf_st (fun c c0 _ => hw.1 c (by omega)) (by rw [hw.2.2]))
/-- one more that can be undone -/
def pE (n : Nat) (E : Nat → Int32 × Int32 × Int32) (e : Int32 × Int32 × Int32) (k : Nat) : Int32 × Int32 × Int32 := if k + 1 < kN n then E (k + kS n) else e
def pR (n : Nat) (rows : Nat → rRow) (w : rRow) (r : Nat) : rRow := if r = 0 then w else if r < 4 then rows r else if r + 1 < 4 + kN n then rows (r + kS n) else rows 0
theorem kNS {n : Nat} (hn : n ≤ 20) : kN n + kS n = n + 1 ∧ 1 ≤ kN n ∧ kN n ≤ 20 := by
  unfold kN kS
  by_cases e : n = 20
  · rw [if_pos e, if_pos e]; omega
  · rw [if_neg e, if_neg e]; omega
theorem AB.push {R J n : Nat} {E : Nat → Int32 × Int32 × Int32} {rows : Nat → rRow} {kp : Int32} {e : Int32 × Int32 × Int32} {w : rRow} (hn : n ≤ 20) (h : AB R J n E rows kp) (hs : ST R J e (rows 0) w) (hb : HB J w) : AB R J (kN n) (pE n E e) (pR n rows w) kp := by
  obtain ⟨k1, k2, k3⟩ := kNS hn
  refine ⟨hb, h.2.1, fun k hk => ?_⟩
  unfold pE
  have e4 : pR n rows w (4 + k) = if k + 1 < kN n then rows (4 + (k + kS n)) else rows 0 := by
    unfold pR
    rw [if_neg (by omega), if_neg (by omega)]
    by_cases z : k + 1 < kN n
    · rw [if_pos z, if_pos (by omega), show 4 + k + kS n = 4 + (k + kS n) by omega]
    · rw [if_neg z, if_neg (by omega)]
  rw [e4]
  by_cases z : k + 1 < kN n
  · rw [if_pos z, if_pos z, if_pos z]
    have old := h.2.2 (k + kS n) (by omega)
    have e5 : pR n rows w (4 + (k + 1)) = rows (if k + kS n + 1 < n then 4 + (k + kS n + 1) else 0) := by
      unfold pR
      rw [if_neg (by omega), if_neg (by omega)]
      by_cases y : k + kS n + 1 < n
      · rw [if_pos (by omega), if_pos y, show 4 + (k + 1) + kS n = 4 + (k + kS n + 1) by omega]
      · rw [if_neg (by omega), if_neg y]
    rw [e5]
    exact old
  · rw [if_neg z, if_neg z, if_neg z]
    exact hs
theorem HB.undo {R J : Nat} {e : Int32 × Int32 × Int32} {A B : rRow} (hs : ST R J e A B) (hb : HB J B) : HB J A := by
  intro j hj v v1 v2
  obtain ⟨-, -, h⟩ := hs
  rcases h with ⟨-, p, -, -, -, h, -⟩ | ⟨-, p, -, -, -, h, -⟩ | ⟨-, j2, -, -, u, hu, -, -, -, h⟩
  · rw [h]; exact hb j hj v v1 v2
  · rw [h]; exact hb j hj v v1 v2
  · rw [h]
    dsimp only
    by_cases z : j = j2
    · rw [if_pos z]
      unfold flB
      rw [bl_xor, bl_one (by omega) v2, decide_eq_false (by omega), Bool.xor_false]
      exact hb j hj v v1 v2
    · rw [if_neg z]; exact hb j hj v v1 v2
theorem HB.fw {R J : Nat} {e : Int32 × Int32 × Int32} {A B : rRow} (hs : ST R J e A B) (hb : HB J A) : HB J B := by
  intro j hj v v1 v2
  obtain ⟨-, -, h⟩ := hs
  have hA := hb j hj v v1 v2
  rcases h with ⟨-, p, -, -, -, h, -⟩ | ⟨-, p, -, -, -, h, -⟩ | ⟨-, j2, -, -, u, hu, -, -, -, h⟩
  · rw [h] at hA; exact hA
  · rw [h] at hA; exact hA
  · rw [h] at hA
    dsimp only at hA
    by_cases z : j = j2
    · rw [if_pos z] at hA
      unfold flB at hA
      rw [bl_xor, bl_one (by omega) v2, decide_eq_false (by omega), Bool.xor_false] at hA
      exact hA
    · rw [if_neg z] at hA; exact hA
/-- the latest undone: the rows -/
def uR (n : Nat) (rows : Nat → rRow) (r : Nat) : rRow := if r = 0 then rows (4 + n) else rows r
theorem AB.undo {R J n : Nat} {E : Nat → Int32 × Int32 × Int32} {rows : Nat → rRow} {kp : Int32} (h : AB R J (n + 1) E rows kp) : ST R J (E n) (rows (4 + n)) (rows 0) ∧ AB R J n E (uR n rows) kp := by
  have s := h.2.2 n (by omega)
  rw [if_neg (by omega)] at s
  refine ⟨s, HB.undo s h.1, h.2.1, fun k hk => ?_⟩
  have o := h.2.2 k (by omega)
  rw [if_pos (by omega)] at o
  unfold uR
  rw [if_neg (by omega)]
  by_cases z : k + 1 < n
  · rw [if_pos z, if_neg (by omega)]; exact o
  · rw [if_neg z, if_pos rfl, show 4 + n = 4 + (k + 1) by omega]; exact o
/-- a change of the row that now is, in the reference -/
theorem row_ears {m : xM} {g : xL} {z : Int32} {r : Nat} : rowOf (xu m 155 0 z) g r = if r = 0 then ((rowOf m g 0).1, (rowOf m g 0).2.1, z, (rowOf m g 0).2.2.2) else rowOf m g r := by
  by_cases e : r = 0
  · subst e
    rw [if_pos rfl]
    unfold rowOf
    rw [xu_same, xu_row (b := 150) (by decide), xu_row (b := 151) (by decide), xu_row (b := 156) (by decide)]
  · rw [if_neg e]
    exact rowOf_eq (by rw [xu_row (by decide)]) (by rw [xu_row (by decide)]) (xu_oth (by omega)) (fun p _ => by rw [xu_row (by decide)]) (fun _ _ => rfl)
theorem row_seat {m : xM} {g : xL} {z : Int32} {r p : Nat} (hp : p < 6) : rowOf (xu m 156 p z) g r = if r = 0 then ((rowOf m g 0).1, (rowOf m g 0).2.1, (rowOf m g 0).2.2.1, (fun q => if q = p then z else (rowOf m g 0).2.2.2.1 q), (rowOf m g 0).2.2.2.2) else rowOf m g r := by
  by_cases e : r = 0
  · subst e
    rw [if_pos rfl]
    have e4 : (fun q => if q < 6 then xu m 156 p z 156 (6 * 0 + q) else 0) = (fun q => if q = p then z else (rowOf m g 0).2.2.2.1 q) := funext fun q => by
      show _ = if q = p then z else (if q < 6 then m 156 (6 * 0 + q) else 0)
      by_cases h : q = p
      · rw [if_pos h, if_pos (by omega), h, show 6 * 0 + p = p by omega, xu_same]
      · rw [if_neg h]
        by_cases h6 : q < 6
        · rw [if_pos h6, if_pos h6, xu_oth (by omega)]
        · rw [if_neg h6, if_neg h6]
    show (xu m 156 p z 150 0, xu m 156 p z 151 0, xu m 156 p z 155 0, (fun q => if q < 6 then xu m 156 p z 156 (6 * 0 + q) else 0), (fun j => if j < 6 then g 164 (6 * 0 + j) else 0)) = _
    rw [e4, xu_row (b := 150) (by decide), xu_row (b := 151) (by decide), xu_row (b := 155) (by decide)]
    rfl
  · rw [if_neg e]
    exact rowOf_eq (by rw [xu_row (by decide)]) (by rw [xu_row (by decide)]) (by rw [xu_row (by decide)]) (fun q _ => xu_oth (by omega)) (fun _ _ => rfl)
theorem row_tell {m : xM} {g : xL} {z : Int64} {r p : Nat} (hp : p < 6) : rowOf m (xu g 164 p z) r = if r = 0 then ((rowOf m g 0).1, (rowOf m g 0).2.1, (rowOf m g 0).2.2.1, (rowOf m g 0).2.2.2.1, (fun q => if q = p then z else (rowOf m g 0).2.2.2.2 q)) else rowOf m g r := by
  by_cases e : r = 0
  · subst e
    rw [if_pos rfl]
    have e4 : (fun q => if q < 6 then xu g 164 p z 164 (6 * 0 + q) else 0) = (fun q => if q = p then z else (rowOf m g 0).2.2.2.2 q) := funext fun q => by
      show _ = if q = p then z else (if q < 6 then g 164 (6 * 0 + q) else 0)
      by_cases h : q = p
      · rw [if_pos h, if_pos (by omega), h, show 6 * 0 + p = p by omega, xu_same]
      · rw [if_neg h]
        by_cases h6 : q < 6
        · rw [if_pos h6, if_pos h6, xu_oth (by omega)]
        · rw [if_neg h6, if_neg h6]
    show (m 150 0, m 151 0, m 155 0, (fun q => if q < 6 then m 156 (6 * 0 + q) else 0), (fun q => if q < 6 then xu g 164 p z 164 (6 * 0 + q) else 0)) = _
    rw [e4]
    rfl
  · rw [if_neg e]
    exact rowOf_eq rfl rfl rfl (fun _ _ => rfl) (fun q _ => xu_oth (by omega))
theorem row_at {m : xM} {g : xL} : (rowOf m g 0).1 = m 150 0 ∧ (rowOf m g 0).2.1 = m 151 0 ∧ (rowOf m g 0).2.2.1 = m 155 0 ∧ (∀ p : Nat, p < 6 → (rowOf m g 0).2.2.2.1 p = m 156 p) ∧ ∀ j : Nat, j < 6 → (rowOf m g 0).2.2.2.2 j = g 164 j := by
  refine ⟨rfl, rfl, rfl, fun p hp => ?_, fun j hj => ?_⟩
  · show (if p < 6 then m 156 (6 * 0 + p) else 0) = _
    rw [if_pos hp, show 6 * 0 + p = p by omega]
  · show (if j < 6 then g 164 (6 * 0 + j) else 0) = _
    rw [if_pos hj, show 6 * 0 + j = j by omega]
/-- the reference behind keepNow and a change of the row that now is -/
theorem RP.push {R J n : Nat} {rows : Nat → rRow} {kp nt L : Int32} {m m1 m2 : xM} {g g1 g2 : xL} {w : rRow} (hn : n ≤ 20) (h : RP R J n rows kp nt L m g) (hk : KNP n m g m1 g1) (hc : m2 128 = m1 128 ∧ m2 130 = m1 130) (h0 : rowOf m2 g2 0 = w) (hr : ∀ r : Nat, ¬ r = 0 → rowOf m2 g2 r = rowOf m1 g1 r) : RP R J (kN n) (pR n rows w) kp nt L m2 g2 := by
  obtain ⟨r1, r2, r3, r4, r5, r6, r7⟩ := h
  obtain ⟨k1, k2, k3, k4, k5, k6, k7⟩ := hk
  obtain ⟨z1, z2, z3⟩ := kNS hn
  have e130 : m2 130 = m 130 := hc.2.trans (k1 130 (by decide) (Or.inl (by decide)))
  refine ⟨by rw [e130]; exact r1, by rw [e130]; exact r2, by rw [e130]; exact r3, by rw [hc.1]; exact k4, by rw [hc.1, k2 67 (by decide)]; exact r5, by rw [hc.1, k2 53 (by decide)]; exact r6, fun r hr2 => ?_⟩
  unfold pR
  by_cases e : r = 0
  · rw [if_pos e, e]; exact h0
  · rw [if_neg e, hr r e]
    by_cases e4 : r < 4
    · rw [if_pos e4, k7 r e4]
      exact r7 r (by omega)
    · rw [if_neg e4]
      obtain ⟨k, rfl⟩ : ∃ k : Nat, r = 4 + k := ⟨r - 4, by omega⟩
      have hk : k < kN n := by omega
      by_cases z : 4 + k + 1 < 4 + kN n
      · rw [if_pos z, k5 k (by omega), show 4 + k + kS n = 4 + (k + kS n) by omega]
        exact r7 _ (by omega)
      · rw [if_neg z, show k = kN n - 1 by omega, k6]
        exact r7 0 (Or.inl rfl)
/-- the class behind a push -/
theorem CP.push {P R J n : Nat} {E : Nat → Int32 × Int32 × Int32} {w0 w3 w : rRow} {kp nt L kd a b : Int32} {m m0 m1 m2 : xM} {g g2 : xL} {q : Nat → Nat → Option Nat} (hP : P = 7 ∨ P = 31) (hR : R ≤ 6) (hn : n ≤ 20) (h : CP P R J n E w0 w3 kp nt L m g q) (hm : ∀ c : Nat, c < 58 ∨ 70 ≤ c → m0 c = m c) (hs : PSH n kd a b m0 m1) (hm2 : ∀ c : Nat, c < 58 ∨ 70 ≤ c → m2 c = m1 c) (hg : g2 72 = g 72) (hl : CL R J m2 g2 55 w) : CP P R J (kN n) (pE n E (kd, a, b)) w w3 kp nt L m2 g2 q := by
  obtain ⟨c1, c2, c3, c4, c5, c6, c7, c8, c9, c10, c11⟩ := h
  obtain ⟨s1, s2, s3, s4, s5, s6⟩ := hs
  obtain ⟨z1, z2, z3⟩ := kNS hn
  have hc : ∀ c : Nat, c < 58 ∨ (70 ≤ c ∧ c < 116) ∨ 119 < c → m2 c = m c := fun c hc => by rw [hm2 c (by omega), s1 c (by omega), hm c (by omega)]
  refine ⟨c1, c2, by rw [hc P (by omega)]; exact c3, by rw [hc (P + 5) (by omega)]; exact c4, by rw [hc 55 (by decide)]; exact c5, by rw [hm2 116 (by decide)]; exact s2, by rw [hc 120 (by decide)]; exact c7, by rw [hc 0 (by decide)]; exact c8, hl, ?_, fun k hk => ?_⟩
  · rcases c10 with z | ⟨y1, y2, y3⟩
    · exact Or.inl z
    · exact Or.inr ⟨by rw [hc 70 (by decide)]; exact y1, y2, y3.row hR (fun c c1 c2 => hc c (by omega)) hg⟩
  · rw [hm2 117 (by decide), hm2 118 (by decide), hm2 119 (by decide)]
    unfold pE
    by_cases z : k + 1 < kN n
    · rw [if_pos z, s3 117 (by decide) (by decide) k z, s3 118 (by decide) (by decide) k z, s3 119 (by decide) (by decide) k z, hm 117 (by decide), hm 118 (by decide), hm 119 (by decide)]
      exact c11 _ (by omega)
    · rw [if_neg z, show k = kN n - 1 by omega, s4, s5, s6]
end
section
/-! The relation of both sides between the passes: what a call doesn't write keeps it. -/
theorem gl_rd {h h0 : zH} {a k : Nat} (e : rd h a k = rd h0 a k) : gl h a k = gl h0 a k := by
  show xl (rd h a k) = xl (rd h0 a k)
  rw [e]
theorem gr_rd {h h0 : zH} {a k : Nat} (e : rd h a k = rd h0 a k) : gr h a k = gr h0 a k := by
  show xr (rd h a k) = xr (rd h0 a k)
  rw [e]
/-- the class's places -/
def BC : List (Nat × Nat) := [(0, 5), (0, 11), (55, 2), (55, 3), (55, 4), (55, 5), (7, 10), (31, 10), (12, 3), (36, 3), (116, 3), (120, 5), (70, 2), (70, 3), (70, 4), (70, 5)] ++ ((List.range 6).flatMap (fun p => [(58 + 2 * p, 2), (58 + 2 * p, 4), (73 + 2 * p, 2), (73 + 2 * p, 4), (57, p), (72, p)]) ++ (List.range 20).flatMap (fun k => [(117, k), (118, k), (119, k)]))
def rws : List Nat := 0 :: 3 :: (List.range 20).map (fun k => 4 + k)
/-- the reference's places -/
def BR : List (Nat × Nat) := [(128, 53), (128, 54), (128, 67), (130, 0), (130, 1), (130, 2)] ++ rws.flatMap (fun r => [(150, r), (151, r), (155, r)] ++ (List.range 6).flatMap (fun p => [(156, 6 * r + p), (164, 6 * r + p)]))
theorem BC_in : BC.all (fun t => inW t.1 t.2) = true := by decide +kernel
theorem BR_in : BR.all (fun t => inW t.1 t.2) = true := by decide +kernel
/-- places that a list of places holds -/
def inB (L : List (Nat × Nat)) (a k : Nat) : Bool := L.any (fun e => Nat.beq e.1 a && Nat.beq e.2 k)
theorem inB_ok {L : List (Nat × Nat)} {a k : Nat} (h : inB L a k = true) : (a, k) ∈ L := by
  obtain ⟨⟨e1, e2⟩, he, q⟩ := List.any_eq_true.mp h
  rw [Bool.and_eq_true] at q
  have q1 : e1 = a := Nat.eq_of_beq_eq_true q.1
  have q2 : e2 = k := Nat.eq_of_beq_eq_true q.2
  rw [← q1, ← q2]
  exact he
def xpB (L : List (Nat × Nat)) : Bool := (List.range 6).all (fun p => inB L (55 + 3 + 2 * p) 2 && (inB L (55 + 3 + 2 * p) 4 && (inB L (70 + 3 + 2 * p) 2 && (inB L (70 + 3 + 2 * p) 4 && (inB L (55 + 2) p && inB L (70 + 2) p)))))
theorem xpB_ok {L : List (Nat × Nat)} (h : xpB L = true) : ∀ p : Nat, p < 6 → (55 + 3 + 2 * p, 2) ∈ L ∧ (55 + 3 + 2 * p, 4) ∈ L ∧ (70 + 3 + 2 * p, 2) ∈ L ∧ (70 + 3 + 2 * p, 4) ∈ L ∧ (55 + 2, p) ∈ L ∧ (70 + 2, p) ∈ L := fun p hp => by
  have q := List.all_eq_true.mp h p (List.mem_range.mpr hp)
  simp only [Bool.and_eq_true] at q
  exact ⟨inB_ok q.1, inB_ok q.2.1, inB_ok q.2.2.1, inB_ok q.2.2.2.1, inB_ok q.2.2.2.2.1, inB_ok q.2.2.2.2.2⟩
def xkB (L : List (Nat × Nat)) : Bool := (List.range 20).all (fun k => inB L 117 k && (inB L 118 k && inB L 119 k))
theorem xkB_ok {L : List (Nat × Nat)} (h : xkB L = true) : ∀ k : Nat, k < 20 → (117, k) ∈ L ∧ (118, k) ∈ L ∧ (119, k) ∈ L := fun k hk => by
  have q := List.all_eq_true.mp h k (List.mem_range.mpr hk)
  simp only [Bool.and_eq_true] at q
  exact ⟨inB_ok q.1, inB_ok q.2.1, inB_ok q.2.2⟩
def xrB (L : List (Nat × Nat)) : Bool := (List.range 24).all (fun r => (Nat.beq r 1 || Nat.beq r 2) || (inB L 150 r && (inB L 151 r && inB L 155 r)))
theorem xrB_ok {L : List (Nat × Nat)} (h : xrB L = true) : ∀ r : Nat, r < 24 → (r = 0 ∨ 3 ≤ r) → (150, r) ∈ L ∧ (151, r) ∈ L ∧ (155, r) ∈ L := fun r hr h0 => by
  have q := List.all_eq_true.mp h r (List.mem_range.mpr hr)
  simp only [Bool.and_eq_true, Bool.or_eq_true] at q
  rcases q with (z | z) | q
  · have := Nat.eq_of_beq_eq_true z; omega
  · have := Nat.eq_of_beq_eq_true z; omega
  · exact ⟨inB_ok q.1, inB_ok q.2.1, inB_ok q.2.2⟩
def x5B (L : List (Nat × Nat)) : Bool := (List.range 24).all (fun r => (Nat.beq r 1 || Nat.beq r 2) || inB L 155 r)
theorem x5B_ok {L : List (Nat × Nat)} (h : x5B L = true) : ∀ r : Nat, r < 24 → (r = 0 ∨ 3 ≤ r) → (155, r) ∈ L := fun r hr h0 => by
  have q := List.all_eq_true.mp h r (List.mem_range.mpr hr)
  simp only [Bool.or_eq_true] at q
  rcases q with (z | z) | q
  · have := Nat.eq_of_beq_eq_true z; omega
  · have := Nat.eq_of_beq_eq_true z; omega
  · exact inB_ok q
def xgB (L : List (Nat × Nat)) : Bool := (List.range 21).all (fun k => inB L 150 (3 + k) && inB L 151 (3 + k))
theorem xgB_ok {L : List (Nat × Nat)} (h : xgB L = true) : ∀ r : Nat, r < 24 → 3 ≤ r → (150, r) ∈ L ∧ (151, r) ∈ L := fun r hr h0 => by
  have q := List.all_eq_true.mp h (r - 3) (List.mem_range.mpr (by omega))
  simp only [Bool.and_eq_true] at q
  rw [show 3 + (r - 3) = r by omega] at q
  exact ⟨inB_ok q.1, inB_ok q.2⟩
def xqB (L : List (Nat × Nat)) : Bool := (List.range 24).all (fun r => (Nat.beq r 1 || Nat.beq r 2) || (List.range 6).all (fun p => inB L 156 (6 * r + p) && inB L 164 (6 * r + p)))
theorem xqB_ok {L : List (Nat × Nat)} (h : xqB L = true) : ∀ r : Nat, r < 24 → (r = 0 ∨ 3 ≤ r) → ∀ p : Nat, p < 6 → (156, 6 * r + p) ∈ L ∧ (164, 6 * r + p) ∈ L := fun r hr h0 p hp => by
  have q := List.all_eq_true.mp h r (List.mem_range.mpr hr)
  rw [Bool.or_eq_true, Bool.or_eq_true] at q
  rcases q with (z | z) | q
  · have := Nat.eq_of_beq_eq_true z; omega
  · have := Nat.eq_of_beq_eq_true z; omega
  · have q := List.all_eq_true.mp q p (List.mem_range.mpr hp)
    simp only [Bool.and_eq_true] at q
    exact ⟨inB_ok q.1, inB_ok q.2⟩
theorem BC_p : ∀ p : Nat, p < 6 → (55 + 3 + 2 * p, 2) ∈ BC ∧ (55 + 3 + 2 * p, 4) ∈ BC ∧ (70 + 3 + 2 * p, 2) ∈ BC ∧ (70 + 3 + 2 * p, 4) ∈ BC ∧ (55 + 2, p) ∈ BC ∧ (70 + 2, p) ∈ BC := xpB_ok (by decide +kernel)
theorem BC_k : ∀ k : Nat, k < 20 → (117, k) ∈ BC ∧ (118, k) ∈ BC ∧ (119, k) ∈ BC := xkB_ok (by decide +kernel)
theorem BR_r : ∀ r : Nat, r < 24 → (r = 0 ∨ 3 ≤ r) → (150, r) ∈ BR ∧ (151, r) ∈ BR ∧ (155, r) ∈ BR := xrB_ok (by decide +kernel)
theorem BR_p : ∀ r : Nat, r < 24 → (r = 0 ∨ 3 ≤ r) → ∀ p : Nat, p < 6 → (156, 6 * r + p) ∈ BR ∧ (164, 6 * r + p) ∈ BR := xqB_ok (by decide +kernel)
theorem CP.st {P R J n : Nat} {E : Nat → Int32 × Int32 × Int32} {w0 w3 : rRow} {kp nt L : Int32} {h h0 : zH} (hP : P = 7 ∨ P = 31) (hR : R ≤ 6) (hJ : J ≤ 6) (hn : n ≤ 20) (hC : CP P R J n E w0 w3 kp nt L (gi h0) (gl h0) (gr h0)) (e : ∀ t ∈ BC, rd h t.1 t.2 = rd h0 t.1 t.2) : CP P R J n E w0 w3 kp nt L (gi h) (gl h) (gr h) := by
  obtain ⟨c1, c2, c3, c4, c5, c6, c7, c8, c9, c10, c11⟩ := hC
  have i : ∀ a k : Nat, (a, k) ∈ BC → gi h a k = gi h0 a k := fun a k m => gi_rd (e (a, k) m)
  have jl : ∀ a k : Nat, (a, k) ∈ BC → gl h a k = gl h0 a k := fun a k m => gl_rd (e (a, k) m)
  have jr : ∀ a k : Nat, (a, k) ∈ BC → gr h a k = gr h0 a k := fun a k m => gr_rd (e (a, k) m)
  refine ⟨(jr 0 5 (by decide +kernel)).trans c1, (jr 55 2 (by decide +kernel)).trans c2, ?_, ?_, (i 55 3 (by decide +kernel)).trans c5, (i 116 3 (by decide +kernel)).trans c6, (i 120 5 (by decide +kernel)).trans c7, (i 0 11 (by decide +kernel)).trans c8, c9.of (i 55 4 (by decide +kernel)) (i 55 5 (by decide +kernel)) (fun p hp => ⟨i _ 2 (BC_p p (by omega)).1, i _ 4 (BC_p p (by omega)).2.1⟩) (fun j hj => jl _ j (BC_p j (by omega)).2.2.2.2.1), ?_, fun k hk => ?_⟩
  · rcases hP with rfl | rfl
    · exact (i 7 10 (by decide +kernel)).trans c3
    · exact (i 31 10 (by decide +kernel)).trans c3
  · rcases hP with rfl | rfl
    · exact (i 12 3 (by decide +kernel)).trans c4
    · exact (i 36 3 (by decide +kernel)).trans c4
  · rcases c10 with z | ⟨z1, z2, z3⟩
    · exact Or.inl z
    · exact Or.inr ⟨(i 70 3 (by decide +kernel)).trans z1, (jr 70 2 (by decide +kernel)).trans z2, z3.of (i 70 4 (by decide +kernel)) (i 70 5 (by decide +kernel)) (fun p hp => ⟨i _ 2 (BC_p p (by omega)).2.2.1, i _ 4 (BC_p p (by omega)).2.2.2.1⟩) (fun j hj => jl _ j (BC_p j (by omega)).2.2.2.2.2)⟩
  · obtain ⟨m1, m2, m3⟩ := BC_k k (by omega)
    rw [i 117 k m1, i 118 k m2, i 119 k m3]
    exact c11 k hk
theorem RP.st {R J n : Nat} {rows : Nat → rRow} {kp nt L : Int32} {h h0 : zH} (hn : n ≤ 20) (hr : RP R J n rows kp nt L (gi h0) (gl h0)) (e : ∀ t ∈ BR, rd h t.1 t.2 = rd h0 t.1 t.2) : RP R J n rows kp nt L (gi h) (gl h) := by
  obtain ⟨r1, r2, r3, r4, r5, r6, r7⟩ := hr
  have i : ∀ a k : Nat, (a, k) ∈ BR → gi h a k = gi h0 a k := fun a k m => gi_rd (e (a, k) m)
  have jl : ∀ a k : Nat, (a, k) ∈ BR → gl h a k = gl h0 a k := fun a k m => gl_rd (e (a, k) m)
  refine ⟨(i 130 0 (by decide +kernel)).trans r1, (i 130 1 (by decide +kernel)).trans r2, (i 130 2 (by decide +kernel)).trans r3, (i 128 54 (by decide +kernel)).trans r4, (i 128 67 (by decide +kernel)).trans r5, (i 128 53 (by decide +kernel)).trans r6, fun r hr => ?_⟩
  obtain ⟨z1, z2, z3⟩ := BR_r r (by omega) (by omega)
  exact (rowOf_eq (i 150 r z1) (i 151 r z2) (i 155 r z3) (fun p hp => i 156 _ (BR_p r (by omega) (by omega) p hp).1) (fun p hp => jl 164 _ (BR_p r (by omega) (by omega) p hp).2)).trans (r7 r hr)
def kBC (M : List aD) : Bool := BC.all (fun t => kf M t.1 t.2)
def kBR (M : List aD) : Bool := BR.all (fun t => kf M t.1 t.2)
theorem KP.bc {M : List aD} {h0 h : zH} (hp : KP M h0 h) (hk : kBC M = true) : ∀ t ∈ BC, rd h t.1 t.2 = rd h0 t.1 t.2 := fun t ht => hp.pl (List.all_eq_true.mp BC_in t ht) (List.all_eq_true.mp hk t ht)
theorem KP.br {M : List aD} {h0 h : zH} (hp : KP M h0 h) (hk : kBR M = true) : ∀ t ∈ BR, rd h t.1 t.2 = rd h0 t.1 t.2 := fun t ht => hp.pl (List.all_eq_true.mp BR_in t ht) (List.all_eq_true.mp hk t ht)
theorem lB_keep {M : List aD} {h0 h : zH} (hB : lB h0) (hp : KP M h0 h) (hk : (kBC M && kBR M) = true) : lB h := by
  rw [Bool.and_eq_true] at hk
  obtain ⟨P, R, J, n, E, rows, kp, nt, L, hP, hR, hJ, hn, hC, hr, hA⟩ := hB
  exact ⟨P, R, J, n, E, rows, kp, nt, L, hP, hR, hJ, hn, hC.st hP hR hJ hn (hp.bc hk.1), hr.st hn (hp.br hk.2), hA⟩
theorem lB_junk {h : zH} (k : Nat) (hl : 176 ≤ h.length) (hB : lB h) (hr : ∀ a j : Nat, a < h.length → rd (h ++ List.replicate k zjunk) a j = rd h a j) : lB (h ++ List.replicate k zjunk) := by
  have hW : qW.1.length = 176 := by decide +kernel
  obtain ⟨P, R, J, n, E, rows, kp, nt, L, hP, hR, hJ, hn, hC, hRr, hA⟩ := hB
  refine ⟨P, R, J, n, E, rows, kp, nt, L, hP, hR, hJ, hn, hC.st hP hR hJ hn (fun t ht => ?_), hRr.st hn (fun t ht => ?_), hA⟩
  · have := (inW_ok (List.all_eq_true.mp BC_in t ht)).1
    exact hr _ _ (by omega)
  · have := (inW_ok (List.all_eq_true.mp BR_in t ht)).1
    exact hr _ _ (by omega)
theorem lNs_of {h : zH} (hB : lB h) : lNs h := by
  obtain ⟨P, R, J, n, E, rows, kp, nt, L, hP, hR, hJ, hn, ⟨c1, c2, c3, c4, c5, c6, c7, c8, c9, c10, c11⟩, ⟨r1, r2, r3, r4, r5, r6, r7⟩, hA⟩ := hB
  refine ⟨c5.trans r2.symm, ?_, c7.trans r5.symm⟩
  rcases c10 with z | ⟨z, -, -⟩
  · exact Or.inl (c8.trans z)
  · exact Or.inr (z.trans c5.symm)
def lQ (h : zH) : Prop := lX h ∧ lB h
def lInq (h : zH) : Prop := lJ h ∧ lQ h
def xkq (M : List aD) : Bool := xk M && (kBC M && kBR M)
theorem lQ_keep {M : List aD} {h0 h : zH} (hX : lQ h0) (hT : KT h) (hp : KP M h0 h) (hk : xkq M = true) : lQ h := by
  unfold xkq at hk
  rw [Bool.and_eq_true] at hk
  exact ⟨lX_keep hX.1 hT hp hk.1, lB_keep hX.2 hp hk.2⟩
theorem lQ_junk {h : zH} (k : Nat) (hl : 176 ≤ h.length) (hX : lQ h) (hr : ∀ a j : Nat, a < h.length → rd (h ++ List.replicate k zjunk) a j = rd h a j) : lQ (h ++ List.replicate k zjunk) := ⟨lX_junk k hl hX.1 hr, lB_junk k hl hX.2 hr⟩
def lckq (q1 q2 : aQ) (ts : List aY) (e : Option aV → Option aV → List aY → Bool) : Bool := lck q1 q2 ts e && (xkq q1.2.2.2.2.1 && xkq q2.2.2.2.2.1)
theorem xkq_x {M : List aD} (h : xkq M = true) : xk M = true := by
  unfold xkq at h
  rw [Bool.and_eq_true] at h
  exact h.1
theorem ltwoq {nf : Bool} {xs : List Int32} {q1 q2 : aQ} {ts : List aY} {e : Option aV → Option aV → List aY → Bool} {ys : List Int32} {h : zH} (c1 : aCon qW qG (zEv (zXt nf xs) zIT zmcl zMt 952) q1 (fun _ => True)) (c2 : aCon qW qG (zEv (zXt nf xs) zIT zmcl zMt 952) q2 (fun _ => True)) (chk : lckq q1 q2 ts e = true) (hI : lInq h) (hl : ts.length = ys.length) (hb : ∀ j : Nat, ∀ y : aY, ts[j]? = some y → y.1 = 0 ∧ y.2.1 ≤ (ys.getD j 0).toInt ∧ (ys.getD j 0).toInt ≤ y.2.2) : ∃ (r1 : Option Value) (h1 : zH) (r2 : Option Value) (h2 : zH), zEv (zXt nf xs) zIT zmcl zMt 952 q1.1 (.ref 0 :: ys.map Value.int) h r1 h1 ∧ zEv (zXt nf xs) zIT zmcl zMt 952 q2.1 (.ref 128 :: ys.map Value.int) h1 r2 h2 ∧ aSh qW h1 ∧ (lQ h1 ∧ FM0 (gi h) (gi h1)) ∧ lInq h2 ∧ h1.length = h.length ∧ h2.length = h.length ∧ ∃ (E : List aY) (ρ : List Int) (a b : Option aV), aE qW E ρ ∧ arv ρ a r1 ∧ arv ρ b r2 ∧ e a b E = true := by
  unfold lckq at chk
  rw [Bool.and_eq_true, Bool.and_eq_true] at chk
  obtain ⟨r1, h1, r2, h2, e1, e2, s1, j2, l1, l2, k1, k2, w⟩ := ltwoB c1 c2 chk.1 hI.1 hl hb
  have t1 := zEv_KT _ _ _ _ _ _ e1 hI.2.1.1
  have t2 := zEv_KT _ _ _ _ _ _ e2 t1
  have y1 := lQ_keep hI.2 t1 k1 chk.2.1
  exact ⟨r1, h1, r2, h2, e1, e2, s1, ⟨y1, k1.fm (xkr_of (xkq_x chk.2.1))⟩, ⟨j2, lQ_keep y1 t2 k2 chk.2.2⟩, l1, l2, w⟩
theorem lB_mk {h1 h2 : zH} {P R J n : Nat} {E : Nat → Int32 × Int32 × Int32} {rows : Nat → rRow} {kp nt L : Int32} (hP : P = 7 ∨ P = 31) (hR : R ≤ 6) (hJ : J ≤ 6) (hn : n ≤ 20) (hC : CP P R J n E (rows 0) (rows 3) kp nt L (gi h1) (gl h1) (gr h1)) (e : ∀ t ∈ BC, rd h2 t.1 t.2 = rd h1 t.1 t.2) (hr : RP R J n rows kp nt L (gi h2) (gl h2)) (hA : AB R J n E rows kp) : lB h2 := ⟨P, R, J, n, E, rows, kp, nt, L, hP, hR, hJ, hn, hC.st hP hR hJ hn e, hr, hA⟩
end
section
/-! ears, seat, tell of both sides, between the passes. -/
theorem bj_0 (i : Nat) : bj 0 i = false := BitVec.getLsbD_zero
theorem bj_xor (x y : Int32) (i : Nat) : bj (x ^^^ y) i = Bool.xor (bj x i) (bj y i) := by unfold bj; rw [Int32.toBitVec_xor, BitVec.getLsbD_xor]
theorem bj_one {j k : Nat} (hj : j < 32) (hk : k < 32) : bj ((1 : Int32) <<< (Int32.ofNat j &&& 31)) k = decide (j = k) := by
  have h := bj_set (x := 0) hj hk
  rwa [bj_or, bj_0, Bool.false_or, Bool.false_or] at h
/-- bit p of x is the other one -/
def fjB (p : Nat) (x : Int32) : Int32 := x ^^^ ((1 : Int32) <<< (Int32.ofNat p &&& 31))
theorem bj_fj {x : Int32} {p q : Nat} (hp : p < 32) (hq : q < 32) : bj (fjB p x) q = if q = p then !bj x p else bj x q := by
  unfold fjB
  rw [bj_xor, bj_one hp hq]
  by_cases e : q = p
  · rw [if_pos e, e, decide_eq_true rfl]; cases bj x p <;> rfl
  · rw [if_neg e, decide_eq_false (fun z => e z.symm), Bool.xor_false]
theorem bl_fl {x : Int64} {p q : Nat} (hp : p < 64) (hq : q < 64) : bl (flB (Int32.ofNat p) x) q = if q = p then !bl x p else bl x q := by
  unfold flB
  rw [bl_xor, bl_one hp hq]
  by_cases e : q = p
  · rw [if_pos e, e, decide_eq_true rfl]; cases bl x p <;> rfl
  · rw [if_neg e, decide_eq_false (fun z => e z.symm), Bool.xor_false]
theorem fl_fl {x : Int64} {p : Nat} (hp : p < 64) : flB (Int32.ofNat p) (flB (Int32.ofNat p) x) = x := by
  refine bl_ext (fun i hi => ?_)
  rw [bl_fl hp hi]
  by_cases e : i = p
  · rw [if_pos e, bl_fl hp hp, if_pos rfl, e, Bool.not_not]
  · rw [if_neg e, bl_fl hp hi, if_neg e]
/-- not this 0 or 1: the other one -/
theorem bI_ne {b : Bool} {y : Int32} (hy : y = 0 ∨ y = 1) (h : ¬ bI b = y) : bI (!b) = y ∧ b = decide ((if y = 0 then (1 : Int32) else 0) = 1) := by
  rcases hy with rfl | rfl <;> cases b
  · exact absurd rfl h
  · exact ⟨rfl, rfl⟩
  · exact ⟨rfl, rfl⟩
  · exact absurd rfl h
theorem mlV_1 {v : Nat} (hv : v ≤ 60) : mlV (Int32.ofNat v) = 1 := by
  have qv : (Int32.ofNat v).toInt = (v : Int) := xn_int (by omega)
  unfold mlV
  rw [if_neg (by omega), if_neg (by omega)]
theorem gsX {h : zH} {a : Nat} (hS : aSh qW h) (hc : (Nat.blt a qW.1.length && (Nat.beq (afm qW (asrt qW a)).1 0 && Nat.beq ([0, 1, 1, 2, 3].getD (afm qW (asrt qW a)).2.1 9) 1)) = true) : ∃ L : Nat, gs h a = (0, 1, L) := by
  rw [Bool.and_eq_true, Bool.and_eq_true] at hc
  refine ⟨(afm qW (asrt qW a)).2.2.1, ?_⟩
  rw [gs_of hS (Nat.le_of_ble_eq_true hc.1 : a < qW.1.length), Nat.eq_of_beq_eq_true hc.2.1, Nat.eq_of_beq_eq_true hc.2.2]
def gsk (a : Nat) : Bool := Nat.blt a qW.1.length && (Nat.beq (afm qW (asrt qW a)).1 0 && Nat.beq ([0, 1, 1, 2, 3].getD (afm qW (asrt qW a)).2.1 9) 1)
theorem gsk_ok : (List.range 14).all (fun j => gsk (150 + j)) = true ∧ (List.range 3).all (fun j => gsk (117 + j)) = true := by decide +kernel
theorem gu_of {h : zH} (hS : aSh qW h) (hr : ∀ t ∈ rfs, rd h t.1 t.2.1 = some (.ref t.2.2)) : GU (gr h, gs h) := by
  refine ⟨rf_of hr (by decide +kernel), rf_of hr (by decide +kernel), rf_of hr (by decide +kernel), fun c c1 c2 => ?_⟩
  have z := List.all_eq_true.mp gsk_ok.2 (c - 117) (List.mem_range.mpr (by omega))
  rw [show 117 + (c - 117) = c by omega] at z
  exact gsX hS z
theorem gw_of {h : zH} (hS : aSh qW h) (hr : ∀ t ∈ rfs, rd h t.1 t.2.1 = some (.ref t.2.2)) : GW (gr h, gs h) := by
  refine ⟨fun k k1 k2 => (gt_of hS hr).2.1 k k1 k2, fun c c1 c2 => ?_⟩
  have z := List.all_eq_true.mp gsk_ok.1 (c - 150) (List.mem_range.mpr (by omega))
  rw [show 150 + (c - 150) = c by omega] at z
  exact gsX hS z
theorem pR0 {n : Nat} {rows : Nat → rRow} {w : rRow} : pR n rows w 0 = w := if_pos rfl
theorem pR3 {n : Nat} {rows : Nat → rRow} {w : rRow} : pR n rows w 3 = rows 3 := by
  unfold pR
  rw [if_neg (by decide), if_pos (by decide)]
theorem nw0 {m : xM} {g : xL} : NW m g (xu m 128 0 0) g := ⟨fun c hc => xu_row hc, fun k hk => xu_oth (by omega), rfl⟩
theorem ears_pair {nf : Bool} {xs : List Int32} {d : Nat} {h h1 h2 : zH} {r1 r2 : Option Value} {x y : Int32} {M1 M2 : List aD} (hI : lInq h) (hy : y = 0 ∨ y = 1) (e1 : zEv (zXt nf xs) zIT zmcl zMt d 114 [.ref 0, .int x, .int y] h r1 h1) (e2 : zEv (zXt nf xs) zIT zmcl zMt d 225 [.ref 128, .int x, .int y] h1 r2 h2) (S1 : aSh qW h1) (k1 : KP M1 h h1) (k2 : KP M2 h1 h2) (q1 : xk M1 = true) (q2 : xk M2 = true) (q3 : kBR M1 = true) (q4 : kBC M2 = true) : r1 = r2 ∧ lQ h2 := by
  obtain ⟨hJ, hX, P, R, J, n, E, rows, kp, nt, L, hP, hR, hJ6, hn, hC, hRr, hA⟩ := hI
  have t1 := zEv_KT _ _ _ _ _ _ e1 hX.1
  have t2 := zEv_KT _ _ _ _ _ _ e2 t1
  have y1 := lX_keep hX t1 k1 q1
  have y2 := lX_keep y1 t2 k2 q2
  have x2 := hX.2.1.2.1
  have hr1 := y1.2.1.2.1
  have R1 := hRr.st hn (k1.br q3)
  obtain ⟨n1, g1, hs1, eg, c1⟩ := ct_earsC (R := R) (n := n) (rf_of x2 (by decide +kernel)) (rf_of x2 (by decide +kernel)) (gq_of (Or.inl rfl) hJ.1.1 x2) (gu_of hJ.1.1 x2) hC.2.2.2.2.1 hR hn hC.2.2.2.2.2.1 h r1 h1 (HS_of hX.1) e1
  obtain ⟨n2, g2, hs2, c2⟩ := ct_earsR (R := R) (n := n) (gw_of S1 hr1) (rf_of hr1 (by decide +kernel)) (gsR S1 (by decide +kernel)) R1.2.1 hR hn R1.2.2.2.1 h1 r2 h2 (HS_of t1) e2
  have em1 : gi h1 = n1 := hs1.2.1
  have el1 : gl h1 = g1 := hs1.2.2.1
  have er1 : gr h1 = gr h := hs1.2.2.2.1
  have em2 : gi h2 = n2 := hs2.2.1
  have el2 : gl h2 = g2 := hs2.2.2.1
  have b0 : rowOf (gi h1) (gl h1) 0 = rows 0 := R1.2.2.2.2.2.2 0 (Or.inl rfl)
  have b155 : gi h1 155 0 = (rows 0).2.2.1 := congrArg (fun w => w.2.2.1) b0
  have hL := hC.2.2.2.2.2.2.2.2.1
  have same : n1 = gi h → NW (gi h1) (gl h1) n2 g2 → lB h2 := fun s u => lB_mk (h1 := h1) hP hR hJ6 hn (by rw [em1, s, el1, eg, er1]; exact hC) (k2.bc q4) (by rw [em2, el2]; exact R1.nw u) hA
  rcases c1 with ⟨z1, z2, z3⟩ | ⟨p, hp, hx, c1⟩
  · rcases c2 with ⟨w1, w2, w3⟩ | ⟨p, hp, hx, -⟩
    · exact ⟨z2.trans w2.symm, y2, same z3 w3⟩
    · rw [hx, rdV_1 hp hR] at z1
      exact absurd z1 (by decide)
  · rcases c2 with ⟨w1, -, -⟩ | ⟨p', hp', hx', c2⟩
    · rw [hx, rdV_1 hp hR] at w1
      exact absurd w1 (by decide)
    · have ep : p' = p := xn_inj (by omega) (by omega) (hx'.symm.trans hx)
      rw [ep] at c2
      have bit : gi h (55 + 3 + 2 * p) 4 = bI (bj (rows 0).2.2.1 p) := (hL.2.2.1 p hp).2
      rw [b155] at c2
      rcases c1 with ⟨s1, s2, s3⟩ | ⟨s1, s2, s3⟩
      · rcases c2 with ⟨u1, u2, u3⟩ | ⟨u1, -, -⟩
        · exact ⟨s2.trans u2.symm, y2, same s3 u3⟩
        · exact absurd (bit.symm.trans s1) u1
      · rcases c2 with ⟨u1, -, -⟩ | ⟨u1, u2, m1, u3, u4⟩
        · exact absurd (bit.trans u1) s1
        · obtain ⟨v1, v2⟩ := bI_ne hy u1
          let w : rRow := ((rows 0).1, (rows 0).2.1, fjB p (rows 0).2.2.1, (rows 0).2.2.2)
          have hS : ST R J (1, Int32.ofNat p, if y = 0 then 1 else 0) (rows 0) w := by
            refine ⟨rfl, rfl, Or.inl ⟨rfl, p, hp, rfl, rfl, rfl, fun q hq => ?_⟩⟩
            show bj (rows 0).2.2.1 q = if q = p then decide ((if y = 0 then (1 : Int32) else 0) = 1) else bj (fjB p (rows 0).2.2.1) q
            by_cases e : q = p
            · rw [if_pos e, e, ← v2]
            · rw [if_neg e, bj_fj (by omega) (by omega), if_neg e]
          have hl : CL R J n1 (gl h) 55 w := by
            obtain ⟨l1, l2, l3, l4⟩ := hL
            have f : ∀ c : Nat, c < 58 ∨ 70 ≤ c → c < 116 → n1 c = gi h c := fun c hc hc2 => (s3.1 c (Or.inl hc2)).trans (xu_row (by omega))
            refine ⟨by rw [f 55 (by decide) (by decide)]; exact l1, by rw [f 55 (by decide) (by decide)]; exact l2, fun q hq => ?_, l4⟩
            rw [s3.1 (55 + 3 + 2 * q) (Or.inl (by omega))]
            refine ⟨(xu_oth (by omega)).trans (l3 q hq).1, ?_⟩
            show _ = bI (bj (fjB p (rows 0).2.2.1) q)
            rw [bj_fj (by omega) (by omega)]
            by_cases e : q = p
            · rw [if_pos e, e, xu_same, v1]
            · rw [if_neg e, xu_oth (by omega)]
              exact (l3 q hq).2
          have C1 := hC.push (m0 := xu (gi h) (55 + 3 + 2 * p) 4 y) (m1 := n1) (m2 := n1) (g2 := gl h) hP hR hn (fun c hc => xu_row (by omega)) s3 (fun _ _ => rfl) rfl hl
          have R1x := R1.nw nw0
          have e0 : rowOf m1 g2 0 = rows 0 := (u3.2.2.2.2.2.2 0 (by decide)).trans (R1x.2.2.2.2.2.2 0 (Or.inl rfl))
          have e1x : m1 155 0 = (rows 0).2.2.1 := congrArg (fun w => w.2.2.1) e0
          have R2 := R1x.push (m2 := n2) (g2 := g2) (w := w) hn u3 ⟨by rw [u4]; exact xu_row (by decide), by rw [u4]; exact xu_row (by decide)⟩ (by rw [u4, row_ears, if_pos rfl, e0, e1x] <;> rfl) (fun r hr => by rw [u4, row_ears, if_neg hr])
          exact ⟨s2.trans u2.symm, y2, lB_mk (h1 := h1) (rows := pR n rows w) hP hR hJ6 (kNS hn).2.2 (by rw [pR0, pR3, em1, el1, eg, er1]; exact C1) (k2.bc q4) (by rw [em2, el2]; exact R2) (hA.push hn hS (HB.fw hS hA.1))⟩
theorem seat_pair {nf : Bool} {xs : List Int32} {d : Nat} {h h1 h2 : zH} {r1 r2 : Option Value} {x y : Int32} {M1 M2 : List aD} (hI : lInq h) (e1 : zEv (zXt nf xs) zIT zmcl zMt d 115 [.ref 0, .int x, .int y] h r1 h1) (e2 : zEv (zXt nf xs) zIT zmcl zMt d 226 [.ref 128, .int x, .int y] h1 r2 h2) (S1 : aSh qW h1) (k1 : KP M1 h h1) (k2 : KP M2 h1 h2) (q1 : xk M1 = true) (q2 : xk M2 = true) (q3 : kBR M1 = true) (q4 : kBC M2 = true) : r1 = r2 ∧ lQ h2 := by
  obtain ⟨hJ, hX, P, R, J, n, E, rows, kp, nt, L, hP, hR, hJ6, hn, hC, hRr, hA⟩ := hI
  have t1 := zEv_KT _ _ _ _ _ _ e1 hX.1
  have t2 := zEv_KT _ _ _ _ _ _ e2 t1
  have y1 := lX_keep hX t1 k1 q1
  have y2 := lX_keep y1 t2 k2 q2
  have x2 := hX.2.1.2.1
  have hr1 := y1.2.1.2.1
  have R1 := hRr.st hn (k1.br q3)
  obtain ⟨n1, g1, hs1, eg, c1⟩ := ct_seatC (R := R) (n := n) (rf_of x2 (by decide +kernel)) (rf_of x2 (by decide +kernel)) (gq_of (Or.inl rfl) hJ.1.1 x2) (gu_of hJ.1.1 x2) hC.2.2.2.2.1 hR hn hC.2.2.2.2.2.1 h r1 h1 (HS_of hX.1) e1
  obtain ⟨n2, g2, hs2, c2⟩ := ct_seatR (R := R) (n := n) (gw_of S1 hr1) (rf_of hr1 (by decide +kernel)) (gsR S1 (by decide +kernel)) R1.2.1 hR hn R1.2.2.2.1 h1 r2 h2 (HS_of t1) e2
  have em1 : gi h1 = n1 := hs1.2.1
  have el1 : gl h1 = g1 := hs1.2.2.1
  have er1 : gr h1 = gr h := hs1.2.2.2.1
  have em2 : gi h2 = n2 := hs2.2.1
  have el2 : gl h2 = g2 := hs2.2.2.1
  have b0 : rowOf (gi h1) (gl h1) 0 = rows 0 := R1.2.2.2.2.2.2 0 (Or.inl rfl)
  have hL := hC.2.2.2.2.2.2.2.2.1
  have same : n1 = gi h → NW (gi h1) (gl h1) n2 g2 → lB h2 := fun s u => lB_mk (h1 := h1) hP hR hJ6 hn (by rw [em1, s, el1, eg, er1]; exact hC) (k2.bc q4) (by rw [em2, el2]; exact R1.nw u) hA
  rcases c1 with ⟨z1, z2, z3⟩ | ⟨p, hp, hx, z4, z5, c1⟩
  · rcases c2 with ⟨w1, w2, w3⟩ | ⟨p, hp, hx, w4, w5, -⟩
    · exact ⟨z2.trans w2.symm, y2, same z3 w3⟩
    · rcases z1 with z1 | z1 | z1
      · rw [hx, rdV_1 hp hR] at z1
        exact absurd z1 (by decide)
      · exact absurd z1 (by omega)
      · exact absurd z1 (by omega)
  · rcases c2 with ⟨w1, -, -⟩ | ⟨p', hp', hx', -, -, c2⟩
    · rcases w1 with w1 | w1 | w1
      · rw [hx, rdV_1 hp hR] at w1
        exact absurd w1 (by decide)
      · exact absurd w1 (by omega)
      · exact absurd w1 (by omega)
    · have ep : p' = p := xn_inj (by omega) (by omega) (hx'.symm.trans hx)
      rw [ep] at c2
      have old : gi h (55 + 3 + 2 * p) 2 = (rows 0).2.2.2.1 p := (hL.2.2.1 p hp).1
      have b156 : gi h1 156 p = (rows 0).2.2.2.1 p := by rw [← b0]; exact (row_at.2.2.2.1 p (by omega)).symm
      rw [b156] at c2
      rw [old] at c1
      rcases c1 with ⟨s1, s2, s3⟩ | ⟨s1, s2, mp, s3, s4⟩
      · rcases c2 with ⟨u1, u2, u3⟩ | ⟨u1, -, -⟩
        · exact ⟨s2.trans u2.symm, y2, same s3 u3⟩
        · exact absurd s1 u1
      · rcases c2 with ⟨u1, -, -⟩ | ⟨u1, u2, m1, u3, u4⟩
        · exact absurd u1 s1
        · let w : rRow := ((rows 0).1, (rows 0).2.1, (rows 0).2.2.1, (fun q => if q = p then y else (rows 0).2.2.2.1 q), (rows 0).2.2.2.2)
          have hS : ST R J (2, Int32.ofNat p, (rows 0).2.2.2.1 p) (rows 0) w := by
            refine ⟨rfl, rfl, Or.inr (Or.inl ⟨rfl, p, hp, rfl, rfl, rfl, funext fun q => ?_⟩)⟩
            show (rows 0).2.2.2.1 q = if q = p then (rows 0).2.2.2.1 p else (if q = p then y else (rows 0).2.2.2.1 q)
            by_cases e : q = p
            · rw [if_pos e, e]
            · rw [if_neg e, if_neg e]
          have hl : CL R J n1 (gl h) 55 w := by
            obtain ⟨l1, l2, l3, l4⟩ := hL
            have f : ∀ c : Nat, c < 58 ∨ 70 ≤ c → c < 116 → n1 c = gi h c := fun c hc hc2 => by rw [s4, xu_row (by omega)]; exact s3.1 c (Or.inl hc2)
            refine ⟨by rw [f 55 (by decide) (by decide)]; exact l1, by rw [f 55 (by decide) (by decide)]; exact l2, fun q hq => ?_, l4⟩
            have g0 : mp (55 + 3 + 2 * q) = gi h (55 + 3 + 2 * q) := s3.1 _ (Or.inl (by omega))
            rw [s4]
            refine ⟨?_, ?_⟩
            · show _ = if q = p then y else (rows 0).2.2.2.1 q
              by_cases e : q = p
              · rw [if_pos e, e, xu_same]
              · rw [if_neg e, xu_oth (by omega), g0]
                exact (l3 q hq).1
            · rw [xu_oth (by omega), g0]
              exact (l3 q hq).2
          have C1 := hC.push (m0 := gi h) (m1 := mp) (m2 := n1) (g2 := gl h) hP hR hn (fun _ _ => rfl) s3 (fun c hc => by rw [s4]; exact xu_row (by omega)) rfl hl
          have R1x := R1.nw nw0
          have e0 : rowOf m1 g2 0 = rows 0 := (u3.2.2.2.2.2.2 0 (by decide)).trans (R1x.2.2.2.2.2.2 0 (Or.inl rfl))
          have R2 := R1x.push (m2 := n2) (g2 := g2) (w := w) hn u3 ⟨by rw [u4]; exact xu_row (by decide), by rw [u4]; exact xu_row (by decide)⟩ (by rw [u4, row_seat (by omega), if_pos rfl, e0] <;> rfl) (fun r hr => by rw [u4, row_seat (by omega), if_neg hr])
          exact ⟨s2.trans u2.symm, y2, lB_mk (h1 := h1) (rows := pR n rows w) hP hR hJ6 (kNS hn).2.2 (by rw [pR0, pR3, em1, el1, eg, er1]; exact C1) (k2.bc q4) (by rw [em2, el2]; exact R2) (hA.push hn hS (HB.fw hS hA.1))⟩
theorem tell_pair {nf : Bool} {xs : List Int32} {d : Nat} {h h1 h2 : zH} {r1 r2 : Option Value} {x y z : Int32} {M1 M2 : List aD} (hI : lInq h) (hz : z = 0 ∨ z = 1) (e1 : zEv (zXt nf xs) zIT zmcl zMt d 116 [.ref 0, .int x, .int y, .int z] h r1 h1) (e2 : zEv (zXt nf xs) zIT zmcl zMt d 227 [.ref 128, .int x, .int y, .int z] h1 r2 h2) (S1 : aSh qW h1) (k1 : KP M1 h h1) (k2 : KP M2 h1 h2) (q1 : xk M1 = true) (q2 : xk M2 = true) (q3 : kBR M1 = true) (q4 : kBC M2 = true) : r1 = r2 ∧ lQ h2 := by
  obtain ⟨hJ, hX, P, R, J, n, E, rows, kp, nt, L, hP, hR, hJ6, hn, hC, hRr, hA⟩ := hI
  have t1 := zEv_KT _ _ _ _ _ _ e1 hX.1
  have t2 := zEv_KT _ _ _ _ _ _ e2 t1
  have y1 := lX_keep hX t1 k1 q1
  have y2 := lX_keep y1 t2 k2 q2
  have x2 := hX.2.1.2.1
  have hr1 := y1.2.1.2.1
  have R1 := hRr.st hn (k1.br q3)
  have hP2 : gr h P 2 = some (P + 5) := by
    rcases hP with rfl | rfl
    · exact rf_of x2 (by decide +kernel)
    · exact rf_of x2 (by decide +kernel)
  obtain ⟨n1, g1, hs1, c1⟩ := ct_tellC (J := J) (n := n) (rf_of x2 (by decide +kernel)) (rf_of x2 (by decide +kernel)) hC.1 hP2 (gq_of (Or.inl rfl) hJ.1.1 x2) (gu_of hJ.1.1 x2) hC.2.2.2.1 hJ6 hn hC.2.2.2.2.2.1 h r1 h1 (HS_of hX.1) e1
  obtain ⟨n2, g2, hs2, c2⟩ := ct_tellR (J := J) (n := n) (gw_of S1 hr1) (rf_of hr1 (by decide +kernel)) (gsR S1 (by decide +kernel)) R1.2.2.1 hJ6 hn R1.2.2.2.1 h1 r2 h2 (HS_of t1) e2
  have em1 : gi h1 = n1 := hs1.2.1
  have el1 : gl h1 = g1 := hs1.2.2.1
  have er1 : gr h1 = gr h := hs1.2.2.2.1
  have em2 : gi h2 = n2 := hs2.2.1
  have el2 : gl h2 = g2 := hs2.2.2.1
  have b0 : rowOf (gi h1) (gl h1) 0 = rows 0 := R1.2.2.2.2.2.2 0 (Or.inl rfl)
  have hL := hC.2.2.2.2.2.2.2.2.1
  have same : n1 = gi h → g1 = gl h → NW (gi h1) (gl h1) n2 g2 → lB h2 := fun s sg u => lB_mk (h1 := h1) hP hR hJ6 hn (by rw [em1, s, el1, sg, er1]; exact hC) (k2.bc q4) (by rw [em2, el2]; exact R1.nw u) hA
  rcases c1 with ⟨z1, z2, z3, z3g⟩ | ⟨p, hp, hx, v, hv, hvy, c1⟩
  · rcases c2 with ⟨w1, w2, w3⟩ | ⟨p, hp, hx, v, hv, hvy, -⟩
    · exact ⟨z2.trans w2.symm, y2, same z3 z3g w3⟩
    · rcases z1 with z1 | z1
      · rw [hx, rdV_1 hp hJ6] at z1
        exact absurd z1 (by decide)
      · rw [hvy, mlV_1 hv] at z1
        exact absurd z1 (by decide)
  · rcases c2 with ⟨w1, -, -⟩ | ⟨p', hp', hx', v', hv', hvy', c2⟩
    · rcases w1 with w1 | w1
      · rw [hx, rdV_1 hp hJ6] at w1
        exact absurd w1 (by decide)
      · rw [hvy, mlV_1 hv] at w1
        exact absurd w1 (by decide)
    · have ep : p' = p := xn_inj (by omega) (by omega) (hx'.symm.trans hx)
      have ev : v' = v := xn_inj (by omega) (by omega) (hvy'.symm.trans hvy)
      rw [ep, ev] at c2
      have old : gl h 57 p = (rows 0).2.2.2.2 p := hL.2.2.2 p hp
      have b164 : gl h1 164 p = (rows 0).2.2.2.2 p := by rw [← b0]; exact (row_at.2.2.2.2 p (by omega)).symm
      rw [b164] at c2
      rw [old] at c1
      rcases c1 with ⟨s1, s2, s3, s3g⟩ | ⟨s1, s2, s3, s4⟩
      · rcases c2 with ⟨u1, u2, u3⟩ | ⟨u1, -, -⟩
        · exact ⟨s2.trans u2.symm, y2, same s3 s3g u3⟩
        · exact absurd s1 u1
      · rcases c2 with ⟨u1, -, -⟩ | ⟨u1, u2, gq, u3, u4⟩
        · exact absurd u1 s1
        · have sf : stB z (Int32.ofNat v) ((rows 0).2.2.2.2 p) = flB (Int32.ofNat v) ((rows 0).2.2.2.2 p) := by
            refine st_fl (by omega) (fun q => ?_)
            obtain ⟨-, v2⟩ := bI_ne hz u1
            rcases hz with rfl | rfl
            · rw [v2] at q
              exact q.1 (by decide) rfl
            · rw [v2] at q
              exact absurd (q.2 (by decide)) (by decide)
          rw [sf] at s4
          let w : rRow := ((rows 0).1, (rows 0).2.1, (rows 0).2.2.1, (rows 0).2.2.2.1, (fun q => if q = p then flB (Int32.ofNat v) ((rows 0).2.2.2.2 p) else (rows 0).2.2.2.2 q))
          have hS : ST R J (3, Int32.ofNat p, Int32.ofNat v) (rows 0) w := by
            refine ⟨rfl, rfl, Or.inr (Or.inr ⟨rfl, p, hp, rfl, v, hv, rfl, rfl, rfl, funext fun q => ?_⟩)⟩
            show (rows 0).2.2.2.2 q = if q = p then flB (Int32.ofNat v) (if q = p then flB (Int32.ofNat v) ((rows 0).2.2.2.2 p) else (rows 0).2.2.2.2 q) else (if q = p then flB (Int32.ofNat v) ((rows 0).2.2.2.2 p) else (rows 0).2.2.2.2 q)
            by_cases e : q = p
            · rw [if_pos e, if_pos e, fl_fl (by omega), e]
            · rw [if_neg e, if_neg e]
          have hl : CL R J n1 g1 55 w := by
            obtain ⟨l1, l2, l3, l4⟩ := hL
            have f : ∀ c : Nat, c < 116 → n1 c = gi h c := fun c hc => s3.1 c (Or.inl hc)
            refine ⟨by rw [f 55 (by decide)]; exact l1, by rw [f 55 (by decide)]; exact l2, fun q hq => by rw [f (55 + 3 + 2 * q) (by omega)]; exact l3 q hq, fun q hq => ?_⟩
            show g1 57 q = if q = p then flB (Int32.ofNat v) ((rows 0).2.2.2.2 p) else (rows 0).2.2.2.2 q
            rw [s4]
            by_cases e : q = p
            · rw [if_pos e, e, xu_same]
            · rw [if_neg e, xu_oth (by omega)]
              exact l4 q hq
          have C1 := hC.push (m0 := gi h) (m1 := n1) (m2 := n1) (g2 := g1) hP hR hn (fun _ _ => rfl) s3 (fun _ _ => rfl) (by rw [s4]; exact xu_row (by decide)) hl
          have R1x := R1.nw nw0
          have e0 : rowOf n2 gq 0 = rows 0 := (u3.2.2.2.2.2.2 0 (by decide)).trans (R1x.2.2.2.2.2.2 0 (Or.inl rfl))
          have e164 : gq 164 p = (rows 0).2.2.2.2 p := by rw [← e0]; exact (row_at.2.2.2.2 p (by omega)).symm
          have R2 := R1x.push (m2 := n2) (g2 := g2) (w := w) hn u3 ⟨rfl, rfl⟩ (by rw [u4, row_tell (by omega), if_pos rfl, e0, e164] <;> rfl) (fun r hr => by rw [u4, row_tell (by omega), if_neg hr])
          exact ⟨s2.trans u2.symm, y2, lB_mk (h1 := h1) (rows := pR n rows w) hP hR hJ6 (kNS hn).2.2 (by rw [pR0, pR3, em1, el1, er1]; exact C1) (k2.bc q4) (by rw [em2, el2]; exact R2) (hA.push hn hS (HB.fw hS hA.1))⟩
end
section
/-! undo, keep, back of both sides, between the passes. -/
theorem CP.pop {P R J n : Nat} {E : Nat → Int32 × Int32 × Int32} {w0 w3 w : rRow} {kp nt L : Int32} {m m' : xM} {g g' : xL} {q : Nat → Nat → Option Nat} (hP : P = 7 ∨ P = 31) (hR : R ≤ 6) (h : CP P R J (n + 1) E w0 w3 kp nt L m g q) (hm : ∀ c : Nat, ¬ c = 116 → c < 58 ∨ 70 ≤ c → m' c = m c) (h3 : m' 116 3 = Int32.ofNat n) (hg : g' 72 = g 72) (hl : CL R J m' g' 55 w) : CP P R J n E w w3 kp nt L m' g' q := by
  obtain ⟨c1, c2, c3, c4, c5, c6, c7, c8, c9, c10, c11⟩ := h
  refine ⟨c1, c2, by rw [hm P (by omega) (by omega)]; exact c3, by rw [hm (P + 5) (by omega) (by omega)]; exact c4, by rw [hm 55 (by decide) (by decide)]; exact c5, h3, by rw [hm 120 (by decide) (by decide)]; exact c7, by rw [hm 0 (by decide) (by decide)]; exact c8, hl, ?_, fun k hk => by rw [hm 117 (by decide) (by decide), hm 118 (by decide) (by decide), hm 119 (by decide) (by decide)]; exact c11 k (by omega)⟩
  rcases c10 with z | ⟨y1, y2, y3⟩
  · exact Or.inl z
  · exact Or.inr ⟨by rw [hm 70 (by decide) (by decide)]; exact y1, y2, y3.row hR (fun c d1 d2 => hm c (by omega) (by omega)) hg⟩
theorem RP.pop {R J n : Nat} {rows : Nat → rRow} {kp nt L : Int32} {m m' : xM} {g g' : xL} (h : RP R J (n + 1) rows kp nt L m g) (h54 : m' 128 54 = Int32.ofNat n) (hm : ∀ c : Nat, ¬ c = 128 → c < 150 ∨ 163 < c → m' c = m c) (hk : ∀ k : Nat, ¬ k = 0 → ¬ k = 54 → m' 128 k = m 128 k) (h0 : rowOf m' g' 0 = rowOf m g (4 + n)) (hr : ∀ q : Nat, ¬ q = 0 → rowOf m' g' q = rowOf m g q) : RP R J n (uR n rows) kp nt L m' g' := by
  obtain ⟨r1, r2, r3, r4, r5, r6, r7⟩ := h
  have e := hm 130 (by decide) (by decide)
  refine ⟨by rw [e]; exact r1, by rw [e]; exact r2, by rw [e]; exact r3, h54, (hk 67 (by decide) (by decide)).trans r5, (hk 53 (by decide) (by decide)).trans r6, fun r hq => ?_⟩
  unfold uR
  by_cases z : r = 0
  · rw [if_pos z, z, h0]
    exact r7 _ (by omega)
  · rw [if_neg z, hr r z]
    exact r7 r (by omega)
theorem uR0 {n : Nat} {rows : Nat → rRow} : uR n rows 0 = rows (4 + n) := if_pos rfl
theorem uR3 {n : Nat} {rows : Nat → rRow} : uR n rows 3 = rows 3 := if_neg (by decide)
theorem undo_pair {nf : Bool} {xs : List Int32} {d : Nat} {h h1 h2 : zH} {r1 r2 : Option Value} {M1 M2 : List aD} (hI : lInq h) (e1 : zEv (zXt nf xs) zIT zmcl zMt d 117 [.ref 0] h r1 h1) (e2 : zEv (zXt nf xs) zIT zmcl zMt d 257 [.ref 128] h1 r2 h2) (S1 : aSh qW h1) (k1 : KP M1 h h1) (k2 : KP M2 h1 h2) (q1 : xk M1 = true) (q2 : xk M2 = true) (q3 : kBR M1 = true) (q4 : kBC M2 = true) : r1 = r2 ∧ lQ h2 := by
  obtain ⟨hJ, hX, P, R, J, n, E, rows, kp, nt, L, hP, hR, hJ6, hn, hC, hRr, hA⟩ := hI
  have t1 := zEv_KT _ _ _ _ _ _ e1 hX.1
  have t2 := zEv_KT _ _ _ _ _ _ e2 t1
  have y1 := lX_keep hX t1 k1 q1
  have y2 := lX_keep y1 t2 k2 q2
  have x2 := hX.2.1.2.1
  have hr1 := y1.2.1.2.1
  have R1 := hRr.st hn (k1.br q3)
  rcases n with _ | n
  · obtain ⟨n1, g1, hs1, c1, c2, c3⟩ := ct_undoC0 (rf_of x2 (by decide +kernel)) hC.2.2.2.2.2.1 h r1 h1 (HS_of hX.1) e1
    obtain ⟨n2, g2, hs2, c4, c5⟩ := ct_undoR0 R1.2.2.2.1 h1 r2 h2 (HS_of t1) e2
    have em1 : gi h1 = gi h := hs1.2.1.trans c2
    have el1 : gl h1 = gl h := hs1.2.2.1.trans c3
    have er1 : gr h1 = gr h := hs1.2.2.2.1
    have em2 : gi h2 = n2 := hs2.2.1
    have el2 : gl h2 = g2 := hs2.2.2.1
    exact ⟨c1.trans c4.symm, y2, lB_mk (h1 := h1) hP hR hJ6 hn (by rw [em1, el1, er1]; exact hC) (k2.bc q4) (by rw [em2, el2]; exact R1.nw c5) hA⟩
  · have hn1 : n < 20 := by omega
    obtain ⟨hS, hA2⟩ := hA.undo
    have hE := hC.2.2.2.2.2.2.2.2.2.2 n (by omega)
    have hE1 : gi h 117 n = (E n).1 := congrArg (fun z => z.1) hE
    have hE2 : gi h 118 n = (E n).2.1 := congrArg (fun z => z.2.1) hE
    have hE3 : gi h 119 n = (E n).2.2 := congrArg (fun z => z.2.2) hE
    have hL := hC.2.2.2.2.2.2.2.2.1
    obtain ⟨n2, g2, hs2, v1, v2, v3, v4, v5, v6, v7⟩ := ct_undoR (n := n) (gw_of S1 hr1) hn1 R1.2.2.2.1 h1 r2 h2 (HS_of t1) e2
    have R2 := R1.pop v2 v3 v4 v6 v7
    have em2 : gi h2 = n2 := hs2.2.1
    have el2 : gl h2 = g2 := hs2.2.2.1
    have fin : CP P R J n E (rows (4 + n)) (rows 3) kp nt L (gi h1) (gl h1) (gr h1) → lB h2 := fun C => lB_mk (h1 := h1) (rows := uR n rows) hP hR hJ6 (by omega) (by rw [uR0, uR3]; exact C) (k2.bc q4) (by rw [em2, el2]; exact R2) hA2
    have h7 : gr h 0 7 = some 55 := rf_of x2 (by decide +kernel)
    have h13 : gr h 0 13 = some 116 := rf_of x2 (by decide +kernel)
    obtain ⟨s1, s2, s3⟩ := hS
    obtain ⟨l1, l2, l3, l4⟩ := hL
    rcases s3 with ⟨s4, p, hp, s5, s6, s7, s8⟩ | ⟨s4, p, hp, s5, s6, s7, s8⟩ | ⟨s4, j, hj, s5, u, hu, s6, s7, s8, s9⟩
    · obtain ⟨n1, g1, hs1, c1, c2, mp, c3, c4, c5⟩ := ct_undoC1 (p := p) (R := R) (n := n) h7 h13 (gq_of (Or.inl rfl) hJ.1.1 x2) (gu_of hJ.1.1 x2) hn1 hC.2.2.2.2.2.1 (hE1.trans s4) (hE2.trans s5) hC.2.2.2.2.1 hp hR h r1 h1 (HS_of hX.1) e1
      have em1 : gi h1 = n1 := hs1.2.1
      have el1 : gl h1 = gl h := hs1.2.2.1.trans c2
      have er1 : gr h1 = gr h := hs1.2.2.2.1
      refine ⟨c1.trans v1.symm, y2, fin ?_⟩
      rw [em1, el1, er1]
      refine hC.pop hP hR (fun c d1 d2 => by rw [c5, xu_row (by omega)]; exact c4 c d1) (by rw [c5, xu_row (by omega)]; exact c3) rfl ?_
      have f : n1 55 = gi h 55 := by rw [c5, xu_row (by omega)]; exact c4 55 (by decide)
      refine ⟨by rw [f, s1]; exact l1, by rw [f, s2]; exact l2, fun q hq => ?_, fun j hj => by rw [s7]; exact l4 j hj⟩
      have g0 : mp (55 + 3 + 2 * q) = gi h (55 + 3 + 2 * q) := c4 _ (by omega)
      rw [c5]
      refine ⟨by rw [xu_oth (by omega), g0, s6]; exact (l3 q hq).1, ?_⟩
      rw [s8 q hq]
      by_cases e : q = p
      · rw [if_pos e, e, xu_same, hE3]
        by_cases z : (E n).2.2 = 1
        · rw [if_pos z, decide_eq_true z]; rfl
        · rw [if_neg z, decide_eq_false z]; rfl
      · rw [if_neg e, xu_oth (by omega), g0]
        exact (l3 q hq).2
    · obtain ⟨n1, g1, hs1, c1, c2, mp, c3, c4, c5⟩ := ct_undoC2 (p := p) (R := R) (n := n) h7 h13 (gq_of (Or.inl rfl) hJ.1.1 x2) (gu_of hJ.1.1 x2) hn1 hC.2.2.2.2.2.1 (hE1.trans s4) (hE2.trans s5) hC.2.2.2.2.1 hp hR h r1 h1 (HS_of hX.1) e1
      have em1 : gi h1 = n1 := hs1.2.1
      have el1 : gl h1 = gl h := hs1.2.2.1.trans c2
      have er1 : gr h1 = gr h := hs1.2.2.2.1
      refine ⟨c1.trans v1.symm, y2, fin ?_⟩
      rw [em1, el1, er1]
      refine hC.pop hP hR (fun c d1 d2 => by rw [c5, xu_row (by omega)]; exact c4 c d1) (by rw [c5, xu_row (by omega)]; exact c3) rfl ?_
      have f : n1 55 = gi h 55 := by rw [c5, xu_row (by omega)]; exact c4 55 (by decide)
      refine ⟨by rw [f, s1]; exact l1, by rw [f, s2]; exact l2, fun q hq => ?_, fun j hj => by rw [s7]; exact l4 j hj⟩
      have g0 : mp (55 + 3 + 2 * q) = gi h (55 + 3 + 2 * q) := c4 _ (by omega)
      rw [c5]
      refine ⟨?_, by rw [xu_oth (by omega), g0, s6]; exact (l3 q hq).2⟩
      rw [s8]
      show _ = if q = p then (E n).2.2 else (rows 0).2.2.2.1 q
      by_cases e : q = p
      · rw [if_pos e, e, xu_same, hE3]
      · rw [if_neg e, xu_oth (by omega), g0]
        exact (l3 q hq).1
    · have hP2 : gr h P 2 = some (P + 5) := by
        rcases hP with rfl | rfl
        · exact rf_of x2 (by decide +kernel)
        · exact rf_of x2 (by decide +kernel)
      obtain ⟨n1, g1, hs1, c1, c2, c3, c4⟩ := ct_undoC3 (P := P) (j := j) (v := u) (J := J) (n := n) h7 h13 (gq_of (Or.inl rfl) hJ.1.1 x2) (gu_of hJ.1.1 x2) hn1 hC.2.2.2.2.2.1 (hE1.trans s4) hC.1 hP2 (by omega) (hE2.trans s5) (hE3.trans s6) hC.2.2.2.1 hj hJ6 hu h r1 h1 (HS_of hX.1) e1
      have em1 : gi h1 = n1 := hs1.2.1
      have el1 : gl h1 = g1 := hs1.2.2.1
      have er1 : gr h1 = gr h := hs1.2.2.2.1
      refine ⟨c1.trans v1.symm, y2, fin ?_⟩
      rw [em1, el1, er1]
      refine hC.pop hP hR (fun c d1 _ => c4 c d1) c3 (by rw [c2]; exact xu_row (by decide)) ?_
      have l5 : gl h 57 j = (rows 0).2.2.2.2 j := l4 j hj
      refine ⟨by rw [c4 55 (by decide), s1]; exact l1, by rw [c4 55 (by decide), s2]; exact l2, fun q hq => by rw [c4 (55 + 3 + 2 * q) (by omega), s7, s8]; exact l3 q hq, fun q hq => ?_⟩
      rw [s9]
      show g1 57 q = if q = j then flB (Int32.ofNat u) ((rows 0).2.2.2.2 q) else (rows 0).2.2.2.2 q
      rw [c2]
      by_cases e : q = j
      · rw [if_pos e, e, xu_same, l5]
      · rw [if_neg e, xu_oth (by omega)]
        exact l4 q hq
/-- keep: the image is the row that now is -/
def kR (rows : Nat → rRow) (r : Nat) : rRow := if r = 3 then rows 0 else rows r
theorem keep_pairB {nf : Bool} {xs : List Int32} {d : Nat} {h h1 h2 : zH} {r1 r2 : Option Value} {M1 M2 : List aD} (hI : lInq h) (e1 : zEv (zXt nf xs) zIT zmcl zMt d 118 [.ref 0] h r1 h1) (e2 : zEv (zXt nf xs) zIT zmcl zMt d 258 [.ref 128] h1 r2 h2) (S1 : aSh qW h1) (k1 : KP M1 h h1) (k2 : KP M2 h1 h2) (q1 : xk M1 = true) (q2 : xk M2 = true) (q3 : kBR M1 = true) (q4 : kBC M2 = true) : r1 = r2 ∧ lQ h2 := by
  obtain ⟨hJ, hX, P, R, J, n, E, rows, kp, nt, L, hP, hR, hJ6, hn, hC, hRr, hA⟩ := hI
  have t1 := zEv_KT _ _ _ _ _ _ e1 hX.1
  have t2 := zEv_KT _ _ _ _ _ _ e2 t1
  have y1 := lX_keep hX t1 k1 q1
  have y2 := lX_keep y1 t2 k2 q2
  have x2 := hX.2.1.2.1
  have hr1 := y1.2.1.2.1
  have R1 := hRr.st hn (k1.br q3)
  obtain ⟨c1, c2, c3, c4, c5, c6, c7, c8, c9, c10, c11⟩ := hC
  obtain ⟨n1, g1, G1, hs1, a1, a2, m1, ⟨a3, a4, a5, a6, a7⟩, a8⟩ := cg_keep (n := R) (x := P) (rf_of x2 (by decide +kernel)) (rf_of x2 (by decide +kernel)) (gq_of (Or.inl rfl) hJ.1.1 x2) (gq_of (Or.inr rfl) hJ.1.1 x2) hR c5 c2 h r1 h1 (HS_of hX.1) e1
  obtain ⟨n2, g2, hs2, v1, v2, v3, v4, v5, v6, v7⟩ := ct_keepR (gw_of S1 hr1) h1 r2 h2 (HS_of t1) e2
  have em1 : gi h1 = n1 := hs1.2.1
  have el1 : gl h1 = g1 := hs1.2.2.1
  have er1 : gr h1 = (xgu (gr h, gs h) 70 2 P).1 := by rw [← a2]; exact hs1.2.2.2.1
  have em2 : gi h2 = n2 := hs2.2.1
  have el2 : gl h2 = g2 := hs2.2.2.1
  have f : ∀ c : Nat, ¬ c = 0 → c < 70 ∨ 85 ≤ c → n1 c = gi h c := fun c d1 d2 => by rw [a8, xu_row d1]; exact a3 c (by omega)
  have f70 : ∀ c : Nat, 70 ≤ c → n1 c = m1 c := fun c d1 => by rw [a8]; exact xu_row (by omega)
  have C1 : CP P R J n E (rows 0) (rows 0) 1 nt L n1 g1 (xgu (gr h, gs h) 70 2 P).1 := by
    refine ⟨(xgu_oth (by omega)).trans c1, (xgu_oth (by omega)).trans c2, by rw [f P (by omega) (by omega)]; exact c3, by rw [f (P + 5) (by omega) (by omega)]; exact c4, by rw [f 55 (by decide) (by decide)]; exact c5, by rw [f 116 (by decide) (by decide)]; exact c6, by rw [f 120 (by decide) (by decide)]; exact c7, by rw [a8]; exact xu_same, c9.row hR (fun c d1 d2 => f c (by omega) (by omega)) (a6 57 (by decide)), Or.inr ⟨?_, xgu_same, ?_, ?_, fun p hp => ?_, fun j hj => ?_⟩, fun k hk => by rw [f 117 (by decide) (by decide), f 118 (by decide) (by decide), f 119 (by decide) (by decide)]; exact c11 k hk⟩
    · rw [f70 70 (by decide), a4 3 (by decide) (by decide)]; exact c5
    · rw [f70 70 (by decide), a4 4 (by decide) (by decide)]; exact c9.1
    · rw [f70 70 (by decide), a4 5 (by decide) (by decide)]; exact c9.2.1
    · rw [f70 (70 + 3 + 2 * p) (by omega), a5 p hp 2 (by decide), a5 p hp 4 (by decide)]; exact c9.2.2.1 p hp
    · rw [a7 j (by omega)]; exact c9.2.2.2 j hj
  have w0 : (gi h1 150 0) = (rows 0).1 := congrArg (fun w => w.1) (R1.2.2.2.2.2.2 0 (Or.inl rfl))
  have R2 : RP R J n (kR rows) 1 nt L n2 g2 := by
    obtain ⟨r1', r2', r3', r4', r5', r6', r7'⟩ := R1
    have e := v2 130 (by decide) (by decide)
    refine ⟨by rw [e]; exact r1', by rw [e]; exact r2', by rw [e]; exact r3', (v3 54 (by decide) (by decide)).trans r4', (v3 67 (by decide) (by decide)).trans r5', v5, fun r hq => ?_⟩
    unfold kR
    by_cases z : r = 3
    · rw [if_pos z, z, v6]
      exact r7' 0 (Or.inl rfl)
    · rw [if_neg z, v7 r z]
      exact r7' r hq
  have A2 : AB R J n E (kR rows) 1 := by
    have e0 : kR rows 0 = rows 0 := if_neg (by decide)
    refine ⟨by rw [e0]; exact hA.1, Or.inr (by rw [show kR rows 3 = rows 0 from if_pos rfl]; exact hA.1), fun k hk => ?_⟩
    rw [show kR rows (4 + k) = rows (4 + k) from if_neg (by omega)]
    by_cases z : k + 1 < n
    · have s := hA.2.2 k hk
      rw [if_pos z] at s ⊢
      rw [show kR rows (4 + (k + 1)) = rows (4 + (k + 1)) from if_neg (by omega)]
      exact s
    · have s := hA.2.2 k hk
      rw [if_neg z] at s ⊢
      rw [e0]
      exact s
  refine ⟨by rw [a1, v1, w0, c9.1], y2, lB_mk (h1 := h1) (rows := kR rows) hP hR hJ6 hn ?_ (k2.bc q4) (by rw [em2, el2]; exact R2) A2⟩
  rw [em1, el1, er1, show kR rows 0 = rows 0 from if_neg (by decide), show kR rows 3 = rows 0 from if_pos rfl]
  exact C1
/-- back: the row that now is is the image -/
def bR (rows : Nat → rRow) (r : Nat) : rRow := if r = 0 then rows 3 else rows r
theorem back_pairB {nf : Bool} {xs : List Int32} {d : Nat} {h h1 h2 : zH} {r1 r2 : Option Value} {M1 M2 : List aD} (hI : lInq h) (e1 : zEv (zXt nf xs) zIT zmcl zMt d 119 [.ref 0] h r1 h1) (e2 : zEv (zXt nf xs) zIT zmcl zMt d 259 [.ref 128] h1 r2 h2) (S1 : aSh qW h1) (k1 : KP M1 h h1) (k2 : KP M2 h1 h2) (q1 : xk M1 = true) (q2 : xk M2 = true) (q3 : kBR M1 = true) (q4 : kBC M2 = true) : r1 = r2 ∧ lQ h2 := by
  obtain ⟨hJ, hX, P, R, J, n, E, rows, kp, nt, L, hP, hR, hJ6, hn, hC, hRr, hA⟩ := hI
  have t1 := zEv_KT _ _ _ _ _ _ e1 hX.1
  have t2 := zEv_KT _ _ _ _ _ _ e2 t1
  have y1 := lX_keep hX t1 k1 q1
  have y2 := lX_keep y1 t2 k2 q2
  have x2 := hX.2.1.2.1
  have hr1 := y1.2.1.2.1
  have R1 := hRr.st hn (k1.br q3)
  have hC0 := hC
  obtain ⟨c1, c2, c3, c4, c5, c6, c7, c8, c9, c10, c11⟩ := hC
  obtain ⟨i, hi, i3⟩ := nv_of (a := 70) (k := 3) (n := 6) hJ.1 (by decide +kernel) (by decide +kernel)
  obtain ⟨x, hx⟩ := rv_of (a := 70) (k := 2) (s := 7) (s' := 7) hJ.1 (by decide +kernel) (by decide +kernel)
  obtain ⟨n1, g1, G1, hs1, o1⟩ := cg_back (n := i) (x := x) (rf_of x2 (by decide +kernel)) (rf_of x2 (by decide +kernel)) (rf_of x2 (by decide +kernel)) (gq_of (Or.inl rfl) hJ.1.1 x2) (gq_of (Or.inr rfl) hJ.1.1 x2) hi i3 (gr_of hx) h r1 h1 (HS_of hX.1) e1
  obtain ⟨n2, g2, hs2, o2⟩ := ct_backR (gw_of S1 hr1) h1 r2 h2 (HS_of t1) e2
  have em1 : gi h1 = n1 := hs1.2.1
  have el1 : gl h1 = g1 := hs1.2.2.1
  have er1 : gr h1 = G1.1 := hs1.2.2.2.1
  have em2 : gi h2 = n2 := hs2.2.1
  have el2 : gl h2 = g2 := hs2.2.2.1
  have ek : gi h1 128 53 = kp := R1.2.2.2.2.2.1
  rcases o1 with ⟨a0, a1, a2, a3, a4⟩ | ⟨a0, a1, a2, m1, ⟨a3, a4, a5, a6, a7⟩, a8⟩
  · rcases o2 with ⟨b0, b1, b2, b3, b4⟩ | ⟨b0, -⟩
    · exact ⟨a1.trans b1.symm, y2, lB_mk (h1 := h1) hP hR hJ6 hn (by rw [em1, el1, er1, a2, a3, a4]; exact hC0) (k2.bc q4) (by rw [em2, el2]; exact R1.nw ⟨b2, b3, b4⟩) hA⟩
    · exact absurd (ek.trans (c8.symm.trans a0)) b0
  · rcases o2 with ⟨b0, -⟩ | ⟨b0, b1, b2, b3, b4, b5, b6, b7⟩
    · exact absurd (c8.trans (ek.symm.trans b0)) a0
    · rcases c10 with z | ⟨z1, z2, z3⟩
      · exact absurd (c8.trans z) a0
      · have ei : i = R := xn_inj (by omega) (by omega) (i3.symm.trans z1)
        have ex : x = P := by
          have := (gr_of hx).symm.trans z2
          cases this
          rfl
        subst ei
        subst ex
        have f : ∀ c : Nat, ¬ c = 116 → c < 55 ∨ 70 ≤ c → n1 c = gi h c := fun c d1 d2 => by rw [a8, xu_row d1]; exact a3 c (by omega)
        have f55 : ∀ c : Nat, c < 116 → n1 c = m1 c := fun c d1 => by rw [a8]; exact xu_row (by omega)
        have C1 : CP x i J 0 E (rows 3) (rows 3) kp nt L n1 g1 (xgu (gr h, gs h) 55 2 x).1 := by
          refine ⟨(xgu_oth (by omega)).trans c1, xgu_same, by rw [f x (by omega) (by omega)]; exact c3, by rw [f (x + 5) (by omega) (by omega)]; exact c4, ?_, by rw [a8]; exact xu_same, by rw [f 120 (by decide) (by decide)]; exact c7, by rw [f 0 (by decide) (by decide)]; exact c8, ⟨?_, ?_, fun p hp => ?_, fun j hj => ?_⟩, Or.inr ⟨by rw [f 70 (by decide) (by decide)]; exact z1, (xgu_oth (by omega)).trans z2, z3.row hR (fun c d1 d2 => f c (by omega) (by omega)) (a6 72 (by decide))⟩, fun k hk => absurd hk (Nat.not_lt_zero k)⟩
          · rw [f55 55 (by decide), a4 3 (by decide) (by decide)]; exact z1
          · rw [f55 55 (by decide), a4 4 (by decide) (by decide)]; exact z3.1
          · rw [f55 55 (by decide), a4 5 (by decide) (by decide)]; exact z3.2.1
          · rw [f55 (55 + 3 + 2 * p) (by omega), a5 p hp 2 (by decide), a5 p hp 4 (by decide)]; exact z3.2.2.1 p hp
          · rw [a7 j (by omega)]; exact z3.2.2.2 j hj
        have w3 : gi h1 150 3 = (rows 3).1 := congrArg (fun w => w.1) (R1.2.2.2.2.2.2 3 (Or.inr (Or.inl rfl)))
        have R2 : RP i J 0 (bR rows) kp nt L n2 g2 := by
          obtain ⟨r1', r2', r3', r4', r5', r6', r7'⟩ := R1
          have e := b2 130 (by decide) (by decide)
          refine ⟨by rw [e]; exact r1', by rw [e]; exact r2', by rw [e]; exact r3', b5, (b3 67 (by decide) (by decide)).trans r5', (b3 53 (by decide) (by decide)).trans r6', fun r hq => ?_⟩
          unfold bR
          by_cases z : r = 0
          · rw [if_pos z, z, b6]
            exact r7' 3 (Or.inr (Or.inl rfl))
          · rw [if_neg z, b7 r z]
            exact r7' r (by omega)
        have h3 : HB J (rows 3) := by
          rcases hA.2.1 with z | z
          · exact absurd (c8.trans z) a0
          · exact z
        have A2 : AB i J 0 E (bR rows) kp := ⟨by rw [show bR rows 0 = rows 3 from if_pos rfl]; exact h3, Or.inr (by rw [show bR rows 3 = rows 3 from if_neg (by decide)]; exact h3), fun k hk => absurd hk (Nat.not_lt_zero k)⟩
        refine ⟨by rw [a1, b1, w3, z3.1], y2, lB_mk (h1 := h1) (rows := bR rows) hP hR hJ6 (by decide) ?_ (k2.bc q4) (by rw [em2, el2]; exact R2) A2⟩
        rw [em1, el1, er1, a2, show bR rows 0 = rows 3 from if_pos rfl, show bR rows 3 = rows 3 from if_neg (by decide)]
        exact C1
end
section
/-! go, note, out of both sides, between the passes. -/
def BCg : List (Nat × Nat) := BC.filter (fun t => !((Nat.beq t.1 55 && (Nat.beq t.2 4 || Nat.beq t.2 5)) || (Nat.beq t.1 116 && Nat.beq t.2 3)))
def BRg : List (Nat × Nat) := BR.filter (fun t => !((Nat.beq t.2 0 && (Nat.beq t.1 150 || Nat.beq t.1 151)) || (Nat.beq t.1 128 && Nat.beq t.2 54)))
theorem BCg_p : ∀ p : Nat, p < 6 → (55 + 3 + 2 * p, 2) ∈ BCg ∧ (55 + 3 + 2 * p, 4) ∈ BCg ∧ (70 + 3 + 2 * p, 2) ∈ BCg ∧ (70 + 3 + 2 * p, 4) ∈ BCg ∧ (55 + 2, p) ∈ BCg ∧ (70 + 2, p) ∈ BCg := xpB_ok (by decide +kernel)
theorem BCg_k : ∀ k : Nat, k < 20 → (117, k) ∈ BCg ∧ (118, k) ∈ BCg ∧ (119, k) ∈ BCg := xkB_ok (by decide +kernel)
theorem BRg_r : ∀ r : Nat, r < 24 → 3 ≤ r → (150, r) ∈ BRg ∧ (151, r) ∈ BRg := xgB_ok (by decide +kernel)
theorem BRg_5 : ∀ r : Nat, r < 24 → (r = 0 ∨ 3 ≤ r) → (155, r) ∈ BRg := x5B_ok (by decide +kernel)
theorem BRg_p : ∀ r : Nat, r < 24 → (r = 0 ∨ 3 ≤ r) → ∀ p : Nat, p < 6 → (156, 6 * r + p) ∈ BRg ∧ (164, 6 * r + p) ∈ BRg := xqB_ok (by decide +kernel)
def kBCg (M : List aD) : Bool := BCg.all (fun t => kf M t.1 t.2)
def kBRg (M : List aD) : Bool := BRg.all (fun t => kf M t.1 t.2)
theorem KP.bcg {M : List aD} {h0 h : zH} (hp : KP M h0 h) (hk : kBCg M = true) : ∀ t ∈ BCg, rd h t.1 t.2 = rd h0 t.1 t.2 := fun t ht => hp.pl (List.all_eq_true.mp BC_in t ((List.mem_filter.mp ht).1)) (List.all_eq_true.mp hk t ht)
theorem KP.brg {M : List aD} {h0 h : zH} (hp : KP M h0 h) (hk : kBRg M = true) : ∀ t ∈ BRg, rd h t.1 t.2 = rd h0 t.1 t.2 := fun t ht => hp.pl (List.all_eq_true.mp BR_in t ((List.mem_filter.mp ht).1)) (List.all_eq_true.mp hk t ht)
theorem CP.go {P R J n n' : Nat} {E : Nat → Int32 × Int32 × Int32} {w0 w3 : rRow} {kp nt L : Int32} {h h0 : zH} (hP : P = 7 ∨ P = 31) (hR : R ≤ 6) (hJ : J ≤ 6) (hn : n ≤ 20) (hn' : n' ≤ n) (hC : CP P R J n E w0 w3 kp nt L (gi h0) (gl h0) (gr h0)) (e : ∀ t ∈ BCg, rd h t.1 t.2 = rd h0 t.1 t.2) (h3 : gi h 116 3 = Int32.ofNat n') : CP P R J n' E (gi h 55 4, gi h 55 5, w0.2.2) w3 kp nt L (gi h) (gl h) (gr h) := by
  obtain ⟨c1, c2, c3, c4, c5, c6, c7, c8, c9, c10, c11⟩ := hC
  have i : ∀ a k : Nat, (a, k) ∈ BCg → gi h a k = gi h0 a k := fun a k m => gi_rd (e (a, k) m)
  have jl : ∀ a k : Nat, (a, k) ∈ BCg → gl h a k = gl h0 a k := fun a k m => gl_rd (e (a, k) m)
  have jr : ∀ a k : Nat, (a, k) ∈ BCg → gr h a k = gr h0 a k := fun a k m => gr_rd (e (a, k) m)
  refine ⟨(jr 0 5 (by decide +kernel)).trans c1, (jr 55 2 (by decide +kernel)).trans c2, ?_, ?_, (i 55 3 (by decide +kernel)).trans c5, h3, (i 120 5 (by decide +kernel)).trans c7, (i 0 11 (by decide +kernel)).trans c8, ⟨rfl, rfl, fun p hp => ⟨(i _ 2 (BCg_p p (by omega)).1).trans (c9.2.2.1 p hp).1, (i _ 4 (BCg_p p (by omega)).2.1).trans (c9.2.2.1 p hp).2⟩, fun j hj => (jl _ j (BCg_p j (by omega)).2.2.2.2.1).trans (c9.2.2.2 j hj)⟩, ?_, fun k hk => ?_⟩
  · rcases hP with rfl | rfl
    · exact (i 7 10 (by decide +kernel)).trans c3
    · exact (i 31 10 (by decide +kernel)).trans c3
  · rcases hP with rfl | rfl
    · exact (i 12 3 (by decide +kernel)).trans c4
    · exact (i 36 3 (by decide +kernel)).trans c4
  · rcases c10 with z | ⟨z1, z2, z3⟩
    · exact Or.inl z
    · exact Or.inr ⟨(i 70 3 (by decide +kernel)).trans z1, (jr 70 2 (by decide +kernel)).trans z2, z3.of (i 70 4 (by decide +kernel)) (i 70 5 (by decide +kernel)) (fun p hp => ⟨i _ 2 (BCg_p p (by omega)).2.2.1, i _ 4 (BCg_p p (by omega)).2.2.2.1⟩) (fun j hj => jl _ j (BCg_p j (by omega)).2.2.2.2.2)⟩
  · obtain ⟨m1, m2, m3⟩ := BCg_k k (by omega)
    rw [i 117 k m1, i 118 k m2, i 119 k m3]
    exact c11 k (by omega)
/-- the row that now is, at another day and mile -/
def gR (rows : Nat → rRow) (a b : Int32) (r : Nat) : rRow := if r = 0 then (a, b, (rows 0).2.2) else rows r
theorem RP.go {R J n n' : Nat} {rows : Nat → rRow} {kp nt L : Int32} {h h0 : zH} (hn : n ≤ 20) (hn' : n' ≤ n) (hr : RP R J n rows kp nt L (gi h0) (gl h0)) (e : ∀ t ∈ BRg, rd h t.1 t.2 = rd h0 t.1 t.2) (h54 : gi h 128 54 = Int32.ofNat n') : RP R J n' (gR rows (gi h 150 0) (gi h 151 0)) kp nt L (gi h) (gl h) := by
  obtain ⟨r1, r2, r3, r4, r5, r6, r7⟩ := hr
  have i : ∀ a k : Nat, (a, k) ∈ BRg → gi h a k = gi h0 a k := fun a k m => gi_rd (e (a, k) m)
  have jl : ∀ a k : Nat, (a, k) ∈ BRg → gl h a k = gl h0 a k := fun a k m => gl_rd (e (a, k) m)
  refine ⟨(i 130 0 (by decide +kernel)).trans r1, (i 130 1 (by decide +kernel)).trans r2, (i 130 2 (by decide +kernel)).trans r3, h54, (i 128 67 (by decide +kernel)).trans r5, (i 128 53 (by decide +kernel)).trans r6, fun r hr => ?_⟩
  unfold gR
  have e5 := i 155 r (BRg_5 r (by omega) (by omega))
  by_cases z : r = 0
  · rw [if_pos z]
    subst z
    have o := r7 0 (Or.inl rfl)
    have o2 : rowOf (gi h) (gl h) 0 = (gi h 150 0, gi h 151 0, (rowOf (gi h0) (gl h0) 0).2.2) := by
      have e4 : (fun p => if p < 6 then gi h 156 (6 * 0 + p) else 0) = (fun p => if p < 6 then gi h0 156 (6 * 0 + p) else 0) := funext fun p => by
        by_cases hp : p < 6
        · rw [if_pos hp, if_pos hp]
          exact i 156 _ (BRg_p 0 (by decide) (Or.inl rfl) p hp).1
        · rw [if_neg hp, if_neg hp]
      have e6 : (fun p => if p < 6 then gl h 164 (6 * 0 + p) else 0) = (fun p => if p < 6 then gl h0 164 (6 * 0 + p) else 0) := funext fun p => by
        by_cases hp : p < 6
        · rw [if_pos hp, if_pos hp]
          exact jl 164 _ (BRg_p 0 (by decide) (Or.inl rfl) p hp).2
        · rw [if_neg hp, if_neg hp]
      unfold rowOf
      rw [e4, e6, e5]
    rw [o2, o]
  · rw [if_neg z]
    exact (rowOf_eq (i 150 r (BRg_r r (by omega) (by omega)).1) (i 151 r (BRg_r r (by omega) (by omega)).2) e5 (fun p hp => i 156 _ (BRg_p r (by omega) (by omega) p hp).1) (fun p hp => jl 164 _ (BRg_p r (by omega) (by omega) p hp).2)).trans (r7 r (by omega))
theorem go_pair {nf : Bool} {xs : List Int32} {d : Nat} {h h1 h2 : zH} {r1 r2 : Option Value} {x : Int32} {M1 M2 : List aD} (hd : d ≤ 966) (hI : lInq h) (e1 : zEv (zXt nf xs) zIT zmcl zMt d 120 [.ref 0, .int x] h r1 h1) (e2 : zEv (zXt nf xs) zIT zmcl zMt d 228 [.ref 128, .int x] h1 r2 h2) (H1 : aH qW qG [0] [] h1) (k1 : KP M1 h h1) (k2 : KP M2 h1 h2) (q1 : xk M1 = true) (q2 : xk M2 = true) (q3 : kBR M1 = true) (q4 : kBC M2 = true) (q5 : kBCg M1 = true) (q6 : kBRg M2 = true) : r1 = r2 ∧ lQ h2 := by
  obtain ⟨hJ, hX, P, R, J, n, E, rows, kp, nt, L, hP, hR, hJ6, hn, hC, hRr, hA⟩ := hI
  have t1 := zEv_KT _ _ _ _ _ _ e1 hX.1
  have t2 := zEv_KT _ _ _ _ _ _ e2 t1
  have y1 := lX_keep hX t1 k1 q1
  have y2 := lX_keep y1 t2 k2 q2
  have x2 := hX.2.1.2.1
  have hr1 := y1.2.1.2.1
  have R1 := hRr.st hn (k1.br q3)
  have hL := hC.2.2.2.2.2.2.2.2.1
  have w0 : gi h1 150 0 = (rows 0).1 := congrArg (fun w => w.1) (R1.2.2.2.2.2.2 0 (Or.inl rfl))
  have w1 : gi h1 151 0 = (rows 0).2.1 := congrArg (fun w => w.2.1) (R1.2.2.2.2.2.2 0 (Or.inl rfl))
  have c1 := go_C hd hJ.1 hP (x2 (0, 7, 55) (by decide +kernel)) (x2 (0, 13, 116) (by decide +kernel)) (rd_of hC.2.1) e1
  have c2 := go_R hd H1 (hr1 (128, 3, 130) (by decide +kernel)) (hr1 (128, 37, 150) (by decide +kernel)) (hr1 (128, 38, 151) (by decide +kernel)) e2
  have l1 : gi h 55 4 = (rows 0).1 := hL.1
  have l2 : gi h 55 5 = (rows 0).2.1 := hL.2.1
  have u1 : gi h 116 3 = Int32.ofNat n := hC.2.2.2.2.2.1
  have u2 : gi h1 128 54 = Int32.ofNat n := R1.2.2.2.1
  have stay : gi h1 55 4 = gi h 55 4 → gi h1 55 5 = gi h 55 5 → gi h1 116 3 = gi h 116 3 → gi h2 150 0 = gi h1 150 0 → gi h2 151 0 = gi h1 151 0 → gi h2 128 54 = gi h1 128 54 → lB h2 := fun a1 a2 a3 b1 b2 b3 => by
    have C := hC.go hP hR hJ6 hn (Nat.le_refl n) (k1.bcg q5) (a3.trans u1)
    have Q := R1.go hn (Nat.le_refl n) (k2.brg q6) (b3.trans u2)
    have e0 : gR rows (gi h2 150 0) (gi h2 151 0) = rows := funext fun r => by
      unfold gR
      by_cases z : r = 0
      · rw [if_pos z, b1, b2, w0, w1, z] <;> rfl
      · rw [if_neg z]
    rw [e0] at Q
    refine lB_mk (h1 := h1) hP hR hJ6 hn ?_ (k2.bc q4) Q hA
    rw [a1, a2, l1, l2] at C
    exact C
  rcases c1 with ⟨z1, z2, z3, z4, z5⟩ | ⟨n1, z1, z2, z3, z4, z5, z6⟩
  · rcases c2 with ⟨v1, v2, v3, v4, v5⟩ | ⟨n2, v1, v2, v3, v4, v5, v6⟩
    · exact ⟨z2.trans v2.symm, y2, stay z3 z4 z5 v3 v4 v5⟩
    · have q : x.toInt = (n2 : Int) := by rw [v2]; exact xn_int (by omega)
      rw [w0] at v3
      rw [l1] at z1
      rcases z1 with z1 | z1 | z1
      · exact absurd z1 (by omega)
      · exact absurd z1 (by omega)
      · exact absurd z1 (by omega)
  · have q : x.toInt = (n1 : Int) := by rw [z2]; exact xn_int (by omega)
    rcases c2 with ⟨v1, v2, v3, v4, v5⟩ | ⟨n2, v1, v2, v3, v4, v5, v6⟩
    · rw [w0] at v1
      rw [l1] at z3
      rcases v1 with v1 | v1 | v1
      · exact absurd v1 (by omega)
      · exact absurd v1 (by omega)
      · exact absurd v1 (by omega)
    · have en : n2 = n1 := xn_inj (by omega) (by omega) (v2.symm.trans z2)
      rw [en] at v5 v6
      have eL : gi h P 10 = gi h1 130 0 := hC.2.2.1.trans R1.1.symm
      have dm : (gi h1 55 4, gi h1 55 5) = (gi h2 150 0, gi h2 151 0) := by rw [z5, v5, eL, l1, l2, w0, w1]
      have d1 : gi h1 55 4 = gi h2 150 0 := congrArg (fun w => w.1) dm
      have d2 : gi h1 55 5 = gi h2 151 0 := congrArg (fun w => w.2) dm
      refine ⟨by rw [z4, v4, d2], y2, ?_⟩
      by_cases z : n1 = 0
      · rw [if_pos z] at z6 v6
        rw [z] at z5 v5
        have a1 : (gi h1 55 4, gi h1 55 5) = (gi h 55 4, gi h 55 5) := z5
        have b1 : (gi h2 150 0, gi h2 151 0) = (gi h1 150 0, gi h1 151 0) := v5
        exact stay (congrArg (fun w => w.1) a1) (congrArg (fun w => w.2) a1) z6 (congrArg (fun w => w.1) b1) (congrArg (fun w => w.2) b1) v6
      · rw [if_neg z] at z6 v6
        have C := hC.go hP hR hJ6 hn (Nat.zero_le n) (k1.bcg q5) z6
        have Q := R1.go hn (Nat.zero_le n) (k2.brg q6) v6
        have e3 : gR rows (gi h2 150 0) (gi h2 151 0) 3 = rows 3 := if_neg (by decide)
        have e0 : gR rows (gi h2 150 0) (gi h2 151 0) 0 = (gi h2 150 0, gi h2 151 0, (rows 0).2.2) := if_pos rfl
        refine lB_mk (h1 := h1) (n := 0) (E := E) (rows := gR rows (gi h2 150 0) (gi h2 151 0)) hP hR hJ6 (by decide) ?_ (k2.bc q4) Q ⟨?_, ?_, fun k hk => absurd hk (Nat.not_lt_zero k)⟩
        · rw [e0, e3, ← d1, ← d2]
          exact C
        · rw [e0]
          exact hA.1
        · rw [e3]
          exact hA.2.1
/-- note and out: how many notes, by the pairs of 87e -/
theorem lI_of {h : zH} (hI : lInq h) : lInv h := ⟨hI.1, hI.2.1, lNs_of hI.2.2⟩
def BCn : List (Nat × Nat) := BC.filter (fun t => !(Nat.beq t.1 120))
def BRn : List (Nat × Nat) := BR.filter (fun t => !(Nat.beq t.1 128 && Nat.beq t.2 67))
def kBCn (M : List aD) : Bool := BCn.all (fun t => kf M t.1 t.2)
def kBRn (M : List aD) : Bool := BRn.all (fun t => kf M t.1 t.2)
/-- the notes' places apart -/
theorem lB_nt {h h2 : zH} (hB : lB h) (hc : ∀ t ∈ BCn, rd h2 t.1 t.2 = rd h t.1 t.2) (hr : ∀ t ∈ BRn, rd h2 t.1 t.2 = rd h t.1 t.2) (hN : gi h2 120 5 = gi h2 128 67) : lB h2 := by
  obtain ⟨P, R, J, n, E, rows, kp, nt, L, hP, hR, hJ, hn, ⟨c1, c2, c3, c4, c5, c6, c7, c8, c9, c10, c11⟩, ⟨r1, r2, r3, r4, r5, r6, r7⟩, hA⟩ := hB
  have i : ∀ a k : Nat, (a, k) ∈ BCn → gi h2 a k = gi h a k := fun a k m => gi_rd (hc (a, k) m)
  have jl : ∀ a k : Nat, (a, k) ∈ BCn → gl h2 a k = gl h a k := fun a k m => gl_rd (hc (a, k) m)
  have jr : ∀ a k : Nat, (a, k) ∈ BCn → gr h2 a k = gr h a k := fun a k m => gr_rd (hc (a, k) m)
  have i2 : ∀ a k : Nat, (a, k) ∈ BRn → gi h2 a k = gi h a k := fun a k m => gi_rd (hr (a, k) m)
  have jl2 : ∀ a k : Nat, (a, k) ∈ BRn → gl h2 a k = gl h a k := fun a k m => gl_rd (hr (a, k) m)
  have bp : ∀ p : Nat, p < 6 → (55 + 3 + 2 * p, 2) ∈ BCn ∧ (55 + 3 + 2 * p, 4) ∈ BCn ∧ (70 + 3 + 2 * p, 2) ∈ BCn ∧ (70 + 3 + 2 * p, 4) ∈ BCn ∧ (55 + 2, p) ∈ BCn ∧ (70 + 2, p) ∈ BCn := xpB_ok (by decide +kernel)
  have bk : ∀ k : Nat, k < 20 → (117, k) ∈ BCn ∧ (118, k) ∈ BCn ∧ (119, k) ∈ BCn := xkB_ok (by decide +kernel)
  have br : ∀ r : Nat, r < 24 → (r = 0 ∨ 3 ≤ r) → (150, r) ∈ BRn ∧ (151, r) ∈ BRn ∧ (155, r) ∈ BRn := xrB_ok (by decide +kernel)
  have bq : ∀ r : Nat, r < 24 → (r = 0 ∨ 3 ≤ r) → ∀ p : Nat, p < 6 → (156, 6 * r + p) ∈ BRn ∧ (164, 6 * r + p) ∈ BRn := xqB_ok (by decide +kernel)
  refine ⟨P, R, J, n, E, rows, kp, gi h2 128 67, L, hP, hR, hJ, hn, ⟨(jr 0 5 (by decide +kernel)).trans c1, (jr 55 2 (by decide +kernel)).trans c2, ?_, ?_, (i 55 3 (by decide +kernel)).trans c5, (i 116 3 (by decide +kernel)).trans c6, hN, (i 0 11 (by decide +kernel)).trans c8, c9.of (i 55 4 (by decide +kernel)) (i 55 5 (by decide +kernel)) (fun p hp => ⟨i _ 2 (bp p (by omega)).1, i _ 4 (bp p (by omega)).2.1⟩) (fun j hj => jl _ j (bp j (by omega)).2.2.2.2.1), ?_, fun k hk => ?_⟩, ⟨(i2 130 0 (by decide +kernel)).trans r1, (i2 130 1 (by decide +kernel)).trans r2, (i2 130 2 (by decide +kernel)).trans r3, (i2 128 54 (by decide +kernel)).trans r4, rfl, (i2 128 53 (by decide +kernel)).trans r6, fun r hr => ?_⟩, hA⟩
  · rcases hP with rfl | rfl
    · exact (i 7 10 (by decide +kernel)).trans c3
    · exact (i 31 10 (by decide +kernel)).trans c3
  · rcases hP with rfl | rfl
    · exact (i 12 3 (by decide +kernel)).trans c4
    · exact (i 36 3 (by decide +kernel)).trans c4
  · rcases c10 with z | ⟨z1, z2, z3⟩
    · exact Or.inl z
    · exact Or.inr ⟨(i 70 3 (by decide +kernel)).trans z1, (jr 70 2 (by decide +kernel)).trans z2, z3.of (i 70 4 (by decide +kernel)) (i 70 5 (by decide +kernel)) (fun p hp => ⟨i _ 2 (bp p (by omega)).2.2.1, i _ 4 (bp p (by omega)).2.2.2.1⟩) (fun j hj => jl _ j (bp j (by omega)).2.2.2.2.2)⟩
  · obtain ⟨m1, m2, m3⟩ := bk k (by omega)
    rw [i 117 k m1, i 118 k m2, i 119 k m3]
    exact c11 k hk
  · obtain ⟨z1, z2, z3⟩ := br r (by omega) (by omega)
    exact (rowOf_eq (i2 150 r z1) (i2 151 r z2) (i2 155 r z3) (fun p hp => i2 156 _ (bq r (by omega) (by omega) p hp).1) (fun p hp => jl2 164 _ (bq r (by omega) (by omega) p hp).2)).trans (r7 r hr)
theorem nt_fin {h h1 h2 : zH} {M1 M2 : List aD} (hI : lInq h) (k1 : KP M1 h h1) (k2 : KP M2 h1 h2) (p1 : (kBCn M1 && kBRn M1) = true) (p2 : (kBCn M2 && kBRn M2) = true) (hZ : lZ h2) : lQ h2 := by
  rw [Bool.and_eq_true] at p1 p2
  have c : ∀ t ∈ BCn, inW t.1 t.2 = true := fun t ht => List.all_eq_true.mp BC_in t ((List.mem_filter.mp ht).1)
  have r : ∀ t ∈ BRn, inW t.1 t.2 = true := fun t ht => List.all_eq_true.mp BR_in t ((List.mem_filter.mp ht).1)
  exact ⟨hZ.1, lB_nt hI.2.2 (fun t ht => (k2.pl (c t ht) (List.all_eq_true.mp p2.1 t ht)).trans (k1.pl (c t ht) (List.all_eq_true.mp p1.1 t ht))) (fun t ht => (k2.pl (r t ht) (List.all_eq_true.mp p2.2 t ht)).trans (k1.pl (r t ht) (List.all_eq_true.mp p1.2 t ht))) hZ.2.2.2⟩
end
section
/-! text of both sides, between the passes: the relation behind it. -/
theorem RP.fm {R J n : Nat} {rows : Nat → rRow} {kp nt L : Int32} {m m' : xM} {g g' : xL} (h : RP R J n rows kp nt L m g) (hF : FM m m') (hG : FG g g') : RP R J n rows kp nt L m' g' := by
  obtain ⟨r1, r2, r3, r4, r5, r6, r7⟩ := h
  refine ⟨(hF 130 0 (Or.inl (Or.inl ⟨rfl, by decide⟩))).trans r1, (hF 130 1 (Or.inl (Or.inl ⟨rfl, by decide⟩))).trans r2, (hF 130 2 (Or.inl (Or.inl ⟨rfl, by decide⟩))).trans r3, (hF 128 54 (Or.inr (Or.inr ⟨rfl, by decide⟩))).trans r4, (hF 128 67 (Or.inr (Or.inr ⟨rfl, by decide⟩))).trans r5, (hF 128 53 (Or.inr (Or.inr ⟨rfl, by decide⟩))).trans r6, fun r hr => ?_⟩
  exact (rowOf_eq (hF 150 r (Or.inr (Or.inl (by decide)))) (hF 151 r (Or.inr (Or.inl (by decide)))) (hF 155 r (Or.inr (Or.inl (by decide)))) (fun p _ => hF 156 _ (Or.inr (Or.inl (by decide)))) (fun p _ => hG 164 _ (fun z => absurd z (by decide)))).trans (r7 r hr)
/-- the class's cells behind a bad text -/
theorem CP.cs {P R J n : Nat} {E : Nat → Int32 × Int32 × Int32} {w0 w3 : rRow} {kp nt L : Int32} {m m' : xM} {g g' : xL} {q q' : Nat → Nat → Option Nat} (hR : R ≤ 6) (h : CP P R J n E w0 w3 kp nt L m g q) (hm : ∀ a : Nat, (a = P ∨ a = P + 5 ∨ (55 ≤ a ∧ a < 85) ∨ (116 ≤ a ∧ a ≤ 120)) → m' a = m a ∧ g' a = g a) (h11 : m' 0 11 = m 0 11) (hq : q' 0 5 = q 0 5 ∧ q' 55 2 = q 55 2 ∧ q' 70 2 = q 70 2) : CP P R J n E w0 w3 kp nt L m' g' q' := by
  obtain ⟨c1, c2, c3, c4, c5, c6, c7, c8, c9, c10, c11⟩ := h
  refine ⟨hq.1.trans c1, hq.2.1.trans c2, by rw [(hm P (by omega)).1]; exact c3, by rw [(hm (P + 5) (by omega)).1]; exact c4, by rw [(hm 55 (by omega)).1]; exact c5, by rw [(hm 116 (by omega)).1]; exact c6, by rw [(hm 120 (by omega)).1]; exact c7, h11.trans c8, c9.row hR (fun c d1 d2 => (hm c (by omega)).1) (hm 57 (by omega)).2, ?_, fun k hk => by rw [(hm 117 (by omega)).1, (hm 118 (by omega)).1, (hm 119 (by omega)).1]; exact c11 k hk⟩
  rcases c10 with z | ⟨y1, y2, y3⟩
  · exact Or.inl z
  · exact Or.inr ⟨by rw [(hm 70 (by omega)).1]; exact y1, hq.2.2.trans y2, y3.row hR (fun c d1 d2 => (hm c (by omega)).1) (hm 72 (by omega)).2⟩
theorem csh_B : (List.range 30).all (fun j => csh (55 + j)) = true ∧ (List.range 5).all (fun j => csh (116 + j)) = true := by decide +kernel
/-- miles told from the start: from their table's types -/
def ml60 : Bool := [7, 31].all (fun P => (List.range 8).all (fun r => inW (P + 8) (r * 2 + 1) && decide (apl (afm qW (asrt qW (P + 8))) (r * 2 + 1) = (0, 0, 60))))
theorem ml60_ok : ml60 = true := by decide +kernel
theorem tb3_b {h : zH} {P : Nat} {T : Nat → List (List Int32)} (hH : aH qW qG [0] [] h) (hP : P = 7 ∨ P = 31) (ht : tbC (P + 1 + 2 * 3) (P + 2 + 2 * 3) (cN 3) (mN 3) (T 3) (gi h)) : ∀ r : List Int32, r ∈ T 3 → 0 ≤ (r.getD 1 0).toInt ∧ (r.getD 1 0).toInt ≤ 60 := fun r hr => by
  obtain ⟨-, -, -, t1, t2⟩ := ht
  obtain ⟨i, hi, e⟩ := List.mem_iff_getElem.mp hr
  have t1 : (T 3).length ≤ 8 := t1
  have e2 : (T 3).getD i [] = r := by rw [List.getD_eq_getElem?_getD, List.getElem?_eq_getElem hi, e]; rfl
  have c := t2 i hi 1 (by decide)
  rw [e2] at c
  have q := List.all_eq_true.mp ml60_ok P (by rcases hP with rfl | rfl <;> decide)
  have q := List.all_eq_true.mp q i (List.mem_range.mpr (by omega))
  rw [Bool.and_eq_true] at q
  obtain ⟨x, -, x2, x3, x4⟩ := iv_of hH q.1 (of_decide_eq_true q.2)
  rw [show P + 2 + 2 * 3 = P + 8 by omega, show cN 3 = 2 from rfl] at c
  rw [← c, x2]
  exact ⟨x3, x4⟩
theorem tld_60 {rows : List (List Int32)} {j : Int32} {v : Nat} (h : ∀ r : List Int32, r ∈ rows → 0 ≤ (r.getD 1 0).toInt ∧ (r.getD 1 0).toInt ≤ 60) (hv : 61 ≤ v) (hv2 : v < 64) : tld rows j (Int32.ofNat v) = false := by
  unfold tld
  rw [List.any_eq_false]
  intro r hr q
  rw [Bool.and_eq_true] at q
  have e := of_decide_eq_true q.2
  have b := (h r hr).2
  rw [e, xn_int (by omega)] at b
  omega
theorem text_B {nf : Bool} {xs : List Int32} {d : Nat} {h h1 h2 : zH} {r1 r2 : Option Value} {x : Int32} {M1 M2 : List aD} (hI : lInq h) (e1 : zEv (zXt nf xs) zIT zmcl zMt d 100 [.ref 0, .int x] h r1 h1) (e2 : zEv (zXt nf xs) zIT zmcl zMt d 181 [.ref 128, .int x] h1 r2 h2) (S1 : aSh qW h1) (hJ2 : lJ h2) (hX2 : lX h2) (k1 : KP M1 h h1) (k2 : KP M2 h1 h2) (q1 : txM M1 = true) (q4 : tzM M2 = true) (q3 : kBR M1 = true) (q5 : kBC M2 = true) : lB h2 := by
  obtain ⟨hJ, ⟨-, ⟨x1, x2, ⟨P0, P, x3, x4, x5⟩, x6, x7, x8, x9⟩, y31, Pz, T, hPz, y5, yc, yr⟩, Pb, R, J, nB, E, rows, kp, nt, L, hPb, hR, hJ6, hnB, hC, hRr, hA⟩ := hI
  have hPP : P0 = Pz := by
    rw [x4] at y5
    cases y5
    rfl
  subst hPP
  have hPB : P0 = Pb := by
    have := (gr_of x4).symm.trans hC.1
    cases this
    rfl
  subst hPB
  have hRC : RC (gr h, gs h) P := rc_of hJ.1.1 x1 x2 y31 (by omega)
  have hS := hJ.1.1
  obtain ⟨p, hp, p1, p2⟩ := len_of hJ
  have t1 := zEv_KT _ _ _ _ _ _ e1 x1
  have t2 := zEv_KT _ _ _ _ _ _ e2 t1
  unfold txM at q1
  rw [Bool.and_eq_true, Bool.and_eq_true, Bool.and_eq_true, Bool.and_eq_true] at q1
  have hr1 := k1.rf q1.1 x2
  have hT := tp_eq hS ⟨x1, x2, ⟨P0, P, x3, x4, x5⟩, x6, x7, x8, x9⟩
  have qk := q1.2.1
  unfold xk2 at qk
  rw [Bool.and_eq_true] at qk
  have u2 := tp_keep hS S1 k1 129 50 (Or.inr ⟨rfl, rfl⟩) qk.2
  have hw : WD (gi h 4) := fun i hi => by
    show xi (rd h 4 i) = _
    rw [x6 i hi]
    rfl
  have hP : P = 7 ∨ P = 31 := by omega
  have hG := gc_of hS x2 hP x4 x5
  have hb := fun i hi => byt_of hJ.1 (i := i) hi
  have hTb : ∀ w : Nat, w < 8 → gi h (P + 1 + 2 * w) 0 = Int32.ofNat (cN w) ∧ gi h (P + 1 + 2 * w) 1 = Int32.ofNat (mN w) := fun w hw8 => by
    obtain ⟨-, -, -, i0, i1, a0, a1⟩ := (P_s hP).1 w hw8
    obtain ⟨y0, -, y1, y2, y3⟩ := iv_of hJ.1 i0 a0
    obtain ⟨z0, -, z1, z2, z3⟩ := iv_of hJ.1 i1 a1
    have c1 := cN_b w
    have c2 := mN_b w
    rw [y1, z1]
    exact ⟨ofN_of y2 y3 (by omega), ofN_of z2 z3 (by omega)⟩
  obtain ⟨m1, g1, G1, hs1, c1⟩ := cg_text hG hRC (nsh hJ.1.1 (by decide +kernel)) p1 hp (fun i hi => (hb i hi).1) (fun i hi => (hb i hi).2) hw hTb h r1 h1 (HS_of x1) e1
  have p3 : gi h1 128 2 = Int32.ofNat p := by
    show xi (rd h1 128 2) = _
    rw [k1.pl (by decide +kernel) q1.2.2.1, p2]
    rfl
  have e9 : gi h1 129 = gi h 1 := by rw [u2, hT]
  obtain ⟨m2, g2, hs2, c2⟩ := ct_textR (wd := gi h 4) (gt_of S1 hr1) hw p3 hp (fun i hi => by rw [e9]; exact (hb i hi).1) (fun i hi => by rw [e9]; exact (hb i hi).2) h1 r2 h2 (HS_of t1) e2
  rw [e9] at c2
  have em1 : gi h1 = m1 := hs1.2.1
  have el1 : gl h1 = g1 := hs1.2.2.1
  have er1 : gr h1 = G1.1 := hs1.2.2.2.1
  have em2 : gi h2 = m2 := hs2.2.1
  have el2 : gl h2 = g2 := hs2.2.2.1
  have R1 := hRr.st hnB (k1.br q3)
  rcases c1 with ⟨c1, -, em, eg, eG⟩ | ⟨n, c1, hn, f, o, ho, c1'⟩
  · rcases c2 with ⟨-, -, -, -, cF, cG⟩ | ⟨n, c2, hn, -⟩
    · exact lB_mk (h1 := h1) hPz hR hJ6 hnB (by rw [em1, el1, er1, em, eg, eG]; exact hC) (k2.bc q5) (by rw [em2, el2]; exact R1.fm cF cG) hA
    · rw [c2, xn_int (by omega)] at c1
      omega
  · rcases c2 with ⟨c2, -⟩ | ⟨n', c2, hn', f', o', ho', c2'⟩
    · rw [c1, xn_int (by omega)] at c2
      omega
    · have en : n = n' := xn_inj (by omega) (by omega) (c1.symm.trans c2)
      subst en
      have eo := lns_det ho ho'
      subst eo
      cases o with
      | inl e =>
        obtain ⟨-, -, -, c4, c4g, c4f⟩ := c1'
        obtain ⟨-, -, -, cF, cG⟩ := c2'
        refine lB_mk (h1 := h1) hPz hR hJ6 hnB ?_ (k2.bc q5) (by rw [em2, el2]; exact R1.fm cF cG) hA
        rw [em1, el1, er1, c4]
        refine hC.cs hR (fun a ha => c4f a ?_ (by omega)) c4g ⟨xgu_oth (by decide), xgu_oth (by decide), xgu_oth (by decide)⟩
        rcases ha with z | z | ⟨z1, z2⟩ | ⟨z1, z2⟩
        · exact pl_nRA hS x3 (by omega) (by omega)
        · exact pl_nRA hS x3 (by omega) (by omega)
        · have s := List.all_eq_true.mp csh_B.1 (a - 55) (List.mem_range.mpr (by omega))
          rw [show 55 + (a - 55) = a by omega] at s
          exact nRA hS hP (by omega) s
        · have s := List.all_eq_true.mp csh_B.2 (a - 116) (List.mem_range.mpr (by omega))
          rw [show 116 + (a - 116) = a by omega] at s
          exact nRA hS hP (by omega) s
      | inr q =>
        obtain ⟨-, -, -, c4, ⟨c41, c42, c43, c44, c45, c46, -, c47, c48, c49⟩, c4t⟩ := c1'
        obtain ⟨-, -, -, c5t, ⟨c51, c52, c53, -⟩, s1, s2, s3, s4, s5⟩ := c2'
        have T1 : (q.1.1 1).length ≤ 6 := c5t.1 1 (by decide)
        have T2 : (q.1.1 2).length ≤ 6 := c5t.1 2 (by decide)
        have b60 : ∀ r : List Int32, r ∈ q.1.1 3 → 0 ≤ (r.getD 1 0).toInt ∧ (r.getD 1 0).toInt ≤ 60 := by
          have c3 : ∀ w : Nat, w < 8 → tbC (P + 1 + 2 * w) (P + 2 + 2 * w) (cN w) (mN w) (q.1.1 w) (gi h1) := by rw [em1]; exact c4t
          exact tb3_b hJ2.1 hP (k2.tc hP (xkp_of hP q4) c3 3 (by decide))
        have eqb : ∀ j : Nat, j < (q.1.1 2).length → g1 57 j = g2 164 j := fun j hj => bl_ext (fun v hv => by
          rw [c49 j (by omega), tlF_bits hv _ _ (fun r hr => ⟨(b60 r hr).1, by have := (b60 r hr).2; omega⟩), bl_0, Bool.false_or, s5 j hj v hv])
        have hrow := row_at (m := m2) (g := g2)
        refine lB_mk (h1 := h1) (P := P) (R := (q.1.1 1).length) (J := (q.1.1 2).length) (n := 0) (E := fun _ => (0, 0, 0)) (rows := rowOf m2 g2) (kp := 0) (nt := 0) (L := m2 130 0) hP T1 T2 (by decide) ?_ (k2.bc q5) ?_ ⟨?_, Or.inl rfl, fun k hk => absurd hk (Nat.not_lt_zero k)⟩
        · rw [em1, el1, er1, c4]
          refine ⟨(xgu_oth (by decide)).trans ((xgu_oth (by decide)).trans xgu_same), xgu_same, c47.trans (c5t.2.2.2 0 (Or.inl rfl)).symm, ?_, c41, c45, c46, c44, ⟨c42.trans s1.symm, c43.trans s2.symm, fun p hp => ⟨?_, ?_⟩, fun j hj => ?_⟩, Or.inl rfl, fun k hk => absurd hk (Nat.not_lt_zero k)⟩
          · have z := (c4t 2 (by decide)).2.2.1
            rw [show P + 1 + 2 * 2 = P + 5 by omega] at z
            exact z
          · rw [hrow.2.2.2.1 p (by omega), s4 p hp]
            exact (c48 p hp).1
          · rw [hrow.2.2.1, s3, bj_0]
            exact (c48 p hp).2
          · rw [hrow.2.2.2.2 j (by omega)]
            exact eqb j hj
        · rw [em2, el2]
          exact ⟨rfl, c5t.2.1 1 (by decide) (by decide), c5t.2.1 2 (by decide) (by decide), c52, c53, c51, fun r _ => rfl⟩
        · intro j hj v v1 v2
          rw [hrow.2.2.2.2 j (by omega), s5 j hj v v2]
          exact tld_60 b60 v1 v2
end
section
/-! told of both sides, between the passes. -/
theorem TLD_eq {x y : Int32} {J : Nat} {w1 w2 : Nat → Int64} {r1 r2 : Option Value} (hJ : J ≤ 6) (hw : ∀ j : Nat, j < J → w1 j = w2 j) (h1 : TLD x y J w1 r1) (h2 : TLD x y J w2 r2) : r1 = r2 := by
  rcases h1 with ⟨a1, a2⟩ | ⟨j, hj, a1, v, hv, a2, a3⟩
  · rcases h2 with ⟨-, b2⟩ | ⟨j, hj, b1, v, hv, b2, -⟩
    · exact a2.trans b2.symm
    · rcases a1 with a1 | a1
      · rw [b1, rdV_1 hj hJ] at a1
        exact absurd a1 (by decide)
      · rw [b2, mlV_1 hv] at a1
        exact absurd a1 (by decide)
  · rcases h2 with ⟨b1, -⟩ | ⟨j', hj', b1, v', hv', b2, b3⟩
    · rcases b1 with b1 | b1
      · rw [a1, rdV_1 hj hJ] at b1
        exact absurd b1 (by decide)
      · rw [a2, mlV_1 hv] at b1
        exact absurd b1 (by decide)
    · have ej : j' = j := xn_inj (by omega) (by omega) (b1.symm.trans a1)
      have ev : v' = v := xn_inj (by omega) (by omega) (b2.symm.trans a2)
      rw [a3, b3, ej, ev, hw j hj]
theorem told_pair {nf : Bool} {xs : List Int32} {d : Nat} {h h1 h2 : zH} {r1 r2 : Option Value} {x y : Int32} {M1 : List aD} (hI : lInq h) (e1 : zEv (zXt nf xs) zIT zmcl zMt d 110 [.ref 0, .int x, .int y] h r1 h1) (e2 : zEv (zXt nf xs) zIT zmcl zMt d 221 [.ref 128, .int x, .int y] h1 r2 h2) (S1 : aSh qW h1) (k1 : KP M1 h h1) (q1 : xk M1 = true) (q3 : kBR M1 = true) : r1 = r2 := by
  obtain ⟨hJ, hX, P, R, J, n, E, rows, kp, nt, L, hP, hR, hJ6, hn, hC, hRr, hA⟩ := hI
  have t1 := zEv_KT _ _ _ _ _ _ e1 hX.1
  have y1 := lX_keep hX t1 k1 q1
  have x2 := hX.2.1.2.1
  have hr1 := y1.2.1.2.1
  have R1 := hRr.st hn (k1.br q3)
  have hL := hC.2.2.2.2.2.2.2.2.1
  have hP2 : gr h P 2 = some (P + 5) := by
    rcases hP with rfl | rfl
    · exact rf_of x2 (by decide +kernel)
    · exact rf_of x2 (by decide +kernel)
  obtain ⟨n1, g1, hs1, c1, -, -⟩ := ct_toldC (J := J) (rf_of x2 (by decide +kernel)) hC.1 hP2 (gq_of (Or.inl rfl) hJ.1.1 x2) hC.2.2.2.1 hJ6 h r1 h1 (HS_of hX.1) e1
  obtain ⟨n2, g2, hs2, c2, -⟩ := ct_toldR (J := J) (gw_of S1 hr1) (rf_of hr1 (by decide +kernel)) (gsR S1 (by decide +kernel)) R1.2.2.1 hJ6 h1 r2 h2 (HS_of t1) e2
  refine TLD_eq hJ6 (fun j hj => ?_) c1 c2
  have a : gl h 57 j = (rows 0).2.2.2.2 j := hL.2.2.2 j hj
  have b : gl h1 164 j = (rows 0).2.2.2.2 j := by
    rw [← R1.2.2.2.2.2.2 0 (Or.inl rfl)]
    exact (row_at.2.2.2.2 j (by omega)).symm
  exact a.trans b.symm
theorem lnz01 (x : Int32) : lnz x = 0 ∨ lnz x = 1 := by
  unfold lnz
  by_cases e : x = 0
  · rw [if_pos e]; exact Or.inl rfl
  · rw [if_neg e]; exact Or.inr rfl
end
