/-! The places that are worked out of the heap, by what stands in the protected places alone (qv), so that a write elsewhere leaves them. -/
abbrev qF : Type := Nat → Nat → Int
def qi (h : zH) (a k : Nat) : Int := match rd h a k with
  | some (.int x) => x.toInt
  | _ => 0
/-- the protected places -/
def qpr (a k : Nat) : Bool := (Nat.beq a 2 && (Nat.beq k 2 || Nat.beq k 4)) || ((Nat.beq a 6 && Nat.ble k 71) || ((Nat.beq a 128 && (Nat.beq k 33 || (Nat.beq k 26 || Nat.beq k 27))) || ((Nat.beq a 130 && Nat.beq k 17) || ((Nat.beq a 144 && Nat.ble k 5) || ((Nat.beq a 145 && Nat.ble k 5) || ((Nat.beq a 146 && Nat.ble k 127) || (Nat.beq a 147 && Nat.ble k 127)))))))
def qv (h : zH) : qF := fun a k => bif qpr a k then qi h a k else 0
def qud (F : qF) (a k : Nat) (z : Int) : qF := fun b j => if b = a ∧ j = k then z else F b j
/-- no sign -/
def qns (t : Int) : Bool := !((ile 10 t && ile t 19) || (ile 44 t && ile t 46))
def qgc (F : qF) : Nat := (List.range (F 2 2).toNat).countP (fun i => qns (F 6 i))
/-- one knot: height behind it -/
def qst (s v : Int) (H : Nat) : Option Nat := bif ieq s 0 then some (H + 1) else (bif ieq s 1 then (bif ile 0 v && ile v 6 then some (H + 1) else none) else (bif ieq s 2 then (bif ieq v 260 then (bif Nat.ble 1 H then some H else none) else (bif Nat.ble 2 H then some (H - 1) else none)) else none))
/-- height of n knots from b on, in the half that begins at o -/
def qhn (F : qF) (o b : Nat) : Nat → Option Nat
  | 0 => some 0
  | n + 1 => match qhn F o b n with
    | some H => qst (F 146 (o + (b + n))) (F 147 (o + (b + n))) H
    | none => none
def qba (F : qF) : Int := max (F 144 3) (max (F 144 4) (F 144 5))
/-- a law from f to t, in the half that begins at o, is whole (or isn't there); m: as far as knots go -/
def qlw (F : qF) (o : Nat) (f t m : Int) : Prop := 0 ≤ f ∧ f ≤ m ∧ t ≤ m ∧ (f < t → qhn F o f.toNat (t - f).toNat = some 1)
def qp2 (F : qF) : Prop := F 130 17 ≤ 64 ∧ qlw F 64 (F 144 3) (F 145 3) (F 130 17) ∧ qlw F 64 (F 144 4) (F 145 4) (F 130 17) ∧ qlw F 64 (F 144 5) (F 145 5) (F 130 17)
def qp1 (F : qF) : Prop := qlw F 0 (F 144 0) (F 145 0) 64 ∧ qlw F 0 (F 144 1) (F 145 1) 64 ∧ qlw F 0 (F 144 2) (F 145 2) 64
/-- how many leading places of the first half are as in the second -/
def qpe (F : qF) (a n : Nat) : Nat → Nat
  | 0 => 0
  | k + 1 => if qpe F a n k = k ∧ F a k = F a (n + k) then k + 1 else qpe F a n k
noncomputable def qbo (p : Prop) : Int := @ite Int p (Classical.propDecidable p) 1 0
theorem qbo_t {p : Prop} (h : p) : qbo p = 1 := if_pos h
theorem qbo_f {p : Prop} (h : ¬ p) : qbo p = 0 := if_neg h
theorem qbo_1 {p : Prop} (h : qbo p = 1) : p := by
  by_cases q : p
  · exact q
  · rw [qbo_f q] at h
    cases h
theorem qbo_01 (p : Prop) : 0 ≤ qbo p ∧ qbo p ≤ 1 := by
  by_cases q : p
  · rw [qbo_t q]; decide
  · rw [qbo_f q]; decide
noncomputable def qgF (F : qF) (a k : Nat) : Option Int := if a = 2 then (if k = 7 then some (qgc F) else if k = 8 then some (F 2 4 - (F 2 2).toNat + qgc F) else if k = 9 then some (72 - F 2 2) else none)
  else if a = 128 then (if k = 74 then some (F 128 33 - (F 130 17).toNat) else if k = 75 then some (match qhn F 64 (qba F).toNat ((F 130 17).toNat - (qba F).toNat) with
    | some H => (H : Int)
    | none => -1) else if k = 76 then some (qba F) else if k = 77 then some (qbo (qp2 F)) else if k = 78 then some (qbo (qp1 F)) else if k = 79 then some (qpe F 144 3 3) else if k = 80 then some (qpe F 145 3 3) else if k = 81 then some (qpe F 146 64 64) else if k = 82 then some (qpe F 147 64 64) else if k = 83 then some (if F 128 26 = 0 then F 128 27 else 0) else none) else none
noncomputable def qG : aG := fun a k h => (qgF (qv h) a k).map Int32.ofInt
/-! What a write does to what stands in the protected places. -/
theorem qi_int {h : zH} {a k : Nat} {x : Int32} (q : rd h a k = some (.int x)) : qi h a k = x.toInt := by
  unfold qi
  rw [q]
theorem qv_on {h : zH} {a k : Nat} (q : qpr a k = true) : qv h a k = qi h a k := by
  unfold qv
  rw [q]
  rfl
theorem qv_wr {h h' : zH} {a k : Nat} (hp : qpr a k = true) (hr : ∀ b j : Nat, ¬ (b = a ∧ j = k) → rd h' b j = rd h b j) : qv h' = qud (qv h) a k (qi h' a k) := by
  funext b j
  unfold qud
  by_cases e : b = a ∧ j = k
  · rw [if_pos e, e.1, e.2, qv_on hp]
  · rw [if_neg e]
    unfold qv
    have : qi h' b j = qi h b j := by unfold qi; rw [hr b j e]
    rw [this]
theorem qv_no {h h' : zH} {a k : Nat} (hp : qpr a k = false) (hr : ∀ b j : Nat, ¬ (b = a ∧ j = k) → rd h' b j = rd h b j) : qv h' = qv h := by
  funext b j
  unfold qv
  by_cases e : b = a ∧ j = k
  · rw [e.1, e.2, hp]
    rfl
  · have : qi h' b j = qi h b j := by unfold qi; rw [hr b j e]
    rw [this]
theorem qud_same (F : qF) (a k : Nat) (z : Int) : qud F a k z a k = z := by simp [qud]
theorem qud_a {F : qF} {a k b : Nat} {z : Int} (h : ¬ b = a) (j : Nat) : qud F a k z b j = F b j := by simp [qud, h]
theorem qud_k {F : qF} {a k b j : Nat} {z : Int} (h : ¬ j = k) : qud F a k z b j = F b j := by simp [qud, h]
/-- a protected place is one by the list, too -/
theorem qpr_prt {a k : Nat} (h : aprt qPt.1 (asrt qW a) k k = true) : qpr a k = false := by
  cases hq : qpr a k with
  | false => rfl
  | true =>
    exfalso
    unfold aprt at h
    rw [List.all_eq_true] at h
    have key : ∀ p ∈ qPt.1, ieq (asrt qW a) p.1 = true → p.2.1 ≤ (k : Int) → (k : Int) ≤ p.2.2 → False := fun p hp h1 h2 h3 => by
      have := h p hp
      rw [h1, ile_iff.mpr h2, ile_iff.mpr h3] at this
      cases this
    unfold qpr at hq
    simp only [Bool.or_eq_true, Bool.and_eq_true] at hq
    rcases hq with ⟨q1, q2 | q2⟩ | ⟨q1, q2⟩ | ⟨q1, q2⟩ | ⟨q1, q2⟩ | ⟨q1, q2⟩ | ⟨q1, q2⟩ | ⟨q1, q2⟩ | ⟨q1, q2⟩
    · have e1 := Nat.eq_of_beq_eq_true q1; have e2 := Nat.eq_of_beq_eq_true q2; subst e1 e2
      exact key (2, 2, 2) (by decide) (by decide +kernel) (by decide) (by decide)
    · have e1 := Nat.eq_of_beq_eq_true q1; have e2 := Nat.eq_of_beq_eq_true q2; subst e1 e2
      exact key (2, 4, 4) (by decide) (by decide +kernel) (by decide) (by decide)
    · have e1 := Nat.eq_of_beq_eq_true q1; have e2 := Nat.le_of_ble_eq_true q2; subst e1
      exact key (6, 0, 71) (by decide) (by decide +kernel) (by show (0 : Int) ≤ k; omega) (by show (k : Int) ≤ 71; omega)
    · have e1 := Nat.eq_of_beq_eq_true q1; subst e1
      rcases q2 with q2 | q2 | q2
      · have e2 := Nat.eq_of_beq_eq_true q2; subst e2
        exact key (49, 33, 33) (by decide) (by decide +kernel) (by decide) (by decide)
      · have e2 := Nat.eq_of_beq_eq_true q2; subst e2
        exact key (49, 26, 26) (by decide) (by decide +kernel) (by decide) (by decide)
      · have e2 := Nat.eq_of_beq_eq_true q2; subst e2
        exact key (49, 27, 27) (by decide) (by decide +kernel) (by decide) (by decide)
    · have e1 := Nat.eq_of_beq_eq_true q1; have e2 := Nat.eq_of_beq_eq_true q2; subst e1 e2
      exact key (51, 17, 17) (by decide) (by decide +kernel) (by decide) (by decide)
    · have e1 := Nat.eq_of_beq_eq_true q1; have e2 := Nat.le_of_ble_eq_true q2; subst e1
      exact key (65, 0, 5) (by decide) (by decide +kernel) (by show (0 : Int) ≤ k; omega) (by show (k : Int) ≤ 5; omega)
    · have e1 := Nat.eq_of_beq_eq_true q1; have e2 := Nat.le_of_ble_eq_true q2; subst e1
      exact key (66, 0, 5) (by decide) (by decide +kernel) (by show (0 : Int) ≤ k; omega) (by show (k : Int) ≤ 5; omega)
    · have e1 := Nat.eq_of_beq_eq_true q1; have e2 := Nat.le_of_ble_eq_true q2; subst e1
      exact key (67, 0, 127) (by decide) (by decide +kernel) (by show (0 : Int) ≤ k; omega) (by show (k : Int) ≤ 127; omega)
    · have e1 := Nat.eq_of_beq_eq_true q1; have e2 := Nat.le_of_ble_eq_true q2; subst e1
      exact key (68, 0, 127) (by decide) (by decide +kernel) (by show (0 : Int) ≤ k; omega) (by show (k : Int) ≤ 127; omega)
/-- beside the real places -/
theorem qG_real {a k : Nat} {h : zH} (ha : a < qW.1.length) (hk : k < (afm qW (asrt qW a)).2.2.1) : qG a k h = none := by
  have h2 : (afm qW (asrt qW 2)).2.2.1 = 7 := by decide +kernel
  have h3 : (afm qW (asrt qW 128)).2.2.1 = 74 := by decide +kernel
  show (qgF (qv h) a k).map Int32.ofInt = none
  unfold qgF
  by_cases e : a = 2
  · subst e
    rw [h2] at hk
    rw [if_pos rfl, if_neg (by omega), if_neg (by omega), if_neg (by omega)]
    rfl
  · rw [if_neg e]
    by_cases e : a = 128
    · subst e
      rw [h3] at hk
      rw [if_pos rfl, if_neg (by omega), if_neg (by omega), if_neg (by omega), if_neg (by omega), if_neg (by omega), if_neg (by omega), if_neg (by omega), if_neg (by omega), if_neg (by omega), if_neg (by omega)]
      rfl
    · rw [if_neg e]
      rfl
theorem qG_plain {h h' : zH} {a k : Nat} (hp : aprt qPt.1 (asrt qW a) k k = true) (hr : ∀ b j : Nat, ¬ (b = a ∧ j = k) → rd h' b j = rd h b j) (b j : Nat) : qG b j h' = qG b j h := by
  show (qgF (qv h') b j).map Int32.ofInt = (qgF (qv h) b j).map Int32.ofInt
  rw [qv_no (qpr_prt hp) hr]
