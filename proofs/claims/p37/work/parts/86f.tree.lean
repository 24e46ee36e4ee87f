/-! Joined: 86f.tree, 86g.trun. -/
section
/-! THE SAME RUNS, FASTER for the kernel: an instruction is a number out of one large number a method; dispatch by halves. By program: wip/gen/gen31.py. -/
/-! A heap as a tree of 256 cells. -/
abbrev t0 : Type := zE
abbrev t1 : Type := t0 × t0
abbrev t2 : Type := t1 × t1
abbrev t3 : Type := t2 × t2
abbrev t4 : Type := t3 × t3
abbrev t5 : Type := t4 × t4
abbrev t6 : Type := t5 × t5
abbrev t7 : Type := t6 × t6
abbrev t8 : Type := t7 × t7
def tg0 (t : t0) (_ : Nat) : zE := t
def ts0 (_ : t0) (_ : Nat) (c : zE) : t0 := c
def tl0 (t : t0) : List zE := [t]
theorem tn0 (t : t0) : (tl0 t).length = 1 := rfl
theorem ta0 (t : t0) (a : Nat) (h : a < 1) : (tl0 t)[a]? = some (tg0 t a) := by
  obtain rfl : a = 0 := by omega
  rfl
theorem tb0 (t : t0) (a : Nat) (c : zE) (h : a < 1) : tl0 (ts0 t a c) = (tl0 t).set a c := by
  obtain rfl : a = 0 := by omega
  rfl
def tg1 (t : t1) (a : Nat) : zE := bif Nat.ble 1 a then tg0 t.2 (Nat.sub a 1) else tg0 t.1 a
def ts1 (t : t1) (a : Nat) (c : zE) : t1 := bif Nat.ble 1 a then (t.1, ts0 t.2 (Nat.sub a 1) c) else (ts0 t.1 a c, t.2)
def tl1 (t : t1) : List zE := tl0 t.1 ++ tl0 t.2
theorem tn1 (t : t1) : (tl1 t).length = 2 := by unfold tl1; rw [List.length_append, tn0, tn0]
set_option maxRecDepth 10000 in
theorem ta1 (t : t1) (a : Nat) (h : a < 2) : (tl1 t)[a]? = some (tg1 t a) := by
  unfold tl1 tg1
  by_cases hb : 1 ≤ a
  · rw [Nat.ble_eq_true_of_le hb, List.getElem?_append_right (by rw [tn0]; exact hb), tn0]
    exact ta0 t.2 (a - 1) (by omega)
  · rw [show Nat.ble 1 a = false from Bool.eq_false_iff.mpr (fun e => hb (Nat.le_of_ble_eq_true e)), List.getElem?_append_left (by rw [tn0]; omega)]
    exact ta0 t.1 a (by omega)
set_option maxRecDepth 10000 in
theorem tb1 (t : t1) (a : Nat) (c : zE) (h : a < 2) : tl1 (ts1 t a c) = (tl1 t).set a c := by
  unfold ts1
  by_cases hb : 1 ≤ a
  · rw [Nat.ble_eq_true_of_le hb]
    show tl0 t.1 ++ tl0 (ts0 t.2 (a - 1) c) = (tl0 t.1 ++ tl0 t.2).set a c
    rw [tb0 t.2 (a - 1) c (by omega), List.set_append, tn0, if_neg (by omega)]
  · rw [show Nat.ble 1 a = false from Bool.eq_false_iff.mpr (fun e => hb (Nat.le_of_ble_eq_true e))]
    show tl0 (ts0 t.1 a c) ++ tl0 t.2 = (tl0 t.1 ++ tl0 t.2).set a c
    rw [tb0 t.1 a c (by omega), List.set_append, tn0, if_pos (by omega)]
def tg2 (t : t2) (a : Nat) : zE := bif Nat.ble 2 a then tg1 t.2 (Nat.sub a 2) else tg1 t.1 a
def ts2 (t : t2) (a : Nat) (c : zE) : t2 := bif Nat.ble 2 a then (t.1, ts1 t.2 (Nat.sub a 2) c) else (ts1 t.1 a c, t.2)
def tl2 (t : t2) : List zE := tl1 t.1 ++ tl1 t.2
theorem tn2 (t : t2) : (tl2 t).length = 4 := by unfold tl2; rw [List.length_append, tn1, tn1]
set_option maxRecDepth 10000 in
theorem ta2 (t : t2) (a : Nat) (h : a < 4) : (tl2 t)[a]? = some (tg2 t a) := by
  unfold tl2 tg2
  by_cases hb : 2 ≤ a
  · rw [Nat.ble_eq_true_of_le hb, List.getElem?_append_right (by rw [tn1]; exact hb), tn1]
    exact ta1 t.2 (a - 2) (by omega)
  · rw [show Nat.ble 2 a = false from Bool.eq_false_iff.mpr (fun e => hb (Nat.le_of_ble_eq_true e)), List.getElem?_append_left (by rw [tn1]; omega)]
    exact ta1 t.1 a (by omega)
set_option maxRecDepth 10000 in
theorem tb2 (t : t2) (a : Nat) (c : zE) (h : a < 4) : tl2 (ts2 t a c) = (tl2 t).set a c := by
  unfold ts2
  by_cases hb : 2 ≤ a
  · rw [Nat.ble_eq_true_of_le hb]
    show tl1 t.1 ++ tl1 (ts1 t.2 (a - 2) c) = (tl1 t.1 ++ tl1 t.2).set a c
    rw [tb1 t.2 (a - 2) c (by omega), List.set_append, tn1, if_neg (by omega)]
  · rw [show Nat.ble 2 a = false from Bool.eq_false_iff.mpr (fun e => hb (Nat.le_of_ble_eq_true e))]
    show tl1 (ts1 t.1 a c) ++ tl1 t.2 = (tl1 t.1 ++ tl1 t.2).set a c
    rw [tb1 t.1 a c (by omega), List.set_append, tn1, if_pos (by omega)]
def tg3 (t : t3) (a : Nat) : zE := bif Nat.ble 4 a then tg2 t.2 (Nat.sub a 4) else tg2 t.1 a
def ts3 (t : t3) (a : Nat) (c : zE) : t3 := bif Nat.ble 4 a then (t.1, ts2 t.2 (Nat.sub a 4) c) else (ts2 t.1 a c, t.2)
def tl3 (t : t3) : List zE := tl2 t.1 ++ tl2 t.2
theorem tn3 (t : t3) : (tl3 t).length = 8 := by unfold tl3; rw [List.length_append, tn2, tn2]
set_option maxRecDepth 10000 in
theorem ta3 (t : t3) (a : Nat) (h : a < 8) : (tl3 t)[a]? = some (tg3 t a) := by
  unfold tl3 tg3
  by_cases hb : 4 ≤ a
  · rw [Nat.ble_eq_true_of_le hb, List.getElem?_append_right (by rw [tn2]; exact hb), tn2]
    exact ta2 t.2 (a - 4) (by omega)
  · rw [show Nat.ble 4 a = false from Bool.eq_false_iff.mpr (fun e => hb (Nat.le_of_ble_eq_true e)), List.getElem?_append_left (by rw [tn2]; omega)]
    exact ta2 t.1 a (by omega)
set_option maxRecDepth 10000 in
theorem tb3 (t : t3) (a : Nat) (c : zE) (h : a < 8) : tl3 (ts3 t a c) = (tl3 t).set a c := by
  unfold ts3
  by_cases hb : 4 ≤ a
  · rw [Nat.ble_eq_true_of_le hb]
    show tl2 t.1 ++ tl2 (ts2 t.2 (a - 4) c) = (tl2 t.1 ++ tl2 t.2).set a c
    rw [tb2 t.2 (a - 4) c (by omega), List.set_append, tn2, if_neg (by omega)]
  · rw [show Nat.ble 4 a = false from Bool.eq_false_iff.mpr (fun e => hb (Nat.le_of_ble_eq_true e))]
    show tl2 (ts2 t.1 a c) ++ tl2 t.2 = (tl2 t.1 ++ tl2 t.2).set a c
    rw [tb2 t.1 a c (by omega), List.set_append, tn2, if_pos (by omega)]
def tg4 (t : t4) (a : Nat) : zE := bif Nat.ble 8 a then tg3 t.2 (Nat.sub a 8) else tg3 t.1 a
def ts4 (t : t4) (a : Nat) (c : zE) : t4 := bif Nat.ble 8 a then (t.1, ts3 t.2 (Nat.sub a 8) c) else (ts3 t.1 a c, t.2)
def tl4 (t : t4) : List zE := tl3 t.1 ++ tl3 t.2
theorem tn4 (t : t4) : (tl4 t).length = 16 := by unfold tl4; rw [List.length_append, tn3, tn3]
set_option maxRecDepth 10000 in
theorem ta4 (t : t4) (a : Nat) (h : a < 16) : (tl4 t)[a]? = some (tg4 t a) := by
  unfold tl4 tg4
  by_cases hb : 8 ≤ a
  · rw [Nat.ble_eq_true_of_le hb, List.getElem?_append_right (by rw [tn3]; exact hb), tn3]
    exact ta3 t.2 (a - 8) (by omega)
  · rw [show Nat.ble 8 a = false from Bool.eq_false_iff.mpr (fun e => hb (Nat.le_of_ble_eq_true e)), List.getElem?_append_left (by rw [tn3]; omega)]
    exact ta3 t.1 a (by omega)
set_option maxRecDepth 10000 in
theorem tb4 (t : t4) (a : Nat) (c : zE) (h : a < 16) : tl4 (ts4 t a c) = (tl4 t).set a c := by
  unfold ts4
  by_cases hb : 8 ≤ a
  · rw [Nat.ble_eq_true_of_le hb]
    show tl3 t.1 ++ tl3 (ts3 t.2 (a - 8) c) = (tl3 t.1 ++ tl3 t.2).set a c
    rw [tb3 t.2 (a - 8) c (by omega), List.set_append, tn3, if_neg (by omega)]
  · rw [show Nat.ble 8 a = false from Bool.eq_false_iff.mpr (fun e => hb (Nat.le_of_ble_eq_true e))]
    show tl3 (ts3 t.1 a c) ++ tl3 t.2 = (tl3 t.1 ++ tl3 t.2).set a c
    rw [tb3 t.1 a c (by omega), List.set_append, tn3, if_pos (by omega)]
def tg5 (t : t5) (a : Nat) : zE := bif Nat.ble 16 a then tg4 t.2 (Nat.sub a 16) else tg4 t.1 a
def ts5 (t : t5) (a : Nat) (c : zE) : t5 := bif Nat.ble 16 a then (t.1, ts4 t.2 (Nat.sub a 16) c) else (ts4 t.1 a c, t.2)
def tl5 (t : t5) : List zE := tl4 t.1 ++ tl4 t.2
theorem tn5 (t : t5) : (tl5 t).length = 32 := by unfold tl5; rw [List.length_append, tn4, tn4]
set_option maxRecDepth 10000 in
theorem ta5 (t : t5) (a : Nat) (h : a < 32) : (tl5 t)[a]? = some (tg5 t a) := by
  unfold tl5 tg5
  by_cases hb : 16 ≤ a
  · rw [Nat.ble_eq_true_of_le hb, List.getElem?_append_right (by rw [tn4]; exact hb), tn4]
    exact ta4 t.2 (a - 16) (by omega)
  · rw [show Nat.ble 16 a = false from Bool.eq_false_iff.mpr (fun e => hb (Nat.le_of_ble_eq_true e)), List.getElem?_append_left (by rw [tn4]; omega)]
    exact ta4 t.1 a (by omega)
set_option maxRecDepth 10000 in
theorem tb5 (t : t5) (a : Nat) (c : zE) (h : a < 32) : tl5 (ts5 t a c) = (tl5 t).set a c := by
  unfold ts5
  by_cases hb : 16 ≤ a
  · rw [Nat.ble_eq_true_of_le hb]
    show tl4 t.1 ++ tl4 (ts4 t.2 (a - 16) c) = (tl4 t.1 ++ tl4 t.2).set a c
    rw [tb4 t.2 (a - 16) c (by omega), List.set_append, tn4, if_neg (by omega)]
  · rw [show Nat.ble 16 a = false from Bool.eq_false_iff.mpr (fun e => hb (Nat.le_of_ble_eq_true e))]
    show tl4 (ts4 t.1 a c) ++ tl4 t.2 = (tl4 t.1 ++ tl4 t.2).set a c
    rw [tb4 t.1 a c (by omega), List.set_append, tn4, if_pos (by omega)]
def tg6 (t : t6) (a : Nat) : zE := bif Nat.ble 32 a then tg5 t.2 (Nat.sub a 32) else tg5 t.1 a
def ts6 (t : t6) (a : Nat) (c : zE) : t6 := bif Nat.ble 32 a then (t.1, ts5 t.2 (Nat.sub a 32) c) else (ts5 t.1 a c, t.2)
def tl6 (t : t6) : List zE := tl5 t.1 ++ tl5 t.2
theorem tn6 (t : t6) : (tl6 t).length = 64 := by unfold tl6; rw [List.length_append, tn5, tn5]
set_option maxRecDepth 10000 in
theorem ta6 (t : t6) (a : Nat) (h : a < 64) : (tl6 t)[a]? = some (tg6 t a) := by
  unfold tl6 tg6
  by_cases hb : 32 ≤ a
  · rw [Nat.ble_eq_true_of_le hb, List.getElem?_append_right (by rw [tn5]; exact hb), tn5]
    exact ta5 t.2 (a - 32) (by omega)
  · rw [show Nat.ble 32 a = false from Bool.eq_false_iff.mpr (fun e => hb (Nat.le_of_ble_eq_true e)), List.getElem?_append_left (by rw [tn5]; omega)]
    exact ta5 t.1 a (by omega)
set_option maxRecDepth 10000 in
theorem tb6 (t : t6) (a : Nat) (c : zE) (h : a < 64) : tl6 (ts6 t a c) = (tl6 t).set a c := by
  unfold ts6
  by_cases hb : 32 ≤ a
  · rw [Nat.ble_eq_true_of_le hb]
    show tl5 t.1 ++ tl5 (ts5 t.2 (a - 32) c) = (tl5 t.1 ++ tl5 t.2).set a c
    rw [tb5 t.2 (a - 32) c (by omega), List.set_append, tn5, if_neg (by omega)]
  · rw [show Nat.ble 32 a = false from Bool.eq_false_iff.mpr (fun e => hb (Nat.le_of_ble_eq_true e))]
    show tl5 (ts5 t.1 a c) ++ tl5 t.2 = (tl5 t.1 ++ tl5 t.2).set a c
    rw [tb5 t.1 a c (by omega), List.set_append, tn5, if_pos (by omega)]
def tg7 (t : t7) (a : Nat) : zE := bif Nat.ble 64 a then tg6 t.2 (Nat.sub a 64) else tg6 t.1 a
def ts7 (t : t7) (a : Nat) (c : zE) : t7 := bif Nat.ble 64 a then (t.1, ts6 t.2 (Nat.sub a 64) c) else (ts6 t.1 a c, t.2)
def tl7 (t : t7) : List zE := tl6 t.1 ++ tl6 t.2
theorem tn7 (t : t7) : (tl7 t).length = 128 := by unfold tl7; rw [List.length_append, tn6, tn6]
set_option maxRecDepth 10000 in
theorem ta7 (t : t7) (a : Nat) (h : a < 128) : (tl7 t)[a]? = some (tg7 t a) := by
  unfold tl7 tg7
  by_cases hb : 64 ≤ a
  · rw [Nat.ble_eq_true_of_le hb, List.getElem?_append_right (by rw [tn6]; exact hb), tn6]
    exact ta6 t.2 (a - 64) (by omega)
  · rw [show Nat.ble 64 a = false from Bool.eq_false_iff.mpr (fun e => hb (Nat.le_of_ble_eq_true e)), List.getElem?_append_left (by rw [tn6]; omega)]
    exact ta6 t.1 a (by omega)
set_option maxRecDepth 10000 in
theorem tb7 (t : t7) (a : Nat) (c : zE) (h : a < 128) : tl7 (ts7 t a c) = (tl7 t).set a c := by
  unfold ts7
  by_cases hb : 64 ≤ a
  · rw [Nat.ble_eq_true_of_le hb]
    show tl6 t.1 ++ tl6 (ts6 t.2 (a - 64) c) = (tl6 t.1 ++ tl6 t.2).set a c
    rw [tb6 t.2 (a - 64) c (by omega), List.set_append, tn6, if_neg (by omega)]
  · rw [show Nat.ble 64 a = false from Bool.eq_false_iff.mpr (fun e => hb (Nat.le_of_ble_eq_true e))]
    show tl6 (ts6 t.1 a c) ++ tl6 t.2 = (tl6 t.1 ++ tl6 t.2).set a c
    rw [tb6 t.1 a c (by omega), List.set_append, tn6, if_pos (by omega)]
def tg8 (t : t8) (a : Nat) : zE := bif Nat.ble 128 a then tg7 t.2 (Nat.sub a 128) else tg7 t.1 a
def ts8 (t : t8) (a : Nat) (c : zE) : t8 := bif Nat.ble 128 a then (t.1, ts7 t.2 (Nat.sub a 128) c) else (ts7 t.1 a c, t.2)
def tl8 (t : t8) : List zE := tl7 t.1 ++ tl7 t.2
theorem tn8 (t : t8) : (tl8 t).length = 256 := by unfold tl8; rw [List.length_append, tn7, tn7]
set_option maxRecDepth 10000 in
theorem ta8 (t : t8) (a : Nat) (h : a < 256) : (tl8 t)[a]? = some (tg8 t a) := by
  unfold tl8 tg8
  by_cases hb : 128 ≤ a
  · rw [Nat.ble_eq_true_of_le hb, List.getElem?_append_right (by rw [tn7]; exact hb), tn7]
    exact ta7 t.2 (a - 128) (by omega)
  · rw [show Nat.ble 128 a = false from Bool.eq_false_iff.mpr (fun e => hb (Nat.le_of_ble_eq_true e)), List.getElem?_append_left (by rw [tn7]; omega)]
    exact ta7 t.1 a (by omega)
set_option maxRecDepth 10000 in
theorem tb8 (t : t8) (a : Nat) (c : zE) (h : a < 256) : tl8 (ts8 t a c) = (tl8 t).set a c := by
  unfold ts8
  by_cases hb : 128 ≤ a
  · rw [Nat.ble_eq_true_of_le hb]
    show tl7 t.1 ++ tl7 (ts7 t.2 (a - 128) c) = (tl7 t.1 ++ tl7 t.2).set a c
    rw [tb7 t.2 (a - 128) c (by omega), List.set_append, tn7, if_neg (by omega)]
  · rw [show Nat.ble 128 a = false from Bool.eq_false_iff.mpr (fun e => hb (Nat.le_of_ble_eq_true e))]
    show tl7 (ts7 t.1 a c) ++ tl7 t.2 = (tl7 t.1 ++ tl7 t.2).set a c
    rw [tb7 t.1 a c (by omega), List.set_append, tn7, if_pos (by omega)]
/-- how many cells, and the tree -/
abbrev fH : Type := Nat × t8
def hget (h : fH) (a : Nat) : Option zE := bif Nat.ble h.1 a then none else some (tg8 h.2 a)
def hset (h : fH) (a : Nat) (c : zE) : fH := (h.1, ts8 h.2 a c)
def hpush (h : fH) (c : zE) : fH := (h.1 + 1, ts8 h.2 h.1 c)
def hL (h : fH) : zH := (tl8 h.2).take h.1
/-- not more cells than it bears -/
def hok (h : fH) : Prop := h.1 ≤ 256
theorem hget_ok {h : fH} (hk : hok h) (a : Nat) : hget h a = (hL h)[a]? := by
  unfold hget hL
  by_cases hb : h.1 ≤ a
  · rw [Nat.ble_eq_true_of_le hb, List.getElem?_take, if_neg (by omega)]
    rfl
  · rw [show Nat.ble h.1 a = false from Bool.eq_false_iff.mpr (fun e => hb (Nat.le_of_ble_eq_true e)), List.getElem?_take, if_pos (by omega), ta8 h.2 a (by unfold hok at hk; omega)]
    rfl
theorem hset_ok {h : fH} (hk : hok h) {a : Nat} {c e : zE} (ha : (hL h)[a]? = some e) : hL (hset h a c) = (hL h).set a c ∧ hok (hset h a c) := by
  have h1 : a < (hL h).length := (List.getElem?_eq_some_iff.mp ha).1
  unfold hL at h1
  rw [List.length_take, tn8] at h1
  refine ⟨?_, hk⟩
  show (tl8 (ts8 h.2 a c)).take h.1 = ((tl8 h.2).take h.1).set a c
  rw [tb8 h.2 a c (by omega), List.take_set]
theorem hlen_ok {h : fH} (hk : hok h) : (hL h).length = h.1 := by
  unfold hL
  unfold hok at hk
  rw [List.length_take, tn8]
  omega
theorem hpush_ok {h : fH} {c : zE} (hk : h.1 < 256) : hL (hpush h c) = hL h ++ [c] ∧ hok (hpush h c) := by
  refine ⟨?_, by unfold hok hpush; dsimp only; omega⟩
  show (tl8 (ts8 h.2 h.1 c)).take (h.1 + 1) = (tl8 h.2).take h.1 ++ [c]
  rw [tb8 h.2 h.1 c hk, List.take_add_one, List.take_set_of_le (Nat.le_refl _), List.getElem?_set_self (by rw [tn8]; exact hk)]
  rfl
def fjump {H : Type} (pc : Nat) (off : Int) (ls : zL) (st : List Value) (h : H) : Option (Nat × zL × List Value × H) :=
  if 0 ≤ (pc : Int) + off then some (((pc : Int) + off).toNat, ls, st, h) else none
def fbr {H : Type} (b : Bool) (pc : Nat) (off : Int) (ls : zL) (st : List Value) (h : H) : Option (Nat × zL × List Value × H) :=
  if 0 ≤ (pc : Int) + off then (if b = true then some (((pc : Int) + off).toNat, ls, st, h) else some (pc + 3, ls, st, h)) else none
/-- locals, by the recursor itself: fewer steps for the kernel -/
noncomputable def glz (ls : zL) (i : Nat) : Option Value := List.rec (motive := fun _ => Option Value) none (fun q _ ih => bif Nat.beq q.1 i then some q.2 else ih) ls
noncomputable def sf1 (ls : zL) (i : Nat) : zL := List.rec (motive := fun _ => zL) [] (fun q _ ih => bif Nat.beq q.1 i then ih else bif Nat.beq (Nat.succ q.1) i && Nat.beq q.2.category 2 then ih else q :: ih) ls
noncomputable def sf2 (ls : zL) (i : Nat) : zL := List.rec (motive := fun _ => zL) [] (fun q _ ih => bif Nat.beq q.1 i then ih else bif Nat.beq q.1 (Nat.succ i) then ih else bif Nat.beq (Nat.succ q.1) i && Nat.beq q.2.category 2 then ih else q :: ih) ls
noncomputable def sl1 (ls : zL) (i : Nat) (v : Value) : zL := (i, v) :: sf1 ls i
noncomputable def sl2 (ls : zL) (i : Nat) (v : Value) : zL := (i, v) :: sf2 ls i
theorem nbeq (a b : Nat) : (a == b) = Nat.beq a b := by
  cases h : Nat.beq a b with
  | true => rw [Nat.eq_of_beq_eq_true h]; exact beq_self_eq_true b
  | false =>
    cases h2 : (a == b) with
    | false => rfl
    | true =>
      rw [eq_of_beq h2, Nat.beq_refl] at h
      cases h
theorem gl_eq (ls : zL) (i : Nat) : glz ls i = zget ls i := by
  induction ls with
  | nil => rfl
  | cons q r ih =>
    show (bif Nat.beq q.1 i then some q.2 else glz r i) = zget (q :: r) i
    unfold zget at ih ⊢
    rw [List.find?_cons, nbeq, ih]
    cases Nat.beq q.1 i <;> rfl
theorem sf1_eq (ls : zL) (i : Nat) : sf1 ls i = ls.filter (fun q => !(q.1 == i) && !(q.1 + 1 == i && q.2.category == 2)) := by
  induction ls with
  | nil => rfl
  | cons q r ih =>
    show (bif Nat.beq q.1 i then sf1 r i else bif Nat.beq (Nat.succ q.1) i && Nat.beq q.2.category 2 then sf1 r i else q :: sf1 r i) = _
    rw [List.filter_cons, nbeq, nbeq, nbeq, ih]
    cases Nat.beq q.1 i <;> cases h2 : Nat.beq (q.1 + 1) i <;> cases h3 : Nat.beq q.2.category 2 <;> simp_all
theorem sf2_eq (ls : zL) (i : Nat) : sf2 ls i = ls.filter (fun q => !(q.1 == i) && (!(q.1 == i + 1) && !(q.1 + 1 == i && q.2.category == 2))) := by
  induction ls with
  | nil => rfl
  | cons q r ih =>
    show (bif Nat.beq q.1 i then sf2 r i else bif Nat.beq q.1 (Nat.succ i) then sf2 r i else bif Nat.beq (Nat.succ q.1) i && Nat.beq q.2.category 2 then sf2 r i else q :: sf2 r i) = _
    rw [List.filter_cons, nbeq, nbeq, nbeq, nbeq, ih]
    cases Nat.beq q.1 i <;> cases h1 : Nat.beq q.1 (i + 1) <;> cases h2 : Nat.beq (q.1 + 1) i <;> cases h3 : Nat.beq q.2.category 2 <;> simp_all
theorem sl1_eq (ls : zL) (i : Nat) (v : Value) : sl1 ls i v = zset1 ls i v := by
  unfold sl1 zset1
  rw [sf1_eq]
theorem sl2_eq (ls : zL) (i : Nat) (v : Value) : sl2 ls i v = zset2 ls i v := by
  unfold sl2 zset2
  rw [sf2_eq]
def fl_iadd {H : Type} (pc : Nat) (ls : zL) (st : List Value) (h : H) : Option (Nat × zL × List Value × H) := match st with
    | .int y :: .int x :: r => some (pc + 1, ls, .int (x + y) :: r, h)
    | _ => none
def fl_isub {H : Type} (pc : Nat) (ls : zL) (st : List Value) (h : H) : Option (Nat × zL × List Value × H) := match st with
    | .int y :: .int x :: r => some (pc + 1, ls, .int (x - y) :: r, h)
    | _ => none
def fl_imul {H : Type} (pc : Nat) (ls : zL) (st : List Value) (h : H) : Option (Nat × zL × List Value × H) := match st with
    | .int y :: .int x :: r => some (pc + 1, ls, .int (x * y) :: r, h)
    | _ => none
def fl_iand {H : Type} (pc : Nat) (ls : zL) (st : List Value) (h : H) : Option (Nat × zL × List Value × H) := match st with
    | .int y :: .int x :: r => some (pc + 1, ls, .int (x &&& y) :: r, h)
    | _ => none
def fl_ior {H : Type} (pc : Nat) (ls : zL) (st : List Value) (h : H) : Option (Nat × zL × List Value × H) := match st with
    | .int y :: .int x :: r => some (pc + 1, ls, .int (x ||| y) :: r, h)
    | _ => none
def fl_ixor {H : Type} (pc : Nat) (ls : zL) (st : List Value) (h : H) : Option (Nat × zL × List Value × H) := match st with
    | .int y :: .int x :: r => some (pc + 1, ls, .int (x ^^^ y) :: r, h)
    | _ => none
def fl_idiv {H : Type} (pc : Nat) (ls : zL) (st : List Value) (h : H) : Option (Nat × zL × List Value × H) := match st with
    | .int y :: .int x :: r => if y = 0 then none else some (pc + 1, ls, .int (x / y) :: r, h)
    | _ => none
def fl_irem {H : Type} (pc : Nat) (ls : zL) (st : List Value) (h : H) : Option (Nat × zL × List Value × H) := match st with
    | .int y :: .int x :: r => if y = 0 then none else some (pc + 1, ls, .int (x - x / y * y) :: r, h)
    | _ => none
def fl_ineg {H : Type} (pc : Nat) (ls : zL) (st : List Value) (h : H) : Option (Nat × zL × List Value × H) := match st with
    | .int x :: r => some (pc + 1, ls, .int (-x) :: r, h)
    | _ => none
def fl_ishl {H : Type} (pc : Nat) (ls : zL) (st : List Value) (h : H) : Option (Nat × zL × List Value × H) := match st with
    | .int y :: .int x :: r => some (pc + 1, ls, .int (x <<< (y &&& 31)) :: r, h)
    | _ => none
def fl_ishr {H : Type} (pc : Nat) (ls : zL) (st : List Value) (h : H) : Option (Nat × zL × List Value × H) := match st with
    | .int y :: .int x :: r => some (pc + 1, ls, .int (x >>> (y &&& 31)) :: r, h)
    | _ => none
def fl_iushr {H : Type} (pc : Nat) (ls : zL) (st : List Value) (h : H) : Option (Nat × zL × List Value × H) := match st with
    | .int y :: .int x :: r => some (pc + 1, ls, .int ((x.toUInt32 >>> (y.toUInt32 &&& Int32.toUInt32 31)).toInt32) :: r, h)
    | _ => none
def fl_ladd {H : Type} (pc : Nat) (ls : zL) (st : List Value) (h : H) : Option (Nat × zL × List Value × H) := match st with
    | .long y :: .long x :: r => some (pc + 1, ls, .long (x + y) :: r, h)
    | _ => none
def fl_lsub {H : Type} (pc : Nat) (ls : zL) (st : List Value) (h : H) : Option (Nat × zL × List Value × H) := match st with
    | .long y :: .long x :: r => some (pc + 1, ls, .long (x - y) :: r, h)
    | _ => none
def fl_lmul {H : Type} (pc : Nat) (ls : zL) (st : List Value) (h : H) : Option (Nat × zL × List Value × H) := match st with
    | .long y :: .long x :: r => some (pc + 1, ls, .long (x * y) :: r, h)
    | _ => none
def fl_land {H : Type} (pc : Nat) (ls : zL) (st : List Value) (h : H) : Option (Nat × zL × List Value × H) := match st with
    | .long y :: .long x :: r => some (pc + 1, ls, .long (x &&& y) :: r, h)
    | _ => none
def fl_lor {H : Type} (pc : Nat) (ls : zL) (st : List Value) (h : H) : Option (Nat × zL × List Value × H) := match st with
    | .long y :: .long x :: r => some (pc + 1, ls, .long (x ||| y) :: r, h)
    | _ => none
def fl_lxor {H : Type} (pc : Nat) (ls : zL) (st : List Value) (h : H) : Option (Nat × zL × List Value × H) := match st with
    | .long y :: .long x :: r => some (pc + 1, ls, .long (x ^^^ y) :: r, h)
    | _ => none
def fl_ldiv {H : Type} (pc : Nat) (ls : zL) (st : List Value) (h : H) : Option (Nat × zL × List Value × H) := match st with
    | .long y :: .long x :: r => if y = 0 then none else some (pc + 1, ls, .long (x / y) :: r, h)
    | _ => none
def fl_lrem {H : Type} (pc : Nat) (ls : zL) (st : List Value) (h : H) : Option (Nat × zL × List Value × H) := match st with
    | .long y :: .long x :: r => if y = 0 then none else some (pc + 1, ls, .long (x - x / y * y) :: r, h)
    | _ => none
def fl_lneg {H : Type} (pc : Nat) (ls : zL) (st : List Value) (h : H) : Option (Nat × zL × List Value × H) := match st with
    | .long x :: r => some (pc + 1, ls, .long (-x) :: r, h)
    | _ => none
def fl_lshl {H : Type} (pc : Nat) (ls : zL) (st : List Value) (h : H) : Option (Nat × zL × List Value × H) := match st with
    | .int y :: .long x :: r => some (pc + 1, ls, .long (x <<< (y.toInt64 &&& 63)) :: r, h)
    | _ => none
def fl_lshr {H : Type} (pc : Nat) (ls : zL) (st : List Value) (h : H) : Option (Nat × zL × List Value × H) := match st with
    | .int y :: .long x :: r => some (pc + 1, ls, .long (x >>> (y.toInt64 &&& 63)) :: r, h)
    | _ => none
def fl_lushr {H : Type} (pc : Nat) (ls : zL) (st : List Value) (h : H) : Option (Nat × zL × List Value × H) := match st with
    | .int y :: .long x :: r => some (pc + 1, ls, .long ((x.toUInt64 >>> (y.toInt64.toUInt64 &&& Int64.toUInt64 63)).toInt64) :: r, h)
    | _ => none
def fl_lcmp {H : Type} (pc : Nat) (ls : zL) (st : List Value) (h : H) : Option (Nat × zL × List Value × H) := match st with
    | .long y :: .long x :: r => some (pc + 1, ls, .int (lg_cmp x y) :: r, h)
    | _ => none
def fl_i2l {H : Type} (pc : Nat) (ls : zL) (st : List Value) (h : H) : Option (Nat × zL × List Value × H) := match st with
    | .int x :: r => some (pc + 1, ls, .long x.toInt64 :: r, h)
    | _ => none
def fl_l2i {H : Type} (pc : Nat) (ls : zL) (st : List Value) (h : H) : Option (Nat × zL × List Value × H) := match st with
    | .long x :: r => some (pc + 1, ls, .int x.toInt32 :: r, h)
    | _ => none
def fl_i2c {H : Type} (pc : Nat) (ls : zL) (st : List Value) (h : H) : Option (Nat × zL × List Value × H) := match st with
    | .int x :: r => some (pc + 1, ls, .int (x.toUInt32 % 65536).toInt32 :: r, h)
    | _ => none
def fl_dup {H : Type} (pc : Nat) (ls : zL) (st : List Value) (h : H) : Option (Nat × zL × List Value × H) := match st with
    | .int x :: r => some (pc + 1, ls, .int x :: .int x :: r, h)
    | .ref x :: r => some (pc + 1, ls, .ref x :: .ref x :: r, h)
    | _ => none
def fl_dup2 {H : Type} (pc : Nat) (ls : zL) (st : List Value) (h : H) : Option (Nat × zL × List Value × H) := match st with
    | .int x :: .ref a :: r => some (pc + 1, ls, .int x :: .ref a :: .int x :: .ref a :: r, h)
    | _ => none
def fl_pop {H : Type} (pc : Nat) (ls : zL) (st : List Value) (h : H) : Option (Nat × zL × List Value × H) := match st with
    | .int _ :: r => some (pc + 1, ls, r, h)
    | .ref _ :: r => some (pc + 1, ls, r, h)
    | _ => none
def fl_ifCond {H : Type} (c : Jvm.ClassFile.Cond) (off : Int) (pc : Nat) (ls : zL) (st : List Value) (h : H) : Option (Nat × zL × List Value × H) := match st with
    | .int x :: r => fbr (zicmp c x 0) pc off ls r h
    | _ => none
def fl_if_icmp {H : Type} (c : Jvm.ClassFile.Cond) (off : Int) (pc : Nat) (ls : zL) (st : List Value) (h : H) : Option (Nat × zL × List Value × H) := match st with
    | .int y :: .int x :: r => fbr (zicmp c x y) pc off ls r h
    | _ => none
def fl_goto {H : Type} (off : Int) (pc : Nat) (ls : zL) (st : List Value) (h : H) : Option (Nat × zL × List Value × H) := fjump pc off ls st h
noncomputable def fl_iconst {H : Type} (nL : Nat) (n : Int) (pc : Nat) (ls : zL) (st : List Value) (h : H) : Option (Nat × zL × List Value × H) := some (pc + 1, ls, .int (Int32.ofInt n) :: st, h)
noncomputable def fl_bipush {H : Type} (nL : Nat) (n : Int) (pc : Nat) (ls : zL) (st : List Value) (h : H) : Option (Nat × zL × List Value × H) := some (pc + 2, ls, .int (Int8.ofInt n).toInt32 :: st, h)
noncomputable def fl_sipush {H : Type} (nL : Nat) (n : Int) (pc : Nat) (ls : zL) (st : List Value) (h : H) : Option (Nat × zL × List Value × H) := some (pc + 3, ls, .int (Int16.ofInt n).toInt32 :: st, h)
noncomputable def fl_lconst {H : Type} (nL : Nat) (n : Fin 2) (pc : Nat) (ls : zL) (st : List Value) (h : H) : Option (Nat × zL × List Value × H) := some (pc + 1, ls, .long (Int64.ofNat (n : Nat)) :: st, h)
noncomputable def fl_iload_n {H : Type} (nL : Nat) (k : Fin 4) (pc : Nat) (ls : zL) (st : List Value) (h : H) : Option (Nat × zL × List Value × H) := match glz ls k with
    | some (.int x) => some (pc + 1, ls, .int x :: st, h)
    | _ => none
noncomputable def fl_iload {H : Type} (nL : Nat) (k : Nat) (pc : Nat) (ls : zL) (st : List Value) (h : H) : Option (Nat × zL × List Value × H) := match glz ls k with
    | some (.int x) => some (pc + 2, ls, .int x :: st, h)
    | _ => none
noncomputable def fl_lload_n {H : Type} (nL : Nat) (k : Fin 4) (pc : Nat) (ls : zL) (st : List Value) (h : H) : Option (Nat × zL × List Value × H) := match glz ls k with
    | some (.long x) => some (pc + 1, ls, .long x :: st, h)
    | _ => none
noncomputable def fl_lload {H : Type} (nL : Nat) (k : Nat) (pc : Nat) (ls : zL) (st : List Value) (h : H) : Option (Nat × zL × List Value × H) := match glz ls k with
    | some (.long x) => some (pc + 2, ls, .long x :: st, h)
    | _ => none
noncomputable def fl_aload_n {H : Type} (nL : Nat) (k : Fin 4) (pc : Nat) (ls : zL) (st : List Value) (h : H) : Option (Nat × zL × List Value × H) := match glz ls k with
    | some (.ref x) => some (pc + 1, ls, .ref x :: st, h)
    | some (.retAddr x) => some (pc + 1, ls, .retAddr x :: st, h)
    | some .null => some (pc + 1, ls, .null :: st, h)
    | _ => none
noncomputable def fl_aload {H : Type} (nL : Nat) (k : Nat) (pc : Nat) (ls : zL) (st : List Value) (h : H) : Option (Nat × zL × List Value × H) := match glz ls k with
    | some (.ref x) => some (pc + 2, ls, .ref x :: st, h)
    | some (.retAddr x) => some (pc + 2, ls, .retAddr x :: st, h)
    | some .null => some (pc + 2, ls, .null :: st, h)
    | _ => none
noncomputable def fl_istore_n {H : Type} (nL : Nat) (k : Fin 4) (pc : Nat) (ls : zL) (st : List Value) (h : H) : Option (Nat × zL × List Value × H) := match st with
    | .int x :: r => if (k : Nat) < nL then some (pc + 1, sl1 ls k (.int x), r, h) else none
    | _ => none
noncomputable def fl_istore {H : Type} (nL : Nat) (k : Nat) (pc : Nat) (ls : zL) (st : List Value) (h : H) : Option (Nat × zL × List Value × H) := match st with
    | .int x :: r => if k < nL then some (pc + 2, sl1 ls k (.int x), r, h) else none
    | _ => none
noncomputable def fl_lstore_n {H : Type} (nL : Nat) (k : Fin 4) (pc : Nat) (ls : zL) (st : List Value) (h : H) : Option (Nat × zL × List Value × H) := match st with
    | .long x :: r => if (k : Nat) + 1 < nL then some (pc + 1, sl2 ls k (.long x), r, h) else none
    | _ => none
noncomputable def fl_lstore {H : Type} (nL : Nat) (k : Nat) (pc : Nat) (ls : zL) (st : List Value) (h : H) : Option (Nat × zL × List Value × H) := match st with
    | .long x :: r => if k + 1 < nL then some (pc + 2, sl2 ls k (.long x), r, h) else none
    | _ => none
noncomputable def fl_astore_n {H : Type} (nL : Nat) (k : Fin 4) (pc : Nat) (ls : zL) (st : List Value) (h : H) : Option (Nat × zL × List Value × H) := match st with
    | .ref x :: r => if (k : Nat) < nL then some (pc + 1, sl1 ls k (.ref x), r, h) else none
    | _ => none
noncomputable def fl_astore {H : Type} (nL : Nat) (k : Nat) (pc : Nat) (ls : zL) (st : List Value) (h : H) : Option (Nat × zL × List Value × H) := match st with
    | .ref x :: r => if k < nL then some (pc + 2, sl1 ls k (.ref x), r, h) else none
    | _ => none
noncomputable def fl_iinc {H : Type} (nL : Nat) (k : Nat) (n : Int) (pc : Nat) (ls : zL) (st : List Value) (h : H) : Option (Nat × zL × List Value × H) := match glz ls k with
    | some (.int x) => if k < nL then some (pc + 3, sl1 ls k (.int (x + Int32.ofInt n)), st, h) else none
    | _ => none
def fl_getfield (X : zX) (ini : Bool) (c : Nat) (j : Nat) (pc : Nat) (ls : zL) (st : List Value) (h : fH) : Option (Nat × zL × List Value × fH) := match st with
    | .ref a :: r => match zfld X c j, hget h a with
      | some (ci, k), some (ci', .inr (.inr (.inr fs))) => match fs[k]? with
        | some v => if ci' = ci then some (pc + 3, ls, v :: r, h) else none
        | none => none
      | _, _ => none
    | .retAddr e :: r => match zxget X c j e with
      | some v => some (pc + 3, ls, v :: r, h)
      | none => none
    | _ => none
def fl_putfield (X : zX) (ini : Bool) (c : Nat) (j : Nat) (pc : Nat) (ls : zL) (st : List Value) (h : fH) : Option (Nat × zL × List Value × fH) := match st with
  | v0 :: _ => bif ysym v0 then none else (match st with
    | v :: .ref a :: r => match zfld X c j, hget h a with
      | some (ci, k), some (ci', .inr (.inr (.inr fs))) => if ci' = ci ∧ k < fs.length ∧ zputs X ini c ci k v = true then some (pc + 3, ls, r, hset h a (ci, .inr (.inr (.inr (fs.set k v))))) else none
      | _, _ => none
    | _ => none)
  | [] => none
def fl_getstatic (X : zX) (ini : Bool) (c : Nat) (j : Nat) (pc : Nat) (ls : zL) (st : List Value) (h : fH) : Option (Nat × zL × List Value × fH) := match zsta X c j with
    | some v => some (pc + 3, ls, v :: st, h)
    | none => none
def fl_ldc (X : zX) (ini : Bool) (c : Nat) (j : Nat) (pc : Nat) (ls : zL) (st : List Value) (h : fH) : Option (Nat × zL × List Value × fH) := match zkon X c j with
    | some (.int x) => some (pc + 2, ls, .int x :: st, h)
    | some (.retAddr x) => some (pc + 2, ls, .retAddr x :: st, h)
    | _ => none
def fl_ldc_w (X : zX) (ini : Bool) (c : Nat) (j : Nat) (pc : Nat) (ls : zL) (st : List Value) (h : fH) : Option (Nat × zL × List Value × fH) := match zkon X c j with
    | some (.int x) => some (pc + 3, ls, .int x :: st, h)
    | _ => none
def fl_ldc2_w (X : zX) (ini : Bool) (c : Nat) (j : Nat) (pc : Nat) (ls : zL) (st : List Value) (h : fH) : Option (Nat × zL × List Value × fH) := match zkon X c j with
    | some (.long x) => some (pc + 3, ls, .long x :: st, h)
    | _ => none
def fl_iaload (X : zX) (ini : Bool) (c : Nat) (pc : Nat) (ls : zL) (st : List Value) (h : fH) : Option (Nat × zL × List Value × fH) := match st with
    | .int i :: .ref a :: r => match hget h a with
      | some (0, .inl l) => if zidx i l.length = true then some (pc + 1, ls, .int (l.getD i.toNatClampNeg 0) :: r, h) else none
      | _ => none
    | .int i :: .retAddr e :: r => match zxarr X e with
      | some (false, l) => if zidx i l.length = true then some (pc + 1, ls, .int (l.getD i.toNatClampNeg 0) :: r, h) else none
      | _ => none
    | _ => none
def fl_baload (X : zX) (ini : Bool) (c : Nat) (pc : Nat) (ls : zL) (st : List Value) (h : fH) : Option (Nat × zL × List Value × fH) := match st with
    | .int i :: .ref a :: r => match hget h a with
      | some (2, .inl l) => if zidx i l.length = true then some (pc + 1, ls, .int (l.getD i.toNatClampNeg 0) :: r, h) else none
      | _ => none
    | .int i :: .retAddr e :: r => match zxarr X e with
      | some (true, l) => if zidx i l.length = true then some (pc + 1, ls, .int (l.getD i.toNatClampNeg 0) :: r, h) else none
      | _ => none
    | _ => none
def fl_laload (X : zX) (ini : Bool) (c : Nat) (pc : Nat) (ls : zL) (st : List Value) (h : fH) : Option (Nat × zL × List Value × fH) := match st with
    | .int i :: .ref a :: r => match hget h a with
      | some (1, .inr (.inl l)) => if zidx i l.length = true then some (pc + 1, ls, .long (l.getD i.toNatClampNeg 0) :: r, h) else none
      | _ => none
    | _ => none
def fl_aaload (X : zX) (ini : Bool) (c : Nat) (pc : Nat) (ls : zL) (st : List Value) (h : fH) : Option (Nat × zL × List Value × fH) := match st with
    | .int i :: .ref a :: r => match hget h a with
      | some (3, .inr (.inr (.inl l))) => if zidx i l.length = true then some (pc + 1, ls, zrv (l.getD i.toNatClampNeg none) :: r, h) else none
      | _ => none
    | _ => none
def fl_iastore (X : zX) (ini : Bool) (c : Nat) (pc : Nat) (ls : zL) (st : List Value) (h : fH) : Option (Nat × zL × List Value × fH) := match st with
    | .int x :: .int i :: .ref a :: r => match hget h a with
      | some (0, .inl l) => if zidx i l.length = true then some (pc + 1, ls, r, hset h a (0, .inl (l.set i.toNatClampNeg x))) else none
      | _ => none
    | _ => none
def fl_bastore (X : zX) (ini : Bool) (c : Nat) (pc : Nat) (ls : zL) (st : List Value) (h : fH) : Option (Nat × zL × List Value × fH) := match st with
    | .int x :: .int i :: .ref a :: r => match hget h a with
      | some (2, .inl l) => if zidx i l.length = true then some (pc + 1, ls, r, hset h a (2, .inl (l.set i.toNatClampNeg (x &&& 1)))) else none
      | _ => none
    | _ => none
def fl_lastore (X : zX) (ini : Bool) (c : Nat) (pc : Nat) (ls : zL) (st : List Value) (h : fH) : Option (Nat × zL × List Value × fH) := match st with
    | .long x :: .int i :: .ref a :: r => match hget h a with
      | some (1, .inr (.inl l)) => if zidx i l.length = true then some (pc + 1, ls, r, hset h a (1, .inr (.inl (l.set i.toNatClampNeg x)))) else none
      | _ => none
    | _ => none
def fl_aastore (X : zX) (ini : Bool) (c : Nat) (pc : Nat) (ls : zL) (st : List Value) (h : fH) : Option (Nat × zL × List Value × fH) := match st with
    | .ref v :: .int i :: .ref a :: r => match hget h a, hget h v with
      | some (3, .inr (.inr (.inl l))), some (ci, .inr (.inr (.inr _))) => if zidx i l.length = true ∧ ci = zpc X then some (pc + 1, ls, r, hset h a (3, .inr (.inr (.inl (l.set i.toNatClampNeg (some v)))))) else none
      | _, _ => none
    | _ => none
def fl_arraylength (X : zX) (ini : Bool) (c : Nat) (pc : Nat) (ls : zL) (st : List Value) (h : fH) : Option (Nat × zL × List Value × fH) := match st with
    | .ref a :: r => match hget h a with
      | some (0, .inl l) => some (pc + 1, ls, .int (Int32.ofNat l.length) :: r, h)
      | some (2, .inl l) => some (pc + 1, ls, .int (Int32.ofNat l.length) :: r, h)
      | some (1, .inr (.inl l)) => some (pc + 1, ls, .int (Int32.ofNat l.length) :: r, h)
      | some (3, .inr (.inr (.inl l))) => some (pc + 1, ls, .int (Int32.ofNat l.length) :: r, h)
      | _ => none
    | .retAddr e :: r => match zxarr X e with
      | some (_, l) => some (pc + 1, ls, .int (Int32.ofNat l.length) :: r, h)
      | _ => none
    | _ => none
def fl_new (X : zX) (ini : Bool) (c : Nat) (j : Nat) (pc : Nat) (ls : zL) (st : List Value) (h : fH) : Option (Nat × zL × List Value × fH) := match znew X c j with
    | some (ci, fs) => bif Nat.ble 256 h.1 then none else some (pc + 3, ls, .ref h.1 :: st, hpush h (ci, .inr (.inr (.inr fs))))
    | none => none
def fl_newarray_int (X : zX) (ini : Bool) (c : Nat) (pc : Nat) (ls : zL) (st : List Value) (h : fH) : Option (Nat × zL × List Value × fH) := match st with
    | .int n :: r => if 256 ≤ h.1 ∨ n < 0 ∨ 1000000 < n.toNatClampNeg then none else some (pc + 2, ls, .ref h.1 :: r, hpush h (0, .inl (List.replicate n.toNatClampNeg 0)))
    | _ => none
def fl_newarray_boolean (X : zX) (ini : Bool) (c : Nat) (pc : Nat) (ls : zL) (st : List Value) (h : fH) : Option (Nat × zL × List Value × fH) := match st with
    | .int n :: r => if 256 ≤ h.1 ∨ n < 0 ∨ 1000000 < n.toNatClampNeg then none else some (pc + 2, ls, .ref h.1 :: r, hpush h (2, .inl (List.replicate n.toNatClampNeg 0)))
    | _ => none
def fl_newarray_long (X : zX) (ini : Bool) (c : Nat) (pc : Nat) (ls : zL) (st : List Value) (h : fH) : Option (Nat × zL × List Value × fH) := match st with
    | .int n :: r => if 256 ≤ h.1 ∨ n < 0 ∨ 1000000 < n.toNatClampNeg then none else some (pc + 2, ls, .ref h.1 :: r, hpush h (1, .inr (.inl (List.replicate n.toNatClampNeg 0))))
    | _ => none
def fl_anewarray (X : zX) (ini : Bool) (c : Nat) (j : Nat) (pc : Nat) (ls : zL) (st : List Value) (h : fH) : Option (Nat × zL × List Value × fH) := match st with
    | .int n :: r => if 256 ≤ h.1 ∨ n < 0 ∨ 1000000 < n.toNatClampNeg ∨ zisP X c j = false then none else some (pc + 3, ls, .ref h.1 :: r, hpush h (3, .inr (.inr (.inl (List.replicate n.toNatClampNeg none)))))
    | _ => none
noncomputable def fd_1_3 (X : zX) (nL : Nat) (ini : Bool) (c : Nat) (op a b : Nat) (pc : Nat) (ls : zL) (st : List Value) (h : fH) : Option (Nat × zL × List Value × fH) := bif Nat.ble 2 op then fl_isub pc ls st h else fl_iadd pc ls st h
noncomputable def fd_4_6 (X : zX) (nL : Nat) (ini : Bool) (c : Nat) (op a b : Nat) (pc : Nat) (ls : zL) (st : List Value) (h : fH) : Option (Nat × zL × List Value × fH) := bif Nat.ble 5 op then fl_ior pc ls st h else fl_iand pc ls st h
noncomputable def fd_3_6 (X : zX) (nL : Nat) (ini : Bool) (c : Nat) (op a b : Nat) (pc : Nat) (ls : zL) (st : List Value) (h : fH) : Option (Nat × zL × List Value × fH) := bif Nat.ble 4 op then fd_4_6 X nL ini c op a b pc ls st h else fl_imul pc ls st h
noncomputable def fd_1_6 (X : zX) (nL : Nat) (ini : Bool) (c : Nat) (op a b : Nat) (pc : Nat) (ls : zL) (st : List Value) (h : fH) : Option (Nat × zL × List Value × fH) := bif Nat.ble 3 op then fd_3_6 X nL ini c op a b pc ls st h else fd_1_3 X nL ini c op a b pc ls st h
noncomputable def fd_6_8 (X : zX) (nL : Nat) (ini : Bool) (c : Nat) (op a b : Nat) (pc : Nat) (ls : zL) (st : List Value) (h : fH) : Option (Nat × zL × List Value × fH) := bif Nat.ble 7 op then fl_idiv pc ls st h else fl_ixor pc ls st h
noncomputable def fd_9_11 (X : zX) (nL : Nat) (ini : Bool) (c : Nat) (op a b : Nat) (pc : Nat) (ls : zL) (st : List Value) (h : fH) : Option (Nat × zL × List Value × fH) := bif Nat.ble 10 op then fl_ishl pc ls st h else fl_ineg pc ls st h
noncomputable def fd_8_11 (X : zX) (nL : Nat) (ini : Bool) (c : Nat) (op a b : Nat) (pc : Nat) (ls : zL) (st : List Value) (h : fH) : Option (Nat × zL × List Value × fH) := bif Nat.ble 9 op then fd_9_11 X nL ini c op a b pc ls st h else fl_irem pc ls st h
noncomputable def fd_6_11 (X : zX) (nL : Nat) (ini : Bool) (c : Nat) (op a b : Nat) (pc : Nat) (ls : zL) (st : List Value) (h : fH) : Option (Nat × zL × List Value × fH) := bif Nat.ble 8 op then fd_8_11 X nL ini c op a b pc ls st h else fd_6_8 X nL ini c op a b pc ls st h
noncomputable def fd_1_11 (X : zX) (nL : Nat) (ini : Bool) (c : Nat) (op a b : Nat) (pc : Nat) (ls : zL) (st : List Value) (h : fH) : Option (Nat × zL × List Value × fH) := bif Nat.ble 6 op then fd_6_11 X nL ini c op a b pc ls st h else fd_1_6 X nL ini c op a b pc ls st h
noncomputable def fd_11_13 (X : zX) (nL : Nat) (ini : Bool) (c : Nat) (op a b : Nat) (pc : Nat) (ls : zL) (st : List Value) (h : fH) : Option (Nat × zL × List Value × fH) := bif Nat.ble 12 op then fl_iushr pc ls st h else fl_ishr pc ls st h
noncomputable def fd_14_16 (X : zX) (nL : Nat) (ini : Bool) (c : Nat) (op a b : Nat) (pc : Nat) (ls : zL) (st : List Value) (h : fH) : Option (Nat × zL × List Value × fH) := bif Nat.ble 15 op then fl_lmul pc ls st h else fl_lsub pc ls st h
noncomputable def fd_13_16 (X : zX) (nL : Nat) (ini : Bool) (c : Nat) (op a b : Nat) (pc : Nat) (ls : zL) (st : List Value) (h : fH) : Option (Nat × zL × List Value × fH) := bif Nat.ble 14 op then fd_14_16 X nL ini c op a b pc ls st h else fl_ladd pc ls st h
noncomputable def fd_11_16 (X : zX) (nL : Nat) (ini : Bool) (c : Nat) (op a b : Nat) (pc : Nat) (ls : zL) (st : List Value) (h : fH) : Option (Nat × zL × List Value × fH) := bif Nat.ble 13 op then fd_13_16 X nL ini c op a b pc ls st h else fd_11_13 X nL ini c op a b pc ls st h
noncomputable def fd_16_18 (X : zX) (nL : Nat) (ini : Bool) (c : Nat) (op a b : Nat) (pc : Nat) (ls : zL) (st : List Value) (h : fH) : Option (Nat × zL × List Value × fH) := bif Nat.ble 17 op then fl_lor pc ls st h else fl_land pc ls st h
noncomputable def fd_19_21 (X : zX) (nL : Nat) (ini : Bool) (c : Nat) (op a b : Nat) (pc : Nat) (ls : zL) (st : List Value) (h : fH) : Option (Nat × zL × List Value × fH) := bif Nat.ble 20 op then fl_lrem pc ls st h else fl_ldiv pc ls st h
noncomputable def fd_18_21 (X : zX) (nL : Nat) (ini : Bool) (c : Nat) (op a b : Nat) (pc : Nat) (ls : zL) (st : List Value) (h : fH) : Option (Nat × zL × List Value × fH) := bif Nat.ble 19 op then fd_19_21 X nL ini c op a b pc ls st h else fl_lxor pc ls st h
noncomputable def fd_16_21 (X : zX) (nL : Nat) (ini : Bool) (c : Nat) (op a b : Nat) (pc : Nat) (ls : zL) (st : List Value) (h : fH) : Option (Nat × zL × List Value × fH) := bif Nat.ble 18 op then fd_18_21 X nL ini c op a b pc ls st h else fd_16_18 X nL ini c op a b pc ls st h
noncomputable def fd_11_21 (X : zX) (nL : Nat) (ini : Bool) (c : Nat) (op a b : Nat) (pc : Nat) (ls : zL) (st : List Value) (h : fH) : Option (Nat × zL × List Value × fH) := bif Nat.ble 16 op then fd_16_21 X nL ini c op a b pc ls st h else fd_11_16 X nL ini c op a b pc ls st h
noncomputable def fd_1_21 (X : zX) (nL : Nat) (ini : Bool) (c : Nat) (op a b : Nat) (pc : Nat) (ls : zL) (st : List Value) (h : fH) : Option (Nat × zL × List Value × fH) := bif Nat.ble 11 op then fd_11_21 X nL ini c op a b pc ls st h else fd_1_11 X nL ini c op a b pc ls st h
noncomputable def fd_21_23 (X : zX) (nL : Nat) (ini : Bool) (c : Nat) (op a b : Nat) (pc : Nat) (ls : zL) (st : List Value) (h : fH) : Option (Nat × zL × List Value × fH) := bif Nat.ble 22 op then fl_lshl pc ls st h else fl_lneg pc ls st h
noncomputable def fd_24_26 (X : zX) (nL : Nat) (ini : Bool) (c : Nat) (op a b : Nat) (pc : Nat) (ls : zL) (st : List Value) (h : fH) : Option (Nat × zL × List Value × fH) := bif Nat.ble 25 op then fl_lcmp pc ls st h else fl_lushr pc ls st h
noncomputable def fd_23_26 (X : zX) (nL : Nat) (ini : Bool) (c : Nat) (op a b : Nat) (pc : Nat) (ls : zL) (st : List Value) (h : fH) : Option (Nat × zL × List Value × fH) := bif Nat.ble 24 op then fd_24_26 X nL ini c op a b pc ls st h else fl_lshr pc ls st h
noncomputable def fd_21_26 (X : zX) (nL : Nat) (ini : Bool) (c : Nat) (op a b : Nat) (pc : Nat) (ls : zL) (st : List Value) (h : fH) : Option (Nat × zL × List Value × fH) := bif Nat.ble 23 op then fd_23_26 X nL ini c op a b pc ls st h else fd_21_23 X nL ini c op a b pc ls st h
noncomputable def fd_26_28 (X : zX) (nL : Nat) (ini : Bool) (c : Nat) (op a b : Nat) (pc : Nat) (ls : zL) (st : List Value) (h : fH) : Option (Nat × zL × List Value × fH) := bif Nat.ble 27 op then fl_l2i pc ls st h else fl_i2l pc ls st h
noncomputable def fd_29_31 (X : zX) (nL : Nat) (ini : Bool) (c : Nat) (op a b : Nat) (pc : Nat) (ls : zL) (st : List Value) (h : fH) : Option (Nat × zL × List Value × fH) := bif Nat.ble 30 op then fl_dup2 pc ls st h else fl_dup pc ls st h
noncomputable def fd_28_31 (X : zX) (nL : Nat) (ini : Bool) (c : Nat) (op a b : Nat) (pc : Nat) (ls : zL) (st : List Value) (h : fH) : Option (Nat × zL × List Value × fH) := bif Nat.ble 29 op then fd_29_31 X nL ini c op a b pc ls st h else fl_i2c pc ls st h
noncomputable def fd_26_31 (X : zX) (nL : Nat) (ini : Bool) (c : Nat) (op a b : Nat) (pc : Nat) (ls : zL) (st : List Value) (h : fH) : Option (Nat × zL × List Value × fH) := bif Nat.ble 28 op then fd_28_31 X nL ini c op a b pc ls st h else fd_26_28 X nL ini c op a b pc ls st h
noncomputable def fd_21_31 (X : zX) (nL : Nat) (ini : Bool) (c : Nat) (op a b : Nat) (pc : Nat) (ls : zL) (st : List Value) (h : fH) : Option (Nat × zL × List Value × fH) := bif Nat.ble 26 op then fd_26_31 X nL ini c op a b pc ls st h else fd_21_26 X nL ini c op a b pc ls st h
noncomputable def fd_31_33 (X : zX) (nL : Nat) (ini : Bool) (c : Nat) (op a b : Nat) (pc : Nat) (ls : zL) (st : List Value) (h : fH) : Option (Nat × zL × List Value × fH) := bif Nat.ble 32 op then fl_ifCond .eq ((b : Int) - 32768) pc ls st h else fl_pop pc ls st h
noncomputable def fd_34_36 (X : zX) (nL : Nat) (ini : Bool) (c : Nat) (op a b : Nat) (pc : Nat) (ls : zL) (st : List Value) (h : fH) : Option (Nat × zL × List Value × fH) := bif Nat.ble 35 op then fl_ifCond .ge ((b : Int) - 32768) pc ls st h else fl_ifCond .lt ((b : Int) - 32768) pc ls st h
noncomputable def fd_33_36 (X : zX) (nL : Nat) (ini : Bool) (c : Nat) (op a b : Nat) (pc : Nat) (ls : zL) (st : List Value) (h : fH) : Option (Nat × zL × List Value × fH) := bif Nat.ble 34 op then fd_34_36 X nL ini c op a b pc ls st h else fl_ifCond .ne ((b : Int) - 32768) pc ls st h
noncomputable def fd_31_36 (X : zX) (nL : Nat) (ini : Bool) (c : Nat) (op a b : Nat) (pc : Nat) (ls : zL) (st : List Value) (h : fH) : Option (Nat × zL × List Value × fH) := bif Nat.ble 33 op then fd_33_36 X nL ini c op a b pc ls st h else fd_31_33 X nL ini c op a b pc ls st h
noncomputable def fd_36_38 (X : zX) (nL : Nat) (ini : Bool) (c : Nat) (op a b : Nat) (pc : Nat) (ls : zL) (st : List Value) (h : fH) : Option (Nat × zL × List Value × fH) := bif Nat.ble 37 op then fl_ifCond .le ((b : Int) - 32768) pc ls st h else fl_ifCond .gt ((b : Int) - 32768) pc ls st h
noncomputable def fd_39_41 (X : zX) (nL : Nat) (ini : Bool) (c : Nat) (op a b : Nat) (pc : Nat) (ls : zL) (st : List Value) (h : fH) : Option (Nat × zL × List Value × fH) := bif Nat.ble 40 op then fl_if_icmp .lt ((b : Int) - 32768) pc ls st h else fl_if_icmp .ne ((b : Int) - 32768) pc ls st h
noncomputable def fd_38_41 (X : zX) (nL : Nat) (ini : Bool) (c : Nat) (op a b : Nat) (pc : Nat) (ls : zL) (st : List Value) (h : fH) : Option (Nat × zL × List Value × fH) := bif Nat.ble 39 op then fd_39_41 X nL ini c op a b pc ls st h else fl_if_icmp .eq ((b : Int) - 32768) pc ls st h
noncomputable def fd_36_41 (X : zX) (nL : Nat) (ini : Bool) (c : Nat) (op a b : Nat) (pc : Nat) (ls : zL) (st : List Value) (h : fH) : Option (Nat × zL × List Value × fH) := bif Nat.ble 38 op then fd_38_41 X nL ini c op a b pc ls st h else fd_36_38 X nL ini c op a b pc ls st h
noncomputable def fd_31_41 (X : zX) (nL : Nat) (ini : Bool) (c : Nat) (op a b : Nat) (pc : Nat) (ls : zL) (st : List Value) (h : fH) : Option (Nat × zL × List Value × fH) := bif Nat.ble 36 op then fd_36_41 X nL ini c op a b pc ls st h else fd_31_36 X nL ini c op a b pc ls st h
noncomputable def fd_21_41 (X : zX) (nL : Nat) (ini : Bool) (c : Nat) (op a b : Nat) (pc : Nat) (ls : zL) (st : List Value) (h : fH) : Option (Nat × zL × List Value × fH) := bif Nat.ble 31 op then fd_31_41 X nL ini c op a b pc ls st h else fd_21_31 X nL ini c op a b pc ls st h
noncomputable def fd_1_41 (X : zX) (nL : Nat) (ini : Bool) (c : Nat) (op a b : Nat) (pc : Nat) (ls : zL) (st : List Value) (h : fH) : Option (Nat × zL × List Value × fH) := bif Nat.ble 21 op then fd_21_41 X nL ini c op a b pc ls st h else fd_1_21 X nL ini c op a b pc ls st h
noncomputable def fd_41_43 (X : zX) (nL : Nat) (ini : Bool) (c : Nat) (op a b : Nat) (pc : Nat) (ls : zL) (st : List Value) (h : fH) : Option (Nat × zL × List Value × fH) := bif Nat.ble 42 op then fl_if_icmp .gt ((b : Int) - 32768) pc ls st h else fl_if_icmp .ge ((b : Int) - 32768) pc ls st h
noncomputable def fd_44_46 (X : zX) (nL : Nat) (ini : Bool) (c : Nat) (op a b : Nat) (pc : Nat) (ls : zL) (st : List Value) (h : fH) : Option (Nat × zL × List Value × fH) := bif Nat.ble 45 op then fl_iconst nL ((a : Int) - 32768) pc ls st h else fl_goto ((b : Int) - 32768) pc ls st h
noncomputable def fd_43_46 (X : zX) (nL : Nat) (ini : Bool) (c : Nat) (op a b : Nat) (pc : Nat) (ls : zL) (st : List Value) (h : fH) : Option (Nat × zL × List Value × fH) := bif Nat.ble 44 op then fd_44_46 X nL ini c op a b pc ls st h else fl_if_icmp .le ((b : Int) - 32768) pc ls st h
noncomputable def fd_41_46 (X : zX) (nL : Nat) (ini : Bool) (c : Nat) (op a b : Nat) (pc : Nat) (ls : zL) (st : List Value) (h : fH) : Option (Nat × zL × List Value × fH) := bif Nat.ble 43 op then fd_43_46 X nL ini c op a b pc ls st h else fd_41_43 X nL ini c op a b pc ls st h
noncomputable def fd_46_48 (X : zX) (nL : Nat) (ini : Bool) (c : Nat) (op a b : Nat) (pc : Nat) (ls : zL) (st : List Value) (h : fH) : Option (Nat × zL × List Value × fH) := bif Nat.ble 47 op then fl_sipush nL ((a : Int) - 32768) pc ls st h else fl_bipush nL ((a : Int) - 32768) pc ls st h
noncomputable def fd_49_51 (X : zX) (nL : Nat) (ini : Bool) (c : Nat) (op a b : Nat) (pc : Nat) (ls : zL) (st : List Value) (h : fH) : Option (Nat × zL × List Value × fH) := bif Nat.ble 50 op then fl_iload nL a pc ls st h else fl_iload_n nL (Fin.ofNat 4 a) pc ls st h
noncomputable def fd_48_51 (X : zX) (nL : Nat) (ini : Bool) (c : Nat) (op a b : Nat) (pc : Nat) (ls : zL) (st : List Value) (h : fH) : Option (Nat × zL × List Value × fH) := bif Nat.ble 49 op then fd_49_51 X nL ini c op a b pc ls st h else fl_lconst nL (Fin.ofNat 2 a) pc ls st h
noncomputable def fd_46_51 (X : zX) (nL : Nat) (ini : Bool) (c : Nat) (op a b : Nat) (pc : Nat) (ls : zL) (st : List Value) (h : fH) : Option (Nat × zL × List Value × fH) := bif Nat.ble 48 op then fd_48_51 X nL ini c op a b pc ls st h else fd_46_48 X nL ini c op a b pc ls st h
noncomputable def fd_41_51 (X : zX) (nL : Nat) (ini : Bool) (c : Nat) (op a b : Nat) (pc : Nat) (ls : zL) (st : List Value) (h : fH) : Option (Nat × zL × List Value × fH) := bif Nat.ble 46 op then fd_46_51 X nL ini c op a b pc ls st h else fd_41_46 X nL ini c op a b pc ls st h
noncomputable def fd_51_53 (X : zX) (nL : Nat) (ini : Bool) (c : Nat) (op a b : Nat) (pc : Nat) (ls : zL) (st : List Value) (h : fH) : Option (Nat × zL × List Value × fH) := bif Nat.ble 52 op then fl_lload nL a pc ls st h else fl_lload_n nL (Fin.ofNat 4 a) pc ls st h
noncomputable def fd_54_56 (X : zX) (nL : Nat) (ini : Bool) (c : Nat) (op a b : Nat) (pc : Nat) (ls : zL) (st : List Value) (h : fH) : Option (Nat × zL × List Value × fH) := bif Nat.ble 55 op then fl_istore_n nL (Fin.ofNat 4 a) pc ls st h else fl_aload nL a pc ls st h
noncomputable def fd_53_56 (X : zX) (nL : Nat) (ini : Bool) (c : Nat) (op a b : Nat) (pc : Nat) (ls : zL) (st : List Value) (h : fH) : Option (Nat × zL × List Value × fH) := bif Nat.ble 54 op then fd_54_56 X nL ini c op a b pc ls st h else fl_aload_n nL (Fin.ofNat 4 a) pc ls st h
noncomputable def fd_51_56 (X : zX) (nL : Nat) (ini : Bool) (c : Nat) (op a b : Nat) (pc : Nat) (ls : zL) (st : List Value) (h : fH) : Option (Nat × zL × List Value × fH) := bif Nat.ble 53 op then fd_53_56 X nL ini c op a b pc ls st h else fd_51_53 X nL ini c op a b pc ls st h
noncomputable def fd_56_58 (X : zX) (nL : Nat) (ini : Bool) (c : Nat) (op a b : Nat) (pc : Nat) (ls : zL) (st : List Value) (h : fH) : Option (Nat × zL × List Value × fH) := bif Nat.ble 57 op then fl_lstore_n nL (Fin.ofNat 4 a) pc ls st h else fl_istore nL a pc ls st h
noncomputable def fd_59_61 (X : zX) (nL : Nat) (ini : Bool) (c : Nat) (op a b : Nat) (pc : Nat) (ls : zL) (st : List Value) (h : fH) : Option (Nat × zL × List Value × fH) := bif Nat.ble 60 op then fl_astore nL a pc ls st h else fl_astore_n nL (Fin.ofNat 4 a) pc ls st h
noncomputable def fd_58_61 (X : zX) (nL : Nat) (ini : Bool) (c : Nat) (op a b : Nat) (pc : Nat) (ls : zL) (st : List Value) (h : fH) : Option (Nat × zL × List Value × fH) := bif Nat.ble 59 op then fd_59_61 X nL ini c op a b pc ls st h else fl_lstore nL a pc ls st h
noncomputable def fd_56_61 (X : zX) (nL : Nat) (ini : Bool) (c : Nat) (op a b : Nat) (pc : Nat) (ls : zL) (st : List Value) (h : fH) : Option (Nat × zL × List Value × fH) := bif Nat.ble 58 op then fd_58_61 X nL ini c op a b pc ls st h else fd_56_58 X nL ini c op a b pc ls st h
noncomputable def fd_51_61 (X : zX) (nL : Nat) (ini : Bool) (c : Nat) (op a b : Nat) (pc : Nat) (ls : zL) (st : List Value) (h : fH) : Option (Nat × zL × List Value × fH) := bif Nat.ble 56 op then fd_56_61 X nL ini c op a b pc ls st h else fd_51_56 X nL ini c op a b pc ls st h
noncomputable def fd_41_61 (X : zX) (nL : Nat) (ini : Bool) (c : Nat) (op a b : Nat) (pc : Nat) (ls : zL) (st : List Value) (h : fH) : Option (Nat × zL × List Value × fH) := bif Nat.ble 51 op then fd_51_61 X nL ini c op a b pc ls st h else fd_41_51 X nL ini c op a b pc ls st h
noncomputable def fd_61_63 (X : zX) (nL : Nat) (ini : Bool) (c : Nat) (op a b : Nat) (pc : Nat) (ls : zL) (st : List Value) (h : fH) : Option (Nat × zL × List Value × fH) := bif Nat.ble 62 op then fl_getfield X ini c a pc ls st h else fl_iinc nL a ((b : Int) - 32768) pc ls st h
noncomputable def fd_64_66 (X : zX) (nL : Nat) (ini : Bool) (c : Nat) (op a b : Nat) (pc : Nat) (ls : zL) (st : List Value) (h : fH) : Option (Nat × zL × List Value × fH) := bif Nat.ble 65 op then fl_ldc X ini c a pc ls st h else fl_getstatic X ini c a pc ls st h
noncomputable def fd_63_66 (X : zX) (nL : Nat) (ini : Bool) (c : Nat) (op a b : Nat) (pc : Nat) (ls : zL) (st : List Value) (h : fH) : Option (Nat × zL × List Value × fH) := bif Nat.ble 64 op then fd_64_66 X nL ini c op a b pc ls st h else fl_putfield X ini c a pc ls st h
noncomputable def fd_61_66 (X : zX) (nL : Nat) (ini : Bool) (c : Nat) (op a b : Nat) (pc : Nat) (ls : zL) (st : List Value) (h : fH) : Option (Nat × zL × List Value × fH) := bif Nat.ble 63 op then fd_63_66 X nL ini c op a b pc ls st h else fd_61_63 X nL ini c op a b pc ls st h
noncomputable def fd_66_68 (X : zX) (nL : Nat) (ini : Bool) (c : Nat) (op a b : Nat) (pc : Nat) (ls : zL) (st : List Value) (h : fH) : Option (Nat × zL × List Value × fH) := bif Nat.ble 67 op then fl_ldc2_w X ini c a pc ls st h else fl_ldc_w X ini c a pc ls st h
noncomputable def fd_69_71 (X : zX) (nL : Nat) (ini : Bool) (c : Nat) (op a b : Nat) (pc : Nat) (ls : zL) (st : List Value) (h : fH) : Option (Nat × zL × List Value × fH) := bif Nat.ble 70 op then fl_laload X ini c pc ls st h else fl_baload X ini c pc ls st h
noncomputable def fd_68_71 (X : zX) (nL : Nat) (ini : Bool) (c : Nat) (op a b : Nat) (pc : Nat) (ls : zL) (st : List Value) (h : fH) : Option (Nat × zL × List Value × fH) := bif Nat.ble 69 op then fd_69_71 X nL ini c op a b pc ls st h else fl_iaload X ini c pc ls st h
noncomputable def fd_66_71 (X : zX) (nL : Nat) (ini : Bool) (c : Nat) (op a b : Nat) (pc : Nat) (ls : zL) (st : List Value) (h : fH) : Option (Nat × zL × List Value × fH) := bif Nat.ble 68 op then fd_68_71 X nL ini c op a b pc ls st h else fd_66_68 X nL ini c op a b pc ls st h
noncomputable def fd_61_71 (X : zX) (nL : Nat) (ini : Bool) (c : Nat) (op a b : Nat) (pc : Nat) (ls : zL) (st : List Value) (h : fH) : Option (Nat × zL × List Value × fH) := bif Nat.ble 66 op then fd_66_71 X nL ini c op a b pc ls st h else fd_61_66 X nL ini c op a b pc ls st h
noncomputable def fd_71_73 (X : zX) (nL : Nat) (ini : Bool) (c : Nat) (op a b : Nat) (pc : Nat) (ls : zL) (st : List Value) (h : fH) : Option (Nat × zL × List Value × fH) := bif Nat.ble 72 op then fl_iastore X ini c pc ls st h else fl_aaload X ini c pc ls st h
noncomputable def fd_74_76 (X : zX) (nL : Nat) (ini : Bool) (c : Nat) (op a b : Nat) (pc : Nat) (ls : zL) (st : List Value) (h : fH) : Option (Nat × zL × List Value × fH) := bif Nat.ble 75 op then fl_aastore X ini c pc ls st h else fl_lastore X ini c pc ls st h
noncomputable def fd_73_76 (X : zX) (nL : Nat) (ini : Bool) (c : Nat) (op a b : Nat) (pc : Nat) (ls : zL) (st : List Value) (h : fH) : Option (Nat × zL × List Value × fH) := bif Nat.ble 74 op then fd_74_76 X nL ini c op a b pc ls st h else fl_bastore X ini c pc ls st h
noncomputable def fd_71_76 (X : zX) (nL : Nat) (ini : Bool) (c : Nat) (op a b : Nat) (pc : Nat) (ls : zL) (st : List Value) (h : fH) : Option (Nat × zL × List Value × fH) := bif Nat.ble 73 op then fd_73_76 X nL ini c op a b pc ls st h else fd_71_73 X nL ini c op a b pc ls st h
noncomputable def fd_77_79 (X : zX) (nL : Nat) (ini : Bool) (c : Nat) (op a b : Nat) (pc : Nat) (ls : zL) (st : List Value) (h : fH) : Option (Nat × zL × List Value × fH) := bif Nat.ble 78 op then fl_newarray_int X ini c pc ls st h else fl_new X ini c a pc ls st h
noncomputable def fd_76_79 (X : zX) (nL : Nat) (ini : Bool) (c : Nat) (op a b : Nat) (pc : Nat) (ls : zL) (st : List Value) (h : fH) : Option (Nat × zL × List Value × fH) := bif Nat.ble 77 op then fd_77_79 X nL ini c op a b pc ls st h else fl_arraylength X ini c pc ls st h
noncomputable def fd_80_82 (X : zX) (nL : Nat) (ini : Bool) (c : Nat) (op a b : Nat) (pc : Nat) (ls : zL) (st : List Value) (h : fH) : Option (Nat × zL × List Value × fH) := bif Nat.ble 81 op then fl_anewarray X ini c a pc ls st h else fl_newarray_long X ini c pc ls st h
noncomputable def fd_79_82 (X : zX) (nL : Nat) (ini : Bool) (c : Nat) (op a b : Nat) (pc : Nat) (ls : zL) (st : List Value) (h : fH) : Option (Nat × zL × List Value × fH) := bif Nat.ble 80 op then fd_80_82 X nL ini c op a b pc ls st h else fl_newarray_boolean X ini c pc ls st h
noncomputable def fd_76_82 (X : zX) (nL : Nat) (ini : Bool) (c : Nat) (op a b : Nat) (pc : Nat) (ls : zL) (st : List Value) (h : fH) : Option (Nat × zL × List Value × fH) := bif Nat.ble 79 op then fd_79_82 X nL ini c op a b pc ls st h else fd_76_79 X nL ini c op a b pc ls st h
noncomputable def fd_71_82 (X : zX) (nL : Nat) (ini : Bool) (c : Nat) (op a b : Nat) (pc : Nat) (ls : zL) (st : List Value) (h : fH) : Option (Nat × zL × List Value × fH) := bif Nat.ble 76 op then fd_76_82 X nL ini c op a b pc ls st h else fd_71_76 X nL ini c op a b pc ls st h
noncomputable def fd_61_82 (X : zX) (nL : Nat) (ini : Bool) (c : Nat) (op a b : Nat) (pc : Nat) (ls : zL) (st : List Value) (h : fH) : Option (Nat × zL × List Value × fH) := bif Nat.ble 71 op then fd_71_82 X nL ini c op a b pc ls st h else fd_61_71 X nL ini c op a b pc ls st h
noncomputable def fd_41_82 (X : zX) (nL : Nat) (ini : Bool) (c : Nat) (op a b : Nat) (pc : Nat) (ls : zL) (st : List Value) (h : fH) : Option (Nat × zL × List Value × fH) := bif Nat.ble 61 op then fd_61_82 X nL ini c op a b pc ls st h else fd_41_61 X nL ini c op a b pc ls st h
noncomputable def fd_1_82 (X : zX) (nL : Nat) (ini : Bool) (c : Nat) (op a b : Nat) (pc : Nat) (ls : zL) (st : List Value) (h : fH) : Option (Nat × zL × List Value × fH) := bif Nat.ble 41 op then fd_41_82 X nL ini c op a b pc ls st h else fd_1_41 X nL ini c op a b pc ls st h
noncomputable def fstep (X : zX) (nL : Nat) (ini : Bool) (c : Nat) (op a b : Nat) (pc : Nat) (ls : zL) (st : List Value) (h : fH) : Option (Nat × zL × List Value × fH) := bif Nat.beq op 0 then none else bif Nat.ble 82 op then none else fd_1_82 X nL ini c op a b pc ls st h
def fdec (op a b : Nat) : Instr := bif Nat.ble 41 op then (bif Nat.ble 61 op then (bif Nat.ble 71 op then (bif Nat.ble 76 op then (bif Nat.ble 79 op then (bif Nat.ble 80 op then (bif Nat.ble 81 op then (.anewarray a) else (.newarray .long)) else (.newarray .boolean)) else (bif Nat.ble 77 op then (bif Nat.ble 78 op then (.newarray .int) else (.new a)) else (.arraylength))) else (bif Nat.ble 73 op then (bif Nat.ble 74 op then (bif Nat.ble 75 op then (.aastore) else (.lastore)) else (.bastore)) else (bif Nat.ble 72 op then (.iastore) else (.aaload)))) else (bif Nat.ble 66 op then (bif Nat.ble 68 op then (bif Nat.ble 69 op then (bif Nat.ble 70 op then (.laload) else (.baload)) else (.iaload)) else (bif Nat.ble 67 op then (.ldc2_w a) else (.ldc_w a))) else (bif Nat.ble 63 op then (bif Nat.ble 64 op then (bif Nat.ble 65 op then (.ldc a) else (.getstatic a)) else (.putfield a)) else (bif Nat.ble 62 op then (.getfield a) else (.iinc a ((b : Int) - 32768)))))) else (bif Nat.ble 51 op then (bif Nat.ble 56 op then (bif Nat.ble 58 op then (bif Nat.ble 59 op then (bif Nat.ble 60 op then (.astore a) else (.astore_n (Fin.ofNat 4 a))) else (.lstore a)) else (bif Nat.ble 57 op then (.lstore_n (Fin.ofNat 4 a)) else (.istore a))) else (bif Nat.ble 53 op then (bif Nat.ble 54 op then (bif Nat.ble 55 op then (.istore_n (Fin.ofNat 4 a)) else (.aload a)) else (.aload_n (Fin.ofNat 4 a))) else (bif Nat.ble 52 op then (.lload a) else (.lload_n (Fin.ofNat 4 a))))) else (bif Nat.ble 46 op then (bif Nat.ble 48 op then (bif Nat.ble 49 op then (bif Nat.ble 50 op then (.iload a) else (.iload_n (Fin.ofNat 4 a))) else (.lconst (Fin.ofNat 2 a))) else (bif Nat.ble 47 op then (.sipush ((a : Int) - 32768)) else (.bipush ((a : Int) - 32768)))) else (bif Nat.ble 43 op then (bif Nat.ble 44 op then (bif Nat.ble 45 op then (.iconst ((a : Int) - 32768)) else (.goto ((b : Int) - 32768))) else (.if_icmp .le ((b : Int) - 32768))) else (bif Nat.ble 42 op then (.if_icmp .gt ((b : Int) - 32768)) else (.if_icmp .ge ((b : Int) - 32768))))))) else (bif Nat.ble 21 op then (bif Nat.ble 31 op then (bif Nat.ble 36 op then (bif Nat.ble 38 op then (bif Nat.ble 39 op then (bif Nat.ble 40 op then (.if_icmp .lt ((b : Int) - 32768)) else (.if_icmp .ne ((b : Int) - 32768))) else (.if_icmp .eq ((b : Int) - 32768))) else (bif Nat.ble 37 op then (.ifCond .le ((b : Int) - 32768)) else (.ifCond .gt ((b : Int) - 32768)))) else (bif Nat.ble 33 op then (bif Nat.ble 34 op then (bif Nat.ble 35 op then (.ifCond .ge ((b : Int) - 32768)) else (.ifCond .lt ((b : Int) - 32768))) else (.ifCond .ne ((b : Int) - 32768))) else (bif Nat.ble 32 op then (.ifCond .eq ((b : Int) - 32768)) else (.pop)))) else (bif Nat.ble 26 op then (bif Nat.ble 28 op then (bif Nat.ble 29 op then (bif Nat.ble 30 op then (.dup2) else (.dup)) else (.i2c)) else (bif Nat.ble 27 op then (.l2i) else (.i2l))) else (bif Nat.ble 23 op then (bif Nat.ble 24 op then (bif Nat.ble 25 op then (.lcmp) else (.lushr)) else (.lshr)) else (bif Nat.ble 22 op then (.lshl) else (.lneg))))) else (bif Nat.ble 11 op then (bif Nat.ble 16 op then (bif Nat.ble 18 op then (bif Nat.ble 19 op then (bif Nat.ble 20 op then (.lrem) else (.ldiv)) else (.lxor)) else (bif Nat.ble 17 op then (.lor) else (.land))) else (bif Nat.ble 13 op then (bif Nat.ble 14 op then (bif Nat.ble 15 op then (.lmul) else (.lsub)) else (.ladd)) else (bif Nat.ble 12 op then (.iushr) else (.ishr)))) else (bif Nat.ble 6 op then (bif Nat.ble 8 op then (bif Nat.ble 9 op then (bif Nat.ble 10 op then (.ishl) else (.ineg)) else (.irem)) else (bif Nat.ble 7 op then (.idiv) else (.ixor))) else (bif Nat.ble 3 op then (bif Nat.ble 4 op then (bif Nat.ble 5 op then (.ior) else (.iand)) else (.imul)) else (bif Nat.ble 2 op then (.isub) else (.iadd))))))
def Tf {H K : Type} (f : H → K) (q : Nat × zL × List Value × H) : Nat × zL × List Value × K := (q.1, q.2.1, q.2.2.1, f q.2.2.2)
theorem fjump_n {H K : Type} (f : H → K) (pc : Nat) (off : Int) (ls : zL) (st : List Value) (h : H) : fjump pc off ls st (f h) = (fjump pc off ls st h).map (Tf f) := by
  unfold fjump
  split <;> rfl
theorem fbr_n {H K : Type} (f : H → K) (b : Bool) (pc : Nat) (off : Int) (ls : zL) (st : List Value) (h : H) : fbr b pc off ls st (f h) = (fbr b pc off ls st h).map (Tf f) := by
  unfold fbr
  split
  · split <;> rfl
  · rfl
theorem fn_iadd {H K : Type} (f : H → K) (pc : Nat) (ls : zL) (st : List Value) (h : H) : fl_iadd pc ls st (f h) = (fl_iadd pc ls st h).map (Tf f) := by
  unfold fl_iadd
  split <;> rfl
theorem fn_isub {H K : Type} (f : H → K) (pc : Nat) (ls : zL) (st : List Value) (h : H) : fl_isub pc ls st (f h) = (fl_isub pc ls st h).map (Tf f) := by
  unfold fl_isub
  split <;> rfl
theorem fn_imul {H K : Type} (f : H → K) (pc : Nat) (ls : zL) (st : List Value) (h : H) : fl_imul pc ls st (f h) = (fl_imul pc ls st h).map (Tf f) := by
  unfold fl_imul
  split <;> rfl
theorem fn_iand {H K : Type} (f : H → K) (pc : Nat) (ls : zL) (st : List Value) (h : H) : fl_iand pc ls st (f h) = (fl_iand pc ls st h).map (Tf f) := by
  unfold fl_iand
  split <;> rfl
theorem fn_ior {H K : Type} (f : H → K) (pc : Nat) (ls : zL) (st : List Value) (h : H) : fl_ior pc ls st (f h) = (fl_ior pc ls st h).map (Tf f) := by
  unfold fl_ior
  split <;> rfl
theorem fn_ixor {H K : Type} (f : H → K) (pc : Nat) (ls : zL) (st : List Value) (h : H) : fl_ixor pc ls st (f h) = (fl_ixor pc ls st h).map (Tf f) := by
  unfold fl_ixor
  split <;> rfl
theorem fn_idiv {H K : Type} (f : H → K) (pc : Nat) (ls : zL) (st : List Value) (h : H) : fl_idiv pc ls st (f h) = (fl_idiv pc ls st h).map (Tf f) := by
  unfold fl_idiv
  split
  · split <;> rfl
  · rfl
theorem fn_irem {H K : Type} (f : H → K) (pc : Nat) (ls : zL) (st : List Value) (h : H) : fl_irem pc ls st (f h) = (fl_irem pc ls st h).map (Tf f) := by
  unfold fl_irem
  split
  · split <;> rfl
  · rfl
theorem fn_ineg {H K : Type} (f : H → K) (pc : Nat) (ls : zL) (st : List Value) (h : H) : fl_ineg pc ls st (f h) = (fl_ineg pc ls st h).map (Tf f) := by
  unfold fl_ineg
  split <;> rfl
theorem fn_ishl {H K : Type} (f : H → K) (pc : Nat) (ls : zL) (st : List Value) (h : H) : fl_ishl pc ls st (f h) = (fl_ishl pc ls st h).map (Tf f) := by
  unfold fl_ishl
  split <;> rfl
theorem fn_ishr {H K : Type} (f : H → K) (pc : Nat) (ls : zL) (st : List Value) (h : H) : fl_ishr pc ls st (f h) = (fl_ishr pc ls st h).map (Tf f) := by
  unfold fl_ishr
  split <;> rfl
theorem fn_iushr {H K : Type} (f : H → K) (pc : Nat) (ls : zL) (st : List Value) (h : H) : fl_iushr pc ls st (f h) = (fl_iushr pc ls st h).map (Tf f) := by
  unfold fl_iushr
  split <;> rfl
theorem fn_ladd {H K : Type} (f : H → K) (pc : Nat) (ls : zL) (st : List Value) (h : H) : fl_ladd pc ls st (f h) = (fl_ladd pc ls st h).map (Tf f) := by
  unfold fl_ladd
  split <;> rfl
theorem fn_lsub {H K : Type} (f : H → K) (pc : Nat) (ls : zL) (st : List Value) (h : H) : fl_lsub pc ls st (f h) = (fl_lsub pc ls st h).map (Tf f) := by
  unfold fl_lsub
  split <;> rfl
theorem fn_lmul {H K : Type} (f : H → K) (pc : Nat) (ls : zL) (st : List Value) (h : H) : fl_lmul pc ls st (f h) = (fl_lmul pc ls st h).map (Tf f) := by
  unfold fl_lmul
  split <;> rfl
theorem fn_land {H K : Type} (f : H → K) (pc : Nat) (ls : zL) (st : List Value) (h : H) : fl_land pc ls st (f h) = (fl_land pc ls st h).map (Tf f) := by
  unfold fl_land
  split <;> rfl
theorem fn_lor {H K : Type} (f : H → K) (pc : Nat) (ls : zL) (st : List Value) (h : H) : fl_lor pc ls st (f h) = (fl_lor pc ls st h).map (Tf f) := by
  unfold fl_lor
  split <;> rfl
theorem fn_lxor {H K : Type} (f : H → K) (pc : Nat) (ls : zL) (st : List Value) (h : H) : fl_lxor pc ls st (f h) = (fl_lxor pc ls st h).map (Tf f) := by
  unfold fl_lxor
  split <;> rfl
theorem fn_ldiv {H K : Type} (f : H → K) (pc : Nat) (ls : zL) (st : List Value) (h : H) : fl_ldiv pc ls st (f h) = (fl_ldiv pc ls st h).map (Tf f) := by
  unfold fl_ldiv
  split
  · split <;> rfl
  · rfl
theorem fn_lrem {H K : Type} (f : H → K) (pc : Nat) (ls : zL) (st : List Value) (h : H) : fl_lrem pc ls st (f h) = (fl_lrem pc ls st h).map (Tf f) := by
  unfold fl_lrem
  split
  · split <;> rfl
  · rfl
theorem fn_lneg {H K : Type} (f : H → K) (pc : Nat) (ls : zL) (st : List Value) (h : H) : fl_lneg pc ls st (f h) = (fl_lneg pc ls st h).map (Tf f) := by
  unfold fl_lneg
  split <;> rfl
theorem fn_lshl {H K : Type} (f : H → K) (pc : Nat) (ls : zL) (st : List Value) (h : H) : fl_lshl pc ls st (f h) = (fl_lshl pc ls st h).map (Tf f) := by
  unfold fl_lshl
  split <;> rfl
theorem fn_lshr {H K : Type} (f : H → K) (pc : Nat) (ls : zL) (st : List Value) (h : H) : fl_lshr pc ls st (f h) = (fl_lshr pc ls st h).map (Tf f) := by
  unfold fl_lshr
  split <;> rfl
theorem fn_lushr {H K : Type} (f : H → K) (pc : Nat) (ls : zL) (st : List Value) (h : H) : fl_lushr pc ls st (f h) = (fl_lushr pc ls st h).map (Tf f) := by
  unfold fl_lushr
  split <;> rfl
theorem fn_lcmp {H K : Type} (f : H → K) (pc : Nat) (ls : zL) (st : List Value) (h : H) : fl_lcmp pc ls st (f h) = (fl_lcmp pc ls st h).map (Tf f) := by
  unfold fl_lcmp
  split <;> rfl
theorem fn_i2l {H K : Type} (f : H → K) (pc : Nat) (ls : zL) (st : List Value) (h : H) : fl_i2l pc ls st (f h) = (fl_i2l pc ls st h).map (Tf f) := by
  unfold fl_i2l
  split <;> rfl
theorem fn_l2i {H K : Type} (f : H → K) (pc : Nat) (ls : zL) (st : List Value) (h : H) : fl_l2i pc ls st (f h) = (fl_l2i pc ls st h).map (Tf f) := by
  unfold fl_l2i
  split <;> rfl
theorem fn_i2c {H K : Type} (f : H → K) (pc : Nat) (ls : zL) (st : List Value) (h : H) : fl_i2c pc ls st (f h) = (fl_i2c pc ls st h).map (Tf f) := by
  unfold fl_i2c
  split <;> rfl
theorem fn_dup {H K : Type} (f : H → K) (pc : Nat) (ls : zL) (st : List Value) (h : H) : fl_dup pc ls st (f h) = (fl_dup pc ls st h).map (Tf f) := by
  unfold fl_dup
  split <;> rfl
theorem fn_dup2 {H K : Type} (f : H → K) (pc : Nat) (ls : zL) (st : List Value) (h : H) : fl_dup2 pc ls st (f h) = (fl_dup2 pc ls st h).map (Tf f) := by
  unfold fl_dup2
  split <;> rfl
theorem fn_pop {H K : Type} (f : H → K) (pc : Nat) (ls : zL) (st : List Value) (h : H) : fl_pop pc ls st (f h) = (fl_pop pc ls st h).map (Tf f) := by
  unfold fl_pop
  split <;> rfl
theorem fn_ifCond {H K : Type} (f : H → K) (c : Jvm.ClassFile.Cond) (off : Int) (pc : Nat) (ls : zL) (st : List Value) (h : H) : fl_ifCond c off pc ls st (f h) = (fl_ifCond c off pc ls st h).map (Tf f) := by
  unfold fl_ifCond
  split
  · exact fbr_n f _ _ _ _ _ _
  · rfl
theorem fn_if_icmp {H K : Type} (f : H → K) (c : Jvm.ClassFile.Cond) (off : Int) (pc : Nat) (ls : zL) (st : List Value) (h : H) : fl_if_icmp c off pc ls st (f h) = (fl_if_icmp c off pc ls st h).map (Tf f) := by
  unfold fl_if_icmp
  split
  · exact fbr_n f _ _ _ _ _ _
  · rfl
theorem fn_goto {H K : Type} (f : H → K) (off : Int) (pc : Nat) (ls : zL) (st : List Value) (h : H) : fl_goto off pc ls st (f h) = (fl_goto off pc ls st h).map (Tf f) := by
  exact fjump_n f _ _ _ _ _
theorem fn_iconst {H K : Type} (f : H → K) (nL : Nat) (n : Int) (pc : Nat) (ls : zL) (st : List Value) (h : H) : fl_iconst nL n pc ls st (f h) = (fl_iconst nL n pc ls st h).map (Tf f) := by
  rfl
theorem fn_bipush {H K : Type} (f : H → K) (nL : Nat) (n : Int) (pc : Nat) (ls : zL) (st : List Value) (h : H) : fl_bipush nL n pc ls st (f h) = (fl_bipush nL n pc ls st h).map (Tf f) := by
  rfl
theorem fn_sipush {H K : Type} (f : H → K) (nL : Nat) (n : Int) (pc : Nat) (ls : zL) (st : List Value) (h : H) : fl_sipush nL n pc ls st (f h) = (fl_sipush nL n pc ls st h).map (Tf f) := by
  rfl
theorem fn_lconst {H K : Type} (f : H → K) (nL : Nat) (n : Fin 2) (pc : Nat) (ls : zL) (st : List Value) (h : H) : fl_lconst nL n pc ls st (f h) = (fl_lconst nL n pc ls st h).map (Tf f) := by
  rfl
theorem fn_iload_n {H K : Type} (f : H → K) (nL : Nat) (k : Fin 4) (pc : Nat) (ls : zL) (st : List Value) (h : H) : fl_iload_n nL k pc ls st (f h) = (fl_iload_n nL k pc ls st h).map (Tf f) := by
  unfold fl_iload_n
  cases hg : glz ls k with
  | none => rfl
  | some v => cases v <;> first | rfl | (dsimp only; split <;> rfl)
theorem fn_iload {H K : Type} (f : H → K) (nL : Nat) (k : Nat) (pc : Nat) (ls : zL) (st : List Value) (h : H) : fl_iload nL k pc ls st (f h) = (fl_iload nL k pc ls st h).map (Tf f) := by
  unfold fl_iload
  cases hg : glz ls k with
  | none => rfl
  | some v => cases v <;> first | rfl | (dsimp only; split <;> rfl)
theorem fn_lload_n {H K : Type} (f : H → K) (nL : Nat) (k : Fin 4) (pc : Nat) (ls : zL) (st : List Value) (h : H) : fl_lload_n nL k pc ls st (f h) = (fl_lload_n nL k pc ls st h).map (Tf f) := by
  unfold fl_lload_n
  cases hg : glz ls k with
  | none => rfl
  | some v => cases v <;> first | rfl | (dsimp only; split <;> rfl)
theorem fn_lload {H K : Type} (f : H → K) (nL : Nat) (k : Nat) (pc : Nat) (ls : zL) (st : List Value) (h : H) : fl_lload nL k pc ls st (f h) = (fl_lload nL k pc ls st h).map (Tf f) := by
  unfold fl_lload
  cases hg : glz ls k with
  | none => rfl
  | some v => cases v <;> first | rfl | (dsimp only; split <;> rfl)
theorem fn_aload_n {H K : Type} (f : H → K) (nL : Nat) (k : Fin 4) (pc : Nat) (ls : zL) (st : List Value) (h : H) : fl_aload_n nL k pc ls st (f h) = (fl_aload_n nL k pc ls st h).map (Tf f) := by
  unfold fl_aload_n
  cases hg : glz ls k with
  | none => rfl
  | some v => cases v <;> first | rfl | (dsimp only; split <;> rfl)
theorem fn_aload {H K : Type} (f : H → K) (nL : Nat) (k : Nat) (pc : Nat) (ls : zL) (st : List Value) (h : H) : fl_aload nL k pc ls st (f h) = (fl_aload nL k pc ls st h).map (Tf f) := by
  unfold fl_aload
  cases hg : glz ls k with
  | none => rfl
  | some v => cases v <;> first | rfl | (dsimp only; split <;> rfl)
theorem fn_istore_n {H K : Type} (f : H → K) (nL : Nat) (k : Fin 4) (pc : Nat) (ls : zL) (st : List Value) (h : H) : fl_istore_n nL k pc ls st (f h) = (fl_istore_n nL k pc ls st h).map (Tf f) := by
  unfold fl_istore_n
  split
  · split <;> rfl
  · rfl
theorem fn_istore {H K : Type} (f : H → K) (nL : Nat) (k : Nat) (pc : Nat) (ls : zL) (st : List Value) (h : H) : fl_istore nL k pc ls st (f h) = (fl_istore nL k pc ls st h).map (Tf f) := by
  unfold fl_istore
  split
  · split <;> rfl
  · rfl
theorem fn_lstore_n {H K : Type} (f : H → K) (nL : Nat) (k : Fin 4) (pc : Nat) (ls : zL) (st : List Value) (h : H) : fl_lstore_n nL k pc ls st (f h) = (fl_lstore_n nL k pc ls st h).map (Tf f) := by
  unfold fl_lstore_n
  split
  · split <;> rfl
  · rfl
theorem fn_lstore {H K : Type} (f : H → K) (nL : Nat) (k : Nat) (pc : Nat) (ls : zL) (st : List Value) (h : H) : fl_lstore nL k pc ls st (f h) = (fl_lstore nL k pc ls st h).map (Tf f) := by
  unfold fl_lstore
  split
  · split <;> rfl
  · rfl
theorem fn_astore_n {H K : Type} (f : H → K) (nL : Nat) (k : Fin 4) (pc : Nat) (ls : zL) (st : List Value) (h : H) : fl_astore_n nL k pc ls st (f h) = (fl_astore_n nL k pc ls st h).map (Tf f) := by
  unfold fl_astore_n
  split
  · split <;> rfl
  · rfl
theorem fn_astore {H K : Type} (f : H → K) (nL : Nat) (k : Nat) (pc : Nat) (ls : zL) (st : List Value) (h : H) : fl_astore nL k pc ls st (f h) = (fl_astore nL k pc ls st h).map (Tf f) := by
  unfold fl_astore
  split
  · split <;> rfl
  · rfl
theorem fn_iinc {H K : Type} (f : H → K) (nL : Nat) (k : Nat) (n : Int) (pc : Nat) (ls : zL) (st : List Value) (h : H) : fl_iinc nL k n pc ls st (f h) = (fl_iinc nL k n pc ls st h).map (Tf f) := by
  unfold fl_iinc
  cases hg : glz ls k with
  | none => rfl
  | some v => cases v <;> first | rfl | (dsimp only; split <;> rfl)
theorem fq_iadd {H : Type} {pc : Nat} {ls : zL} {st : List Value} {h : H} {q : Nat × zL × List Value × H} (hs : fl_iadd pc ls st h = some q) : q.2.2.2 = h := by
  have h1 := fn_iadd (fun _ : Unit => h) pc ls st ()
  rw [hs] at h1
  cases h2 : fl_iadd pc ls st () with
  | none => rw [h2] at h1; cases h1
  | some z => rw [h2] at h1; cases h1; rfl
theorem fq_isub {H : Type} {pc : Nat} {ls : zL} {st : List Value} {h : H} {q : Nat × zL × List Value × H} (hs : fl_isub pc ls st h = some q) : q.2.2.2 = h := by
  have h1 := fn_isub (fun _ : Unit => h) pc ls st ()
  rw [hs] at h1
  cases h2 : fl_isub pc ls st () with
  | none => rw [h2] at h1; cases h1
  | some z => rw [h2] at h1; cases h1; rfl
theorem fq_imul {H : Type} {pc : Nat} {ls : zL} {st : List Value} {h : H} {q : Nat × zL × List Value × H} (hs : fl_imul pc ls st h = some q) : q.2.2.2 = h := by
  have h1 := fn_imul (fun _ : Unit => h) pc ls st ()
  rw [hs] at h1
  cases h2 : fl_imul pc ls st () with
  | none => rw [h2] at h1; cases h1
  | some z => rw [h2] at h1; cases h1; rfl
theorem fq_iand {H : Type} {pc : Nat} {ls : zL} {st : List Value} {h : H} {q : Nat × zL × List Value × H} (hs : fl_iand pc ls st h = some q) : q.2.2.2 = h := by
  have h1 := fn_iand (fun _ : Unit => h) pc ls st ()
  rw [hs] at h1
  cases h2 : fl_iand pc ls st () with
  | none => rw [h2] at h1; cases h1
  | some z => rw [h2] at h1; cases h1; rfl
theorem fq_ior {H : Type} {pc : Nat} {ls : zL} {st : List Value} {h : H} {q : Nat × zL × List Value × H} (hs : fl_ior pc ls st h = some q) : q.2.2.2 = h := by
  have h1 := fn_ior (fun _ : Unit => h) pc ls st ()
  rw [hs] at h1
  cases h2 : fl_ior pc ls st () with
  | none => rw [h2] at h1; cases h1
  | some z => rw [h2] at h1; cases h1; rfl
theorem fq_ixor {H : Type} {pc : Nat} {ls : zL} {st : List Value} {h : H} {q : Nat × zL × List Value × H} (hs : fl_ixor pc ls st h = some q) : q.2.2.2 = h := by
  have h1 := fn_ixor (fun _ : Unit => h) pc ls st ()
  rw [hs] at h1
  cases h2 : fl_ixor pc ls st () with
  | none => rw [h2] at h1; cases h1
  | some z => rw [h2] at h1; cases h1; rfl
theorem fq_idiv {H : Type} {pc : Nat} {ls : zL} {st : List Value} {h : H} {q : Nat × zL × List Value × H} (hs : fl_idiv pc ls st h = some q) : q.2.2.2 = h := by
  have h1 := fn_idiv (fun _ : Unit => h) pc ls st ()
  rw [hs] at h1
  cases h2 : fl_idiv pc ls st () with
  | none => rw [h2] at h1; cases h1
  | some z => rw [h2] at h1; cases h1; rfl
theorem fq_irem {H : Type} {pc : Nat} {ls : zL} {st : List Value} {h : H} {q : Nat × zL × List Value × H} (hs : fl_irem pc ls st h = some q) : q.2.2.2 = h := by
  have h1 := fn_irem (fun _ : Unit => h) pc ls st ()
  rw [hs] at h1
  cases h2 : fl_irem pc ls st () with
  | none => rw [h2] at h1; cases h1
  | some z => rw [h2] at h1; cases h1; rfl
theorem fq_ineg {H : Type} {pc : Nat} {ls : zL} {st : List Value} {h : H} {q : Nat × zL × List Value × H} (hs : fl_ineg pc ls st h = some q) : q.2.2.2 = h := by
  have h1 := fn_ineg (fun _ : Unit => h) pc ls st ()
  rw [hs] at h1
  cases h2 : fl_ineg pc ls st () with
  | none => rw [h2] at h1; cases h1
  | some z => rw [h2] at h1; cases h1; rfl
theorem fq_ishl {H : Type} {pc : Nat} {ls : zL} {st : List Value} {h : H} {q : Nat × zL × List Value × H} (hs : fl_ishl pc ls st h = some q) : q.2.2.2 = h := by
  have h1 := fn_ishl (fun _ : Unit => h) pc ls st ()
  rw [hs] at h1
  cases h2 : fl_ishl pc ls st () with
  | none => rw [h2] at h1; cases h1
  | some z => rw [h2] at h1; cases h1; rfl
theorem fq_ishr {H : Type} {pc : Nat} {ls : zL} {st : List Value} {h : H} {q : Nat × zL × List Value × H} (hs : fl_ishr pc ls st h = some q) : q.2.2.2 = h := by
  have h1 := fn_ishr (fun _ : Unit => h) pc ls st ()
  rw [hs] at h1
  cases h2 : fl_ishr pc ls st () with
  | none => rw [h2] at h1; cases h1
  | some z => rw [h2] at h1; cases h1; rfl
theorem fq_iushr {H : Type} {pc : Nat} {ls : zL} {st : List Value} {h : H} {q : Nat × zL × List Value × H} (hs : fl_iushr pc ls st h = some q) : q.2.2.2 = h := by
  have h1 := fn_iushr (fun _ : Unit => h) pc ls st ()
  rw [hs] at h1
  cases h2 : fl_iushr pc ls st () with
  | none => rw [h2] at h1; cases h1
  | some z => rw [h2] at h1; cases h1; rfl
theorem fq_ladd {H : Type} {pc : Nat} {ls : zL} {st : List Value} {h : H} {q : Nat × zL × List Value × H} (hs : fl_ladd pc ls st h = some q) : q.2.2.2 = h := by
  have h1 := fn_ladd (fun _ : Unit => h) pc ls st ()
  rw [hs] at h1
  cases h2 : fl_ladd pc ls st () with
  | none => rw [h2] at h1; cases h1
  | some z => rw [h2] at h1; cases h1; rfl
theorem fq_lsub {H : Type} {pc : Nat} {ls : zL} {st : List Value} {h : H} {q : Nat × zL × List Value × H} (hs : fl_lsub pc ls st h = some q) : q.2.2.2 = h := by
  have h1 := fn_lsub (fun _ : Unit => h) pc ls st ()
  rw [hs] at h1
  cases h2 : fl_lsub pc ls st () with
  | none => rw [h2] at h1; cases h1
  | some z => rw [h2] at h1; cases h1; rfl
theorem fq_lmul {H : Type} {pc : Nat} {ls : zL} {st : List Value} {h : H} {q : Nat × zL × List Value × H} (hs : fl_lmul pc ls st h = some q) : q.2.2.2 = h := by
  have h1 := fn_lmul (fun _ : Unit => h) pc ls st ()
  rw [hs] at h1
  cases h2 : fl_lmul pc ls st () with
  | none => rw [h2] at h1; cases h1
  | some z => rw [h2] at h1; cases h1; rfl
theorem fq_land {H : Type} {pc : Nat} {ls : zL} {st : List Value} {h : H} {q : Nat × zL × List Value × H} (hs : fl_land pc ls st h = some q) : q.2.2.2 = h := by
  have h1 := fn_land (fun _ : Unit => h) pc ls st ()
  rw [hs] at h1
  cases h2 : fl_land pc ls st () with
  | none => rw [h2] at h1; cases h1
  | some z => rw [h2] at h1; cases h1; rfl
theorem fq_lor {H : Type} {pc : Nat} {ls : zL} {st : List Value} {h : H} {q : Nat × zL × List Value × H} (hs : fl_lor pc ls st h = some q) : q.2.2.2 = h := by
  have h1 := fn_lor (fun _ : Unit => h) pc ls st ()
  rw [hs] at h1
  cases h2 : fl_lor pc ls st () with
  | none => rw [h2] at h1; cases h1
  | some z => rw [h2] at h1; cases h1; rfl
theorem fq_lxor {H : Type} {pc : Nat} {ls : zL} {st : List Value} {h : H} {q : Nat × zL × List Value × H} (hs : fl_lxor pc ls st h = some q) : q.2.2.2 = h := by
  have h1 := fn_lxor (fun _ : Unit => h) pc ls st ()
  rw [hs] at h1
  cases h2 : fl_lxor pc ls st () with
  | none => rw [h2] at h1; cases h1
  | some z => rw [h2] at h1; cases h1; rfl
theorem fq_ldiv {H : Type} {pc : Nat} {ls : zL} {st : List Value} {h : H} {q : Nat × zL × List Value × H} (hs : fl_ldiv pc ls st h = some q) : q.2.2.2 = h := by
  have h1 := fn_ldiv (fun _ : Unit => h) pc ls st ()
  rw [hs] at h1
  cases h2 : fl_ldiv pc ls st () with
  | none => rw [h2] at h1; cases h1
  | some z => rw [h2] at h1; cases h1; rfl
theorem fq_lrem {H : Type} {pc : Nat} {ls : zL} {st : List Value} {h : H} {q : Nat × zL × List Value × H} (hs : fl_lrem pc ls st h = some q) : q.2.2.2 = h := by
  have h1 := fn_lrem (fun _ : Unit => h) pc ls st ()
  rw [hs] at h1
  cases h2 : fl_lrem pc ls st () with
  | none => rw [h2] at h1; cases h1
  | some z => rw [h2] at h1; cases h1; rfl
theorem fq_lneg {H : Type} {pc : Nat} {ls : zL} {st : List Value} {h : H} {q : Nat × zL × List Value × H} (hs : fl_lneg pc ls st h = some q) : q.2.2.2 = h := by
  have h1 := fn_lneg (fun _ : Unit => h) pc ls st ()
  rw [hs] at h1
  cases h2 : fl_lneg pc ls st () with
  | none => rw [h2] at h1; cases h1
  | some z => rw [h2] at h1; cases h1; rfl
theorem fq_lshl {H : Type} {pc : Nat} {ls : zL} {st : List Value} {h : H} {q : Nat × zL × List Value × H} (hs : fl_lshl pc ls st h = some q) : q.2.2.2 = h := by
  have h1 := fn_lshl (fun _ : Unit => h) pc ls st ()
  rw [hs] at h1
  cases h2 : fl_lshl pc ls st () with
  | none => rw [h2] at h1; cases h1
  | some z => rw [h2] at h1; cases h1; rfl
theorem fq_lshr {H : Type} {pc : Nat} {ls : zL} {st : List Value} {h : H} {q : Nat × zL × List Value × H} (hs : fl_lshr pc ls st h = some q) : q.2.2.2 = h := by
  have h1 := fn_lshr (fun _ : Unit => h) pc ls st ()
  rw [hs] at h1
  cases h2 : fl_lshr pc ls st () with
  | none => rw [h2] at h1; cases h1
  | some z => rw [h2] at h1; cases h1; rfl
theorem fq_lushr {H : Type} {pc : Nat} {ls : zL} {st : List Value} {h : H} {q : Nat × zL × List Value × H} (hs : fl_lushr pc ls st h = some q) : q.2.2.2 = h := by
  have h1 := fn_lushr (fun _ : Unit => h) pc ls st ()
  rw [hs] at h1
  cases h2 : fl_lushr pc ls st () with
  | none => rw [h2] at h1; cases h1
  | some z => rw [h2] at h1; cases h1; rfl
theorem fq_lcmp {H : Type} {pc : Nat} {ls : zL} {st : List Value} {h : H} {q : Nat × zL × List Value × H} (hs : fl_lcmp pc ls st h = some q) : q.2.2.2 = h := by
  have h1 := fn_lcmp (fun _ : Unit => h) pc ls st ()
  rw [hs] at h1
  cases h2 : fl_lcmp pc ls st () with
  | none => rw [h2] at h1; cases h1
  | some z => rw [h2] at h1; cases h1; rfl
theorem fq_i2l {H : Type} {pc : Nat} {ls : zL} {st : List Value} {h : H} {q : Nat × zL × List Value × H} (hs : fl_i2l pc ls st h = some q) : q.2.2.2 = h := by
  have h1 := fn_i2l (fun _ : Unit => h) pc ls st ()
  rw [hs] at h1
  cases h2 : fl_i2l pc ls st () with
  | none => rw [h2] at h1; cases h1
  | some z => rw [h2] at h1; cases h1; rfl
theorem fq_l2i {H : Type} {pc : Nat} {ls : zL} {st : List Value} {h : H} {q : Nat × zL × List Value × H} (hs : fl_l2i pc ls st h = some q) : q.2.2.2 = h := by
  have h1 := fn_l2i (fun _ : Unit => h) pc ls st ()
  rw [hs] at h1
  cases h2 : fl_l2i pc ls st () with
  | none => rw [h2] at h1; cases h1
  | some z => rw [h2] at h1; cases h1; rfl
theorem fq_i2c {H : Type} {pc : Nat} {ls : zL} {st : List Value} {h : H} {q : Nat × zL × List Value × H} (hs : fl_i2c pc ls st h = some q) : q.2.2.2 = h := by
  have h1 := fn_i2c (fun _ : Unit => h) pc ls st ()
  rw [hs] at h1
  cases h2 : fl_i2c pc ls st () with
  | none => rw [h2] at h1; cases h1
  | some z => rw [h2] at h1; cases h1; rfl
theorem fq_dup {H : Type} {pc : Nat} {ls : zL} {st : List Value} {h : H} {q : Nat × zL × List Value × H} (hs : fl_dup pc ls st h = some q) : q.2.2.2 = h := by
  have h1 := fn_dup (fun _ : Unit => h) pc ls st ()
  rw [hs] at h1
  cases h2 : fl_dup pc ls st () with
  | none => rw [h2] at h1; cases h1
  | some z => rw [h2] at h1; cases h1; rfl
theorem fq_dup2 {H : Type} {pc : Nat} {ls : zL} {st : List Value} {h : H} {q : Nat × zL × List Value × H} (hs : fl_dup2 pc ls st h = some q) : q.2.2.2 = h := by
  have h1 := fn_dup2 (fun _ : Unit => h) pc ls st ()
  rw [hs] at h1
  cases h2 : fl_dup2 pc ls st () with
  | none => rw [h2] at h1; cases h1
  | some z => rw [h2] at h1; cases h1; rfl
theorem fq_pop {H : Type} {pc : Nat} {ls : zL} {st : List Value} {h : H} {q : Nat × zL × List Value × H} (hs : fl_pop pc ls st h = some q) : q.2.2.2 = h := by
  have h1 := fn_pop (fun _ : Unit => h) pc ls st ()
  rw [hs] at h1
  cases h2 : fl_pop pc ls st () with
  | none => rw [h2] at h1; cases h1
  | some z => rw [h2] at h1; cases h1; rfl
theorem fq_ifCond {H : Type} {c : Jvm.ClassFile.Cond} {off : Int} {pc : Nat} {ls : zL} {st : List Value} {h : H} {q : Nat × zL × List Value × H} (hs : fl_ifCond c off pc ls st h = some q) : q.2.2.2 = h := by
  have h1 := fn_ifCond (fun _ : Unit => h) c off pc ls st ()
  rw [hs] at h1
  cases h2 : fl_ifCond c off pc ls st () with
  | none => rw [h2] at h1; cases h1
  | some z => rw [h2] at h1; cases h1; rfl
theorem fq_if_icmp {H : Type} {c : Jvm.ClassFile.Cond} {off : Int} {pc : Nat} {ls : zL} {st : List Value} {h : H} {q : Nat × zL × List Value × H} (hs : fl_if_icmp c off pc ls st h = some q) : q.2.2.2 = h := by
  have h1 := fn_if_icmp (fun _ : Unit => h) c off pc ls st ()
  rw [hs] at h1
  cases h2 : fl_if_icmp c off pc ls st () with
  | none => rw [h2] at h1; cases h1
  | some z => rw [h2] at h1; cases h1; rfl
theorem fq_goto {H : Type} {off : Int} {pc : Nat} {ls : zL} {st : List Value} {h : H} {q : Nat × zL × List Value × H} (hs : fl_goto off pc ls st h = some q) : q.2.2.2 = h := by
  have h1 := fn_goto (fun _ : Unit => h) off pc ls st ()
  rw [hs] at h1
  cases h2 : fl_goto off pc ls st () with
  | none => rw [h2] at h1; cases h1
  | some z => rw [h2] at h1; cases h1; rfl
theorem fq_iconst {H : Type} {nL : Nat} {n : Int} {pc : Nat} {ls : zL} {st : List Value} {h : H} {q : Nat × zL × List Value × H} (hs : fl_iconst nL n pc ls st h = some q) : q.2.2.2 = h := by
  have h1 := fn_iconst (fun _ : Unit => h) nL n pc ls st ()
  rw [hs] at h1
  cases h2 : fl_iconst nL n pc ls st () with
  | none => rw [h2] at h1; cases h1
  | some z => rw [h2] at h1; cases h1; rfl
theorem fq_bipush {H : Type} {nL : Nat} {n : Int} {pc : Nat} {ls : zL} {st : List Value} {h : H} {q : Nat × zL × List Value × H} (hs : fl_bipush nL n pc ls st h = some q) : q.2.2.2 = h := by
  have h1 := fn_bipush (fun _ : Unit => h) nL n pc ls st ()
  rw [hs] at h1
  cases h2 : fl_bipush nL n pc ls st () with
  | none => rw [h2] at h1; cases h1
  | some z => rw [h2] at h1; cases h1; rfl
theorem fq_sipush {H : Type} {nL : Nat} {n : Int} {pc : Nat} {ls : zL} {st : List Value} {h : H} {q : Nat × zL × List Value × H} (hs : fl_sipush nL n pc ls st h = some q) : q.2.2.2 = h := by
  have h1 := fn_sipush (fun _ : Unit => h) nL n pc ls st ()
  rw [hs] at h1
  cases h2 : fl_sipush nL n pc ls st () with
  | none => rw [h2] at h1; cases h1
  | some z => rw [h2] at h1; cases h1; rfl
theorem fq_lconst {H : Type} {nL : Nat} {n : Fin 2} {pc : Nat} {ls : zL} {st : List Value} {h : H} {q : Nat × zL × List Value × H} (hs : fl_lconst nL n pc ls st h = some q) : q.2.2.2 = h := by
  have h1 := fn_lconst (fun _ : Unit => h) nL n pc ls st ()
  rw [hs] at h1
  cases h2 : fl_lconst nL n pc ls st () with
  | none => rw [h2] at h1; cases h1
  | some z => rw [h2] at h1; cases h1; rfl
theorem fq_iload_n {H : Type} {nL : Nat} {k : Fin 4} {pc : Nat} {ls : zL} {st : List Value} {h : H} {q : Nat × zL × List Value × H} (hs : fl_iload_n nL k pc ls st h = some q) : q.2.2.2 = h := by
  have h1 := fn_iload_n (fun _ : Unit => h) nL k pc ls st ()
  rw [hs] at h1
  cases h2 : fl_iload_n nL k pc ls st () with
  | none => rw [h2] at h1; cases h1
  | some z => rw [h2] at h1; cases h1; rfl
theorem fq_iload {H : Type} {nL : Nat} {k : Nat} {pc : Nat} {ls : zL} {st : List Value} {h : H} {q : Nat × zL × List Value × H} (hs : fl_iload nL k pc ls st h = some q) : q.2.2.2 = h := by
  have h1 := fn_iload (fun _ : Unit => h) nL k pc ls st ()
  rw [hs] at h1
  cases h2 : fl_iload nL k pc ls st () with
  | none => rw [h2] at h1; cases h1
  | some z => rw [h2] at h1; cases h1; rfl
theorem fq_lload_n {H : Type} {nL : Nat} {k : Fin 4} {pc : Nat} {ls : zL} {st : List Value} {h : H} {q : Nat × zL × List Value × H} (hs : fl_lload_n nL k pc ls st h = some q) : q.2.2.2 = h := by
  have h1 := fn_lload_n (fun _ : Unit => h) nL k pc ls st ()
  rw [hs] at h1
  cases h2 : fl_lload_n nL k pc ls st () with
  | none => rw [h2] at h1; cases h1
  | some z => rw [h2] at h1; cases h1; rfl
theorem fq_lload {H : Type} {nL : Nat} {k : Nat} {pc : Nat} {ls : zL} {st : List Value} {h : H} {q : Nat × zL × List Value × H} (hs : fl_lload nL k pc ls st h = some q) : q.2.2.2 = h := by
  have h1 := fn_lload (fun _ : Unit => h) nL k pc ls st ()
  rw [hs] at h1
  cases h2 : fl_lload nL k pc ls st () with
  | none => rw [h2] at h1; cases h1
  | some z => rw [h2] at h1; cases h1; rfl
theorem fq_aload_n {H : Type} {nL : Nat} {k : Fin 4} {pc : Nat} {ls : zL} {st : List Value} {h : H} {q : Nat × zL × List Value × H} (hs : fl_aload_n nL k pc ls st h = some q) : q.2.2.2 = h := by
  have h1 := fn_aload_n (fun _ : Unit => h) nL k pc ls st ()
  rw [hs] at h1
  cases h2 : fl_aload_n nL k pc ls st () with
  | none => rw [h2] at h1; cases h1
  | some z => rw [h2] at h1; cases h1; rfl
theorem fq_aload {H : Type} {nL : Nat} {k : Nat} {pc : Nat} {ls : zL} {st : List Value} {h : H} {q : Nat × zL × List Value × H} (hs : fl_aload nL k pc ls st h = some q) : q.2.2.2 = h := by
  have h1 := fn_aload (fun _ : Unit => h) nL k pc ls st ()
  rw [hs] at h1
  cases h2 : fl_aload nL k pc ls st () with
  | none => rw [h2] at h1; cases h1
  | some z => rw [h2] at h1; cases h1; rfl
theorem fq_istore_n {H : Type} {nL : Nat} {k : Fin 4} {pc : Nat} {ls : zL} {st : List Value} {h : H} {q : Nat × zL × List Value × H} (hs : fl_istore_n nL k pc ls st h = some q) : q.2.2.2 = h := by
  have h1 := fn_istore_n (fun _ : Unit => h) nL k pc ls st ()
  rw [hs] at h1
  cases h2 : fl_istore_n nL k pc ls st () with
  | none => rw [h2] at h1; cases h1
  | some z => rw [h2] at h1; cases h1; rfl
theorem fq_istore {H : Type} {nL : Nat} {k : Nat} {pc : Nat} {ls : zL} {st : List Value} {h : H} {q : Nat × zL × List Value × H} (hs : fl_istore nL k pc ls st h = some q) : q.2.2.2 = h := by
  have h1 := fn_istore (fun _ : Unit => h) nL k pc ls st ()
  rw [hs] at h1
  cases h2 : fl_istore nL k pc ls st () with
  | none => rw [h2] at h1; cases h1
  | some z => rw [h2] at h1; cases h1; rfl
theorem fq_lstore_n {H : Type} {nL : Nat} {k : Fin 4} {pc : Nat} {ls : zL} {st : List Value} {h : H} {q : Nat × zL × List Value × H} (hs : fl_lstore_n nL k pc ls st h = some q) : q.2.2.2 = h := by
  have h1 := fn_lstore_n (fun _ : Unit => h) nL k pc ls st ()
  rw [hs] at h1
  cases h2 : fl_lstore_n nL k pc ls st () with
  | none => rw [h2] at h1; cases h1
  | some z => rw [h2] at h1; cases h1; rfl
theorem fq_lstore {H : Type} {nL : Nat} {k : Nat} {pc : Nat} {ls : zL} {st : List Value} {h : H} {q : Nat × zL × List Value × H} (hs : fl_lstore nL k pc ls st h = some q) : q.2.2.2 = h := by
  have h1 := fn_lstore (fun _ : Unit => h) nL k pc ls st ()
  rw [hs] at h1
  cases h2 : fl_lstore nL k pc ls st () with
  | none => rw [h2] at h1; cases h1
  | some z => rw [h2] at h1; cases h1; rfl
theorem fq_astore_n {H : Type} {nL : Nat} {k : Fin 4} {pc : Nat} {ls : zL} {st : List Value} {h : H} {q : Nat × zL × List Value × H} (hs : fl_astore_n nL k pc ls st h = some q) : q.2.2.2 = h := by
  have h1 := fn_astore_n (fun _ : Unit => h) nL k pc ls st ()
  rw [hs] at h1
  cases h2 : fl_astore_n nL k pc ls st () with
  | none => rw [h2] at h1; cases h1
  | some z => rw [h2] at h1; cases h1; rfl
theorem fq_astore {H : Type} {nL : Nat} {k : Nat} {pc : Nat} {ls : zL} {st : List Value} {h : H} {q : Nat × zL × List Value × H} (hs : fl_astore nL k pc ls st h = some q) : q.2.2.2 = h := by
  have h1 := fn_astore (fun _ : Unit => h) nL k pc ls st ()
  rw [hs] at h1
  cases h2 : fl_astore nL k pc ls st () with
  | none => rw [h2] at h1; cases h1
  | some z => rw [h2] at h1; cases h1; rfl
theorem fq_iinc {H : Type} {nL : Nat} {k : Nat} {n : Int} {pc : Nat} {ls : zL} {st : List Value} {h : H} {q : Nat × zL × List Value × H} (hs : fl_iinc nL k n pc ls st h = some q) : q.2.2.2 = h := by
  have h1 := fn_iinc (fun _ : Unit => h) nL k n pc ls st ()
  rw [hs] at h1
  cases h2 : fl_iinc nL k n pc ls st () with
  | none => rw [h2] at h1; cases h1
  | some z => rw [h2] at h1; cases h1; rfl
theorem fe_iconst (nL : Nat) (n : Int) (pc : Nat) (ls : zL) (st : List Value) (h : zH) : zstL nL (.iconst n) pc ls st h = fl_iconst nL n pc ls st h := by
  unfold fl_iconst
  skip
  rfl
theorem fe_bipush (nL : Nat) (n : Int) (pc : Nat) (ls : zL) (st : List Value) (h : zH) : zstL nL (.bipush n) pc ls st h = fl_bipush nL n pc ls st h := by
  unfold fl_bipush
  skip
  rfl
theorem fe_sipush (nL : Nat) (n : Int) (pc : Nat) (ls : zL) (st : List Value) (h : zH) : zstL nL (.sipush n) pc ls st h = fl_sipush nL n pc ls st h := by
  unfold fl_sipush
  skip
  rfl
theorem fe_lconst (nL : Nat) (n : Fin 2) (pc : Nat) (ls : zL) (st : List Value) (h : zH) : zstL nL (.lconst n) pc ls st h = fl_lconst nL n pc ls st h := by
  unfold fl_lconst
  skip
  rfl
theorem fe_iload_n (nL : Nat) (k : Fin 4) (pc : Nat) (ls : zL) (st : List Value) (h : zH) : zstL nL (.iload_n k) pc ls st h = fl_iload_n nL k pc ls st h := by
  unfold fl_iload_n
  simp only [gl_eq, sl1_eq, sl2_eq]
  rfl
theorem fe_iload (nL : Nat) (k : Nat) (pc : Nat) (ls : zL) (st : List Value) (h : zH) : zstL nL (.iload k) pc ls st h = fl_iload nL k pc ls st h := by
  unfold fl_iload
  simp only [gl_eq, sl1_eq, sl2_eq]
  rfl
theorem fe_lload_n (nL : Nat) (k : Fin 4) (pc : Nat) (ls : zL) (st : List Value) (h : zH) : zstL nL (.lload_n k) pc ls st h = fl_lload_n nL k pc ls st h := by
  unfold fl_lload_n
  simp only [gl_eq, sl1_eq, sl2_eq]
  rfl
theorem fe_lload (nL : Nat) (k : Nat) (pc : Nat) (ls : zL) (st : List Value) (h : zH) : zstL nL (.lload k) pc ls st h = fl_lload nL k pc ls st h := by
  unfold fl_lload
  simp only [gl_eq, sl1_eq, sl2_eq]
  rfl
theorem fe_aload_n (nL : Nat) (k : Fin 4) (pc : Nat) (ls : zL) (st : List Value) (h : zH) : zstL nL (.aload_n k) pc ls st h = fl_aload_n nL k pc ls st h := by
  unfold fl_aload_n
  simp only [gl_eq, sl1_eq, sl2_eq]
  rfl
theorem fe_aload (nL : Nat) (k : Nat) (pc : Nat) (ls : zL) (st : List Value) (h : zH) : zstL nL (.aload k) pc ls st h = fl_aload nL k pc ls st h := by
  unfold fl_aload
  simp only [gl_eq, sl1_eq, sl2_eq]
  rfl
theorem fe_istore_n (nL : Nat) (k : Fin 4) (pc : Nat) (ls : zL) (st : List Value) (h : zH) : zstL nL (.istore_n k) pc ls st h = fl_istore_n nL k pc ls st h := by
  unfold fl_istore_n
  simp only [gl_eq, sl1_eq, sl2_eq]
  rfl
theorem fe_istore (nL : Nat) (k : Nat) (pc : Nat) (ls : zL) (st : List Value) (h : zH) : zstL nL (.istore k) pc ls st h = fl_istore nL k pc ls st h := by
  unfold fl_istore
  simp only [gl_eq, sl1_eq, sl2_eq]
  rfl
theorem fe_lstore_n (nL : Nat) (k : Fin 4) (pc : Nat) (ls : zL) (st : List Value) (h : zH) : zstL nL (.lstore_n k) pc ls st h = fl_lstore_n nL k pc ls st h := by
  unfold fl_lstore_n
  simp only [gl_eq, sl1_eq, sl2_eq]
  rfl
theorem fe_lstore (nL : Nat) (k : Nat) (pc : Nat) (ls : zL) (st : List Value) (h : zH) : zstL nL (.lstore k) pc ls st h = fl_lstore nL k pc ls st h := by
  unfold fl_lstore
  simp only [gl_eq, sl1_eq, sl2_eq]
  rfl
theorem fe_astore_n (nL : Nat) (k : Fin 4) (pc : Nat) (ls : zL) (st : List Value) (h : zH) : zstL nL (.astore_n k) pc ls st h = fl_astore_n nL k pc ls st h := by
  unfold fl_astore_n
  simp only [gl_eq, sl1_eq, sl2_eq]
  rfl
theorem fe_astore (nL : Nat) (k : Nat) (pc : Nat) (ls : zL) (st : List Value) (h : zH) : zstL nL (.astore k) pc ls st h = fl_astore nL k pc ls st h := by
  unfold fl_astore
  simp only [gl_eq, sl1_eq, sl2_eq]
  rfl
theorem fe_iinc (nL : Nat) (k : Nat) (n : Int) (pc : Nat) (ls : zL) (st : List Value) (h : zH) : zstL nL (.iinc k n) pc ls st h = fl_iinc nL k n pc ls st h := by
  unfold fl_iinc
  simp only [gl_eq, sl1_eq, sl2_eq]
  rfl
theorem fs_1 {X : zX} {nL : Nat} {ini : Bool} {c a b pc : Nat} {ls : zL} {st : List Value} {h : fH} {q : Nat × zL × List Value × fH} (hk : hok h) (hs : fstep X nL ini c 1 a b pc ls st h = some q) : zstep X nL ini c (fdec 1 a b) pc ls st (hL h) = some (Tf hL q) ∧ yput (fdec 1 a b) st = false ∧ hok q.2.2.2 := by
  have h1 : fl_iadd pc ls st h = some q := hs
  have h2 : zstI X (.iadd) pc ls st (hL h) = some (Tf hL q) := by
    show fl_iadd pc ls st (hL h) = _
    rw [fn_iadd hL, h1]
    rfl
  have h3 : q.2.2.2 = h := fq_iadd h1
  exact ⟨ystepI h2, rfl, by rw [h3]; exact hk⟩
theorem fs_2 {X : zX} {nL : Nat} {ini : Bool} {c a b pc : Nat} {ls : zL} {st : List Value} {h : fH} {q : Nat × zL × List Value × fH} (hk : hok h) (hs : fstep X nL ini c 2 a b pc ls st h = some q) : zstep X nL ini c (fdec 2 a b) pc ls st (hL h) = some (Tf hL q) ∧ yput (fdec 2 a b) st = false ∧ hok q.2.2.2 := by
  have h1 : fl_isub pc ls st h = some q := hs
  have h2 : zstI X (.isub) pc ls st (hL h) = some (Tf hL q) := by
    show fl_isub pc ls st (hL h) = _
    rw [fn_isub hL, h1]
    rfl
  have h3 : q.2.2.2 = h := fq_isub h1
  exact ⟨ystepI h2, rfl, by rw [h3]; exact hk⟩
theorem fs_3 {X : zX} {nL : Nat} {ini : Bool} {c a b pc : Nat} {ls : zL} {st : List Value} {h : fH} {q : Nat × zL × List Value × fH} (hk : hok h) (hs : fstep X nL ini c 3 a b pc ls st h = some q) : zstep X nL ini c (fdec 3 a b) pc ls st (hL h) = some (Tf hL q) ∧ yput (fdec 3 a b) st = false ∧ hok q.2.2.2 := by
  have h1 : fl_imul pc ls st h = some q := hs
  have h2 : zstI X (.imul) pc ls st (hL h) = some (Tf hL q) := by
    show fl_imul pc ls st (hL h) = _
    rw [fn_imul hL, h1]
    rfl
  have h3 : q.2.2.2 = h := fq_imul h1
  exact ⟨ystepI h2, rfl, by rw [h3]; exact hk⟩
theorem fs_4 {X : zX} {nL : Nat} {ini : Bool} {c a b pc : Nat} {ls : zL} {st : List Value} {h : fH} {q : Nat × zL × List Value × fH} (hk : hok h) (hs : fstep X nL ini c 4 a b pc ls st h = some q) : zstep X nL ini c (fdec 4 a b) pc ls st (hL h) = some (Tf hL q) ∧ yput (fdec 4 a b) st = false ∧ hok q.2.2.2 := by
  have h1 : fl_iand pc ls st h = some q := hs
  have h2 : zstI X (.iand) pc ls st (hL h) = some (Tf hL q) := by
    show fl_iand pc ls st (hL h) = _
    rw [fn_iand hL, h1]
    rfl
  have h3 : q.2.2.2 = h := fq_iand h1
  exact ⟨ystepI h2, rfl, by rw [h3]; exact hk⟩
theorem fs_5 {X : zX} {nL : Nat} {ini : Bool} {c a b pc : Nat} {ls : zL} {st : List Value} {h : fH} {q : Nat × zL × List Value × fH} (hk : hok h) (hs : fstep X nL ini c 5 a b pc ls st h = some q) : zstep X nL ini c (fdec 5 a b) pc ls st (hL h) = some (Tf hL q) ∧ yput (fdec 5 a b) st = false ∧ hok q.2.2.2 := by
  have h1 : fl_ior pc ls st h = some q := hs
  have h2 : zstI X (.ior) pc ls st (hL h) = some (Tf hL q) := by
    show fl_ior pc ls st (hL h) = _
    rw [fn_ior hL, h1]
    rfl
  have h3 : q.2.2.2 = h := fq_ior h1
  exact ⟨ystepI h2, rfl, by rw [h3]; exact hk⟩
theorem fs_6 {X : zX} {nL : Nat} {ini : Bool} {c a b pc : Nat} {ls : zL} {st : List Value} {h : fH} {q : Nat × zL × List Value × fH} (hk : hok h) (hs : fstep X nL ini c 6 a b pc ls st h = some q) : zstep X nL ini c (fdec 6 a b) pc ls st (hL h) = some (Tf hL q) ∧ yput (fdec 6 a b) st = false ∧ hok q.2.2.2 := by
  have h1 : fl_ixor pc ls st h = some q := hs
  have h2 : zstI X (.ixor) pc ls st (hL h) = some (Tf hL q) := by
    show fl_ixor pc ls st (hL h) = _
    rw [fn_ixor hL, h1]
    rfl
  have h3 : q.2.2.2 = h := fq_ixor h1
  exact ⟨ystepI h2, rfl, by rw [h3]; exact hk⟩
theorem fs_7 {X : zX} {nL : Nat} {ini : Bool} {c a b pc : Nat} {ls : zL} {st : List Value} {h : fH} {q : Nat × zL × List Value × fH} (hk : hok h) (hs : fstep X nL ini c 7 a b pc ls st h = some q) : zstep X nL ini c (fdec 7 a b) pc ls st (hL h) = some (Tf hL q) ∧ yput (fdec 7 a b) st = false ∧ hok q.2.2.2 := by
  have h1 : fl_idiv pc ls st h = some q := hs
  have h2 : zstI X (.idiv) pc ls st (hL h) = some (Tf hL q) := by
    show fl_idiv pc ls st (hL h) = _
    rw [fn_idiv hL, h1]
    rfl
  have h3 : q.2.2.2 = h := fq_idiv h1
  exact ⟨ystepI h2, rfl, by rw [h3]; exact hk⟩
theorem fs_8 {X : zX} {nL : Nat} {ini : Bool} {c a b pc : Nat} {ls : zL} {st : List Value} {h : fH} {q : Nat × zL × List Value × fH} (hk : hok h) (hs : fstep X nL ini c 8 a b pc ls st h = some q) : zstep X nL ini c (fdec 8 a b) pc ls st (hL h) = some (Tf hL q) ∧ yput (fdec 8 a b) st = false ∧ hok q.2.2.2 := by
  have h1 : fl_irem pc ls st h = some q := hs
  have h2 : zstI X (.irem) pc ls st (hL h) = some (Tf hL q) := by
    show fl_irem pc ls st (hL h) = _
    rw [fn_irem hL, h1]
    rfl
  have h3 : q.2.2.2 = h := fq_irem h1
  exact ⟨ystepI h2, rfl, by rw [h3]; exact hk⟩
theorem fs_9 {X : zX} {nL : Nat} {ini : Bool} {c a b pc : Nat} {ls : zL} {st : List Value} {h : fH} {q : Nat × zL × List Value × fH} (hk : hok h) (hs : fstep X nL ini c 9 a b pc ls st h = some q) : zstep X nL ini c (fdec 9 a b) pc ls st (hL h) = some (Tf hL q) ∧ yput (fdec 9 a b) st = false ∧ hok q.2.2.2 := by
  have h1 : fl_ineg pc ls st h = some q := hs
  have h2 : zstI X (.ineg) pc ls st (hL h) = some (Tf hL q) := by
    show fl_ineg pc ls st (hL h) = _
    rw [fn_ineg hL, h1]
    rfl
  have h3 : q.2.2.2 = h := fq_ineg h1
  exact ⟨ystepI h2, rfl, by rw [h3]; exact hk⟩
theorem fs_10 {X : zX} {nL : Nat} {ini : Bool} {c a b pc : Nat} {ls : zL} {st : List Value} {h : fH} {q : Nat × zL × List Value × fH} (hk : hok h) (hs : fstep X nL ini c 10 a b pc ls st h = some q) : zstep X nL ini c (fdec 10 a b) pc ls st (hL h) = some (Tf hL q) ∧ yput (fdec 10 a b) st = false ∧ hok q.2.2.2 := by
  have h1 : fl_ishl pc ls st h = some q := hs
  have h2 : zstI X (.ishl) pc ls st (hL h) = some (Tf hL q) := by
    show fl_ishl pc ls st (hL h) = _
    rw [fn_ishl hL, h1]
    rfl
  have h3 : q.2.2.2 = h := fq_ishl h1
  exact ⟨ystepI h2, rfl, by rw [h3]; exact hk⟩
theorem fs_11 {X : zX} {nL : Nat} {ini : Bool} {c a b pc : Nat} {ls : zL} {st : List Value} {h : fH} {q : Nat × zL × List Value × fH} (hk : hok h) (hs : fstep X nL ini c 11 a b pc ls st h = some q) : zstep X nL ini c (fdec 11 a b) pc ls st (hL h) = some (Tf hL q) ∧ yput (fdec 11 a b) st = false ∧ hok q.2.2.2 := by
  have h1 : fl_ishr pc ls st h = some q := hs
  have h2 : zstI X (.ishr) pc ls st (hL h) = some (Tf hL q) := by
    show fl_ishr pc ls st (hL h) = _
    rw [fn_ishr hL, h1]
    rfl
  have h3 : q.2.2.2 = h := fq_ishr h1
  exact ⟨ystepI h2, rfl, by rw [h3]; exact hk⟩
theorem fs_12 {X : zX} {nL : Nat} {ini : Bool} {c a b pc : Nat} {ls : zL} {st : List Value} {h : fH} {q : Nat × zL × List Value × fH} (hk : hok h) (hs : fstep X nL ini c 12 a b pc ls st h = some q) : zstep X nL ini c (fdec 12 a b) pc ls st (hL h) = some (Tf hL q) ∧ yput (fdec 12 a b) st = false ∧ hok q.2.2.2 := by
  have h1 : fl_iushr pc ls st h = some q := hs
  have h2 : zstI X (.iushr) pc ls st (hL h) = some (Tf hL q) := by
    show fl_iushr pc ls st (hL h) = _
    rw [fn_iushr hL, h1]
    rfl
  have h3 : q.2.2.2 = h := fq_iushr h1
  exact ⟨ystepI h2, rfl, by rw [h3]; exact hk⟩
theorem fs_13 {X : zX} {nL : Nat} {ini : Bool} {c a b pc : Nat} {ls : zL} {st : List Value} {h : fH} {q : Nat × zL × List Value × fH} (hk : hok h) (hs : fstep X nL ini c 13 a b pc ls st h = some q) : zstep X nL ini c (fdec 13 a b) pc ls st (hL h) = some (Tf hL q) ∧ yput (fdec 13 a b) st = false ∧ hok q.2.2.2 := by
  have h1 : fl_ladd pc ls st h = some q := hs
  have h2 : zstI X (.ladd) pc ls st (hL h) = some (Tf hL q) := by
    show fl_ladd pc ls st (hL h) = _
    rw [fn_ladd hL, h1]
    rfl
  have h3 : q.2.2.2 = h := fq_ladd h1
  exact ⟨ystepI h2, rfl, by rw [h3]; exact hk⟩
theorem fs_14 {X : zX} {nL : Nat} {ini : Bool} {c a b pc : Nat} {ls : zL} {st : List Value} {h : fH} {q : Nat × zL × List Value × fH} (hk : hok h) (hs : fstep X nL ini c 14 a b pc ls st h = some q) : zstep X nL ini c (fdec 14 a b) pc ls st (hL h) = some (Tf hL q) ∧ yput (fdec 14 a b) st = false ∧ hok q.2.2.2 := by
  have h1 : fl_lsub pc ls st h = some q := hs
  have h2 : zstI X (.lsub) pc ls st (hL h) = some (Tf hL q) := by
    show fl_lsub pc ls st (hL h) = _
    rw [fn_lsub hL, h1]
    rfl
  have h3 : q.2.2.2 = h := fq_lsub h1
  exact ⟨ystepI h2, rfl, by rw [h3]; exact hk⟩
theorem fs_15 {X : zX} {nL : Nat} {ini : Bool} {c a b pc : Nat} {ls : zL} {st : List Value} {h : fH} {q : Nat × zL × List Value × fH} (hk : hok h) (hs : fstep X nL ini c 15 a b pc ls st h = some q) : zstep X nL ini c (fdec 15 a b) pc ls st (hL h) = some (Tf hL q) ∧ yput (fdec 15 a b) st = false ∧ hok q.2.2.2 := by
  have h1 : fl_lmul pc ls st h = some q := hs
  have h2 : zstI X (.lmul) pc ls st (hL h) = some (Tf hL q) := by
    show fl_lmul pc ls st (hL h) = _
    rw [fn_lmul hL, h1]
    rfl
  have h3 : q.2.2.2 = h := fq_lmul h1
  exact ⟨ystepI h2, rfl, by rw [h3]; exact hk⟩
theorem fs_16 {X : zX} {nL : Nat} {ini : Bool} {c a b pc : Nat} {ls : zL} {st : List Value} {h : fH} {q : Nat × zL × List Value × fH} (hk : hok h) (hs : fstep X nL ini c 16 a b pc ls st h = some q) : zstep X nL ini c (fdec 16 a b) pc ls st (hL h) = some (Tf hL q) ∧ yput (fdec 16 a b) st = false ∧ hok q.2.2.2 := by
  have h1 : fl_land pc ls st h = some q := hs
  have h2 : zstI X (.land) pc ls st (hL h) = some (Tf hL q) := by
    show fl_land pc ls st (hL h) = _
    rw [fn_land hL, h1]
    rfl
  have h3 : q.2.2.2 = h := fq_land h1
  exact ⟨ystepI h2, rfl, by rw [h3]; exact hk⟩
theorem fs_17 {X : zX} {nL : Nat} {ini : Bool} {c a b pc : Nat} {ls : zL} {st : List Value} {h : fH} {q : Nat × zL × List Value × fH} (hk : hok h) (hs : fstep X nL ini c 17 a b pc ls st h = some q) : zstep X nL ini c (fdec 17 a b) pc ls st (hL h) = some (Tf hL q) ∧ yput (fdec 17 a b) st = false ∧ hok q.2.2.2 := by
  have h1 : fl_lor pc ls st h = some q := hs
  have h2 : zstI X (.lor) pc ls st (hL h) = some (Tf hL q) := by
    show fl_lor pc ls st (hL h) = _
    rw [fn_lor hL, h1]
    rfl
  have h3 : q.2.2.2 = h := fq_lor h1
  exact ⟨ystepI h2, rfl, by rw [h3]; exact hk⟩
theorem fs_18 {X : zX} {nL : Nat} {ini : Bool} {c a b pc : Nat} {ls : zL} {st : List Value} {h : fH} {q : Nat × zL × List Value × fH} (hk : hok h) (hs : fstep X nL ini c 18 a b pc ls st h = some q) : zstep X nL ini c (fdec 18 a b) pc ls st (hL h) = some (Tf hL q) ∧ yput (fdec 18 a b) st = false ∧ hok q.2.2.2 := by
  have h1 : fl_lxor pc ls st h = some q := hs
  have h2 : zstI X (.lxor) pc ls st (hL h) = some (Tf hL q) := by
    show fl_lxor pc ls st (hL h) = _
    rw [fn_lxor hL, h1]
    rfl
  have h3 : q.2.2.2 = h := fq_lxor h1
  exact ⟨ystepI h2, rfl, by rw [h3]; exact hk⟩
theorem fs_19 {X : zX} {nL : Nat} {ini : Bool} {c a b pc : Nat} {ls : zL} {st : List Value} {h : fH} {q : Nat × zL × List Value × fH} (hk : hok h) (hs : fstep X nL ini c 19 a b pc ls st h = some q) : zstep X nL ini c (fdec 19 a b) pc ls st (hL h) = some (Tf hL q) ∧ yput (fdec 19 a b) st = false ∧ hok q.2.2.2 := by
  have h1 : fl_ldiv pc ls st h = some q := hs
  have h2 : zstI X (.ldiv) pc ls st (hL h) = some (Tf hL q) := by
    show fl_ldiv pc ls st (hL h) = _
    rw [fn_ldiv hL, h1]
    rfl
  have h3 : q.2.2.2 = h := fq_ldiv h1
  exact ⟨ystepI h2, rfl, by rw [h3]; exact hk⟩
theorem fs_20 {X : zX} {nL : Nat} {ini : Bool} {c a b pc : Nat} {ls : zL} {st : List Value} {h : fH} {q : Nat × zL × List Value × fH} (hk : hok h) (hs : fstep X nL ini c 20 a b pc ls st h = some q) : zstep X nL ini c (fdec 20 a b) pc ls st (hL h) = some (Tf hL q) ∧ yput (fdec 20 a b) st = false ∧ hok q.2.2.2 := by
  have h1 : fl_lrem pc ls st h = some q := hs
  have h2 : zstI X (.lrem) pc ls st (hL h) = some (Tf hL q) := by
    show fl_lrem pc ls st (hL h) = _
    rw [fn_lrem hL, h1]
    rfl
  have h3 : q.2.2.2 = h := fq_lrem h1
  exact ⟨ystepI h2, rfl, by rw [h3]; exact hk⟩
theorem fs_21 {X : zX} {nL : Nat} {ini : Bool} {c a b pc : Nat} {ls : zL} {st : List Value} {h : fH} {q : Nat × zL × List Value × fH} (hk : hok h) (hs : fstep X nL ini c 21 a b pc ls st h = some q) : zstep X nL ini c (fdec 21 a b) pc ls st (hL h) = some (Tf hL q) ∧ yput (fdec 21 a b) st = false ∧ hok q.2.2.2 := by
  have h1 : fl_lneg pc ls st h = some q := hs
  have h2 : zstI X (.lneg) pc ls st (hL h) = some (Tf hL q) := by
    show fl_lneg pc ls st (hL h) = _
    rw [fn_lneg hL, h1]
    rfl
  have h3 : q.2.2.2 = h := fq_lneg h1
  exact ⟨ystepI h2, rfl, by rw [h3]; exact hk⟩
theorem fs_22 {X : zX} {nL : Nat} {ini : Bool} {c a b pc : Nat} {ls : zL} {st : List Value} {h : fH} {q : Nat × zL × List Value × fH} (hk : hok h) (hs : fstep X nL ini c 22 a b pc ls st h = some q) : zstep X nL ini c (fdec 22 a b) pc ls st (hL h) = some (Tf hL q) ∧ yput (fdec 22 a b) st = false ∧ hok q.2.2.2 := by
  have h1 : fl_lshl pc ls st h = some q := hs
  have h2 : zstI X (.lshl) pc ls st (hL h) = some (Tf hL q) := by
    show fl_lshl pc ls st (hL h) = _
    rw [fn_lshl hL, h1]
    rfl
  have h3 : q.2.2.2 = h := fq_lshl h1
  exact ⟨ystepI h2, rfl, by rw [h3]; exact hk⟩
theorem fs_23 {X : zX} {nL : Nat} {ini : Bool} {c a b pc : Nat} {ls : zL} {st : List Value} {h : fH} {q : Nat × zL × List Value × fH} (hk : hok h) (hs : fstep X nL ini c 23 a b pc ls st h = some q) : zstep X nL ini c (fdec 23 a b) pc ls st (hL h) = some (Tf hL q) ∧ yput (fdec 23 a b) st = false ∧ hok q.2.2.2 := by
  have h1 : fl_lshr pc ls st h = some q := hs
  have h2 : zstI X (.lshr) pc ls st (hL h) = some (Tf hL q) := by
    show fl_lshr pc ls st (hL h) = _
    rw [fn_lshr hL, h1]
    rfl
  have h3 : q.2.2.2 = h := fq_lshr h1
  exact ⟨ystepI h2, rfl, by rw [h3]; exact hk⟩
theorem fs_24 {X : zX} {nL : Nat} {ini : Bool} {c a b pc : Nat} {ls : zL} {st : List Value} {h : fH} {q : Nat × zL × List Value × fH} (hk : hok h) (hs : fstep X nL ini c 24 a b pc ls st h = some q) : zstep X nL ini c (fdec 24 a b) pc ls st (hL h) = some (Tf hL q) ∧ yput (fdec 24 a b) st = false ∧ hok q.2.2.2 := by
  have h1 : fl_lushr pc ls st h = some q := hs
  have h2 : zstI X (.lushr) pc ls st (hL h) = some (Tf hL q) := by
    show fl_lushr pc ls st (hL h) = _
    rw [fn_lushr hL, h1]
    rfl
  have h3 : q.2.2.2 = h := fq_lushr h1
  exact ⟨ystepI h2, rfl, by rw [h3]; exact hk⟩
theorem fs_25 {X : zX} {nL : Nat} {ini : Bool} {c a b pc : Nat} {ls : zL} {st : List Value} {h : fH} {q : Nat × zL × List Value × fH} (hk : hok h) (hs : fstep X nL ini c 25 a b pc ls st h = some q) : zstep X nL ini c (fdec 25 a b) pc ls st (hL h) = some (Tf hL q) ∧ yput (fdec 25 a b) st = false ∧ hok q.2.2.2 := by
  have h1 : fl_lcmp pc ls st h = some q := hs
  have h2 : zstI X (.lcmp) pc ls st (hL h) = some (Tf hL q) := by
    show fl_lcmp pc ls st (hL h) = _
    rw [fn_lcmp hL, h1]
    rfl
  have h3 : q.2.2.2 = h := fq_lcmp h1
  exact ⟨ystepI h2, rfl, by rw [h3]; exact hk⟩
theorem fs_26 {X : zX} {nL : Nat} {ini : Bool} {c a b pc : Nat} {ls : zL} {st : List Value} {h : fH} {q : Nat × zL × List Value × fH} (hk : hok h) (hs : fstep X nL ini c 26 a b pc ls st h = some q) : zstep X nL ini c (fdec 26 a b) pc ls st (hL h) = some (Tf hL q) ∧ yput (fdec 26 a b) st = false ∧ hok q.2.2.2 := by
  have h1 : fl_i2l pc ls st h = some q := hs
  have h2 : zstI X (.i2l) pc ls st (hL h) = some (Tf hL q) := by
    show fl_i2l pc ls st (hL h) = _
    rw [fn_i2l hL, h1]
    rfl
  have h3 : q.2.2.2 = h := fq_i2l h1
  exact ⟨ystepI h2, rfl, by rw [h3]; exact hk⟩
theorem fs_27 {X : zX} {nL : Nat} {ini : Bool} {c a b pc : Nat} {ls : zL} {st : List Value} {h : fH} {q : Nat × zL × List Value × fH} (hk : hok h) (hs : fstep X nL ini c 27 a b pc ls st h = some q) : zstep X nL ini c (fdec 27 a b) pc ls st (hL h) = some (Tf hL q) ∧ yput (fdec 27 a b) st = false ∧ hok q.2.2.2 := by
  have h1 : fl_l2i pc ls st h = some q := hs
  have h2 : zstI X (.l2i) pc ls st (hL h) = some (Tf hL q) := by
    show fl_l2i pc ls st (hL h) = _
    rw [fn_l2i hL, h1]
    rfl
  have h3 : q.2.2.2 = h := fq_l2i h1
  exact ⟨ystepI h2, rfl, by rw [h3]; exact hk⟩
theorem fs_28 {X : zX} {nL : Nat} {ini : Bool} {c a b pc : Nat} {ls : zL} {st : List Value} {h : fH} {q : Nat × zL × List Value × fH} (hk : hok h) (hs : fstep X nL ini c 28 a b pc ls st h = some q) : zstep X nL ini c (fdec 28 a b) pc ls st (hL h) = some (Tf hL q) ∧ yput (fdec 28 a b) st = false ∧ hok q.2.2.2 := by
  have h1 : fl_i2c pc ls st h = some q := hs
  have h2 : zstI X (.i2c) pc ls st (hL h) = some (Tf hL q) := by
    show fl_i2c pc ls st (hL h) = _
    rw [fn_i2c hL, h1]
    rfl
  have h3 : q.2.2.2 = h := fq_i2c h1
  exact ⟨ystepI h2, rfl, by rw [h3]; exact hk⟩
theorem fs_29 {X : zX} {nL : Nat} {ini : Bool} {c a b pc : Nat} {ls : zL} {st : List Value} {h : fH} {q : Nat × zL × List Value × fH} (hk : hok h) (hs : fstep X nL ini c 29 a b pc ls st h = some q) : zstep X nL ini c (fdec 29 a b) pc ls st (hL h) = some (Tf hL q) ∧ yput (fdec 29 a b) st = false ∧ hok q.2.2.2 := by
  have h1 : fl_dup pc ls st h = some q := hs
  have h2 : zstI X (.dup) pc ls st (hL h) = some (Tf hL q) := by
    show fl_dup pc ls st (hL h) = _
    rw [fn_dup hL, h1]
    rfl
  have h3 : q.2.2.2 = h := fq_dup h1
  exact ⟨ystepI h2, rfl, by rw [h3]; exact hk⟩
theorem fs_30 {X : zX} {nL : Nat} {ini : Bool} {c a b pc : Nat} {ls : zL} {st : List Value} {h : fH} {q : Nat × zL × List Value × fH} (hk : hok h) (hs : fstep X nL ini c 30 a b pc ls st h = some q) : zstep X nL ini c (fdec 30 a b) pc ls st (hL h) = some (Tf hL q) ∧ yput (fdec 30 a b) st = false ∧ hok q.2.2.2 := by
  have h1 : fl_dup2 pc ls st h = some q := hs
  have h2 : zstI X (.dup2) pc ls st (hL h) = some (Tf hL q) := by
    show fl_dup2 pc ls st (hL h) = _
    rw [fn_dup2 hL, h1]
    rfl
  have h3 : q.2.2.2 = h := fq_dup2 h1
  exact ⟨ystepI h2, rfl, by rw [h3]; exact hk⟩
theorem fs_31 {X : zX} {nL : Nat} {ini : Bool} {c a b pc : Nat} {ls : zL} {st : List Value} {h : fH} {q : Nat × zL × List Value × fH} (hk : hok h) (hs : fstep X nL ini c 31 a b pc ls st h = some q) : zstep X nL ini c (fdec 31 a b) pc ls st (hL h) = some (Tf hL q) ∧ yput (fdec 31 a b) st = false ∧ hok q.2.2.2 := by
  have h1 : fl_pop pc ls st h = some q := hs
  have h2 : zstI X (.pop) pc ls st (hL h) = some (Tf hL q) := by
    show fl_pop pc ls st (hL h) = _
    rw [fn_pop hL, h1]
    rfl
  have h3 : q.2.2.2 = h := fq_pop h1
  exact ⟨ystepI h2, rfl, by rw [h3]; exact hk⟩
theorem fs_32 {X : zX} {nL : Nat} {ini : Bool} {c a b pc : Nat} {ls : zL} {st : List Value} {h : fH} {q : Nat × zL × List Value × fH} (hk : hok h) (hs : fstep X nL ini c 32 a b pc ls st h = some q) : zstep X nL ini c (fdec 32 a b) pc ls st (hL h) = some (Tf hL q) ∧ yput (fdec 32 a b) st = false ∧ hok q.2.2.2 := by
  have h1 : fl_ifCond .eq ((b : Int) - 32768) pc ls st h = some q := hs
  have h2 : zstI X (.ifCond .eq ((b : Int) - 32768)) pc ls st (hL h) = some (Tf hL q) := by
    show fl_ifCond .eq ((b : Int) - 32768) pc ls st (hL h) = _
    rw [fn_ifCond hL, h1]
    rfl
  have h3 : q.2.2.2 = h := fq_ifCond h1
  exact ⟨ystepI h2, rfl, by rw [h3]; exact hk⟩
theorem fs_33 {X : zX} {nL : Nat} {ini : Bool} {c a b pc : Nat} {ls : zL} {st : List Value} {h : fH} {q : Nat × zL × List Value × fH} (hk : hok h) (hs : fstep X nL ini c 33 a b pc ls st h = some q) : zstep X nL ini c (fdec 33 a b) pc ls st (hL h) = some (Tf hL q) ∧ yput (fdec 33 a b) st = false ∧ hok q.2.2.2 := by
  have h1 : fl_ifCond .ne ((b : Int) - 32768) pc ls st h = some q := hs
  have h2 : zstI X (.ifCond .ne ((b : Int) - 32768)) pc ls st (hL h) = some (Tf hL q) := by
    show fl_ifCond .ne ((b : Int) - 32768) pc ls st (hL h) = _
    rw [fn_ifCond hL, h1]
    rfl
  have h3 : q.2.2.2 = h := fq_ifCond h1
  exact ⟨ystepI h2, rfl, by rw [h3]; exact hk⟩
theorem fs_34 {X : zX} {nL : Nat} {ini : Bool} {c a b pc : Nat} {ls : zL} {st : List Value} {h : fH} {q : Nat × zL × List Value × fH} (hk : hok h) (hs : fstep X nL ini c 34 a b pc ls st h = some q) : zstep X nL ini c (fdec 34 a b) pc ls st (hL h) = some (Tf hL q) ∧ yput (fdec 34 a b) st = false ∧ hok q.2.2.2 := by
  have h1 : fl_ifCond .lt ((b : Int) - 32768) pc ls st h = some q := hs
  have h2 : zstI X (.ifCond .lt ((b : Int) - 32768)) pc ls st (hL h) = some (Tf hL q) := by
    show fl_ifCond .lt ((b : Int) - 32768) pc ls st (hL h) = _
    rw [fn_ifCond hL, h1]
    rfl
  have h3 : q.2.2.2 = h := fq_ifCond h1
  exact ⟨ystepI h2, rfl, by rw [h3]; exact hk⟩
theorem fs_35 {X : zX} {nL : Nat} {ini : Bool} {c a b pc : Nat} {ls : zL} {st : List Value} {h : fH} {q : Nat × zL × List Value × fH} (hk : hok h) (hs : fstep X nL ini c 35 a b pc ls st h = some q) : zstep X nL ini c (fdec 35 a b) pc ls st (hL h) = some (Tf hL q) ∧ yput (fdec 35 a b) st = false ∧ hok q.2.2.2 := by
  have h1 : fl_ifCond .ge ((b : Int) - 32768) pc ls st h = some q := hs
  have h2 : zstI X (.ifCond .ge ((b : Int) - 32768)) pc ls st (hL h) = some (Tf hL q) := by
    show fl_ifCond .ge ((b : Int) - 32768) pc ls st (hL h) = _
    rw [fn_ifCond hL, h1]
    rfl
  have h3 : q.2.2.2 = h := fq_ifCond h1
  exact ⟨ystepI h2, rfl, by rw [h3]; exact hk⟩
theorem fs_36 {X : zX} {nL : Nat} {ini : Bool} {c a b pc : Nat} {ls : zL} {st : List Value} {h : fH} {q : Nat × zL × List Value × fH} (hk : hok h) (hs : fstep X nL ini c 36 a b pc ls st h = some q) : zstep X nL ini c (fdec 36 a b) pc ls st (hL h) = some (Tf hL q) ∧ yput (fdec 36 a b) st = false ∧ hok q.2.2.2 := by
  have h1 : fl_ifCond .gt ((b : Int) - 32768) pc ls st h = some q := hs
  have h2 : zstI X (.ifCond .gt ((b : Int) - 32768)) pc ls st (hL h) = some (Tf hL q) := by
    show fl_ifCond .gt ((b : Int) - 32768) pc ls st (hL h) = _
    rw [fn_ifCond hL, h1]
    rfl
  have h3 : q.2.2.2 = h := fq_ifCond h1
  exact ⟨ystepI h2, rfl, by rw [h3]; exact hk⟩
theorem fs_37 {X : zX} {nL : Nat} {ini : Bool} {c a b pc : Nat} {ls : zL} {st : List Value} {h : fH} {q : Nat × zL × List Value × fH} (hk : hok h) (hs : fstep X nL ini c 37 a b pc ls st h = some q) : zstep X nL ini c (fdec 37 a b) pc ls st (hL h) = some (Tf hL q) ∧ yput (fdec 37 a b) st = false ∧ hok q.2.2.2 := by
  have h1 : fl_ifCond .le ((b : Int) - 32768) pc ls st h = some q := hs
  have h2 : zstI X (.ifCond .le ((b : Int) - 32768)) pc ls st (hL h) = some (Tf hL q) := by
    show fl_ifCond .le ((b : Int) - 32768) pc ls st (hL h) = _
    rw [fn_ifCond hL, h1]
    rfl
  have h3 : q.2.2.2 = h := fq_ifCond h1
  exact ⟨ystepI h2, rfl, by rw [h3]; exact hk⟩
theorem fs_38 {X : zX} {nL : Nat} {ini : Bool} {c a b pc : Nat} {ls : zL} {st : List Value} {h : fH} {q : Nat × zL × List Value × fH} (hk : hok h) (hs : fstep X nL ini c 38 a b pc ls st h = some q) : zstep X nL ini c (fdec 38 a b) pc ls st (hL h) = some (Tf hL q) ∧ yput (fdec 38 a b) st = false ∧ hok q.2.2.2 := by
  have h1 : fl_if_icmp .eq ((b : Int) - 32768) pc ls st h = some q := hs
  have h2 : zstI X (.if_icmp .eq ((b : Int) - 32768)) pc ls st (hL h) = some (Tf hL q) := by
    show fl_if_icmp .eq ((b : Int) - 32768) pc ls st (hL h) = _
    rw [fn_if_icmp hL, h1]
    rfl
  have h3 : q.2.2.2 = h := fq_if_icmp h1
  exact ⟨ystepI h2, rfl, by rw [h3]; exact hk⟩
theorem fs_39 {X : zX} {nL : Nat} {ini : Bool} {c a b pc : Nat} {ls : zL} {st : List Value} {h : fH} {q : Nat × zL × List Value × fH} (hk : hok h) (hs : fstep X nL ini c 39 a b pc ls st h = some q) : zstep X nL ini c (fdec 39 a b) pc ls st (hL h) = some (Tf hL q) ∧ yput (fdec 39 a b) st = false ∧ hok q.2.2.2 := by
  have h1 : fl_if_icmp .ne ((b : Int) - 32768) pc ls st h = some q := hs
  have h2 : zstI X (.if_icmp .ne ((b : Int) - 32768)) pc ls st (hL h) = some (Tf hL q) := by
    show fl_if_icmp .ne ((b : Int) - 32768) pc ls st (hL h) = _
    rw [fn_if_icmp hL, h1]
    rfl
  have h3 : q.2.2.2 = h := fq_if_icmp h1
  exact ⟨ystepI h2, rfl, by rw [h3]; exact hk⟩
theorem fs_40 {X : zX} {nL : Nat} {ini : Bool} {c a b pc : Nat} {ls : zL} {st : List Value} {h : fH} {q : Nat × zL × List Value × fH} (hk : hok h) (hs : fstep X nL ini c 40 a b pc ls st h = some q) : zstep X nL ini c (fdec 40 a b) pc ls st (hL h) = some (Tf hL q) ∧ yput (fdec 40 a b) st = false ∧ hok q.2.2.2 := by
  have h1 : fl_if_icmp .lt ((b : Int) - 32768) pc ls st h = some q := hs
  have h2 : zstI X (.if_icmp .lt ((b : Int) - 32768)) pc ls st (hL h) = some (Tf hL q) := by
    show fl_if_icmp .lt ((b : Int) - 32768) pc ls st (hL h) = _
    rw [fn_if_icmp hL, h1]
    rfl
  have h3 : q.2.2.2 = h := fq_if_icmp h1
  exact ⟨ystepI h2, rfl, by rw [h3]; exact hk⟩
theorem fs_41 {X : zX} {nL : Nat} {ini : Bool} {c a b pc : Nat} {ls : zL} {st : List Value} {h : fH} {q : Nat × zL × List Value × fH} (hk : hok h) (hs : fstep X nL ini c 41 a b pc ls st h = some q) : zstep X nL ini c (fdec 41 a b) pc ls st (hL h) = some (Tf hL q) ∧ yput (fdec 41 a b) st = false ∧ hok q.2.2.2 := by
  have h1 : fl_if_icmp .ge ((b : Int) - 32768) pc ls st h = some q := hs
  have h2 : zstI X (.if_icmp .ge ((b : Int) - 32768)) pc ls st (hL h) = some (Tf hL q) := by
    show fl_if_icmp .ge ((b : Int) - 32768) pc ls st (hL h) = _
    rw [fn_if_icmp hL, h1]
    rfl
  have h3 : q.2.2.2 = h := fq_if_icmp h1
  exact ⟨ystepI h2, rfl, by rw [h3]; exact hk⟩
theorem fs_42 {X : zX} {nL : Nat} {ini : Bool} {c a b pc : Nat} {ls : zL} {st : List Value} {h : fH} {q : Nat × zL × List Value × fH} (hk : hok h) (hs : fstep X nL ini c 42 a b pc ls st h = some q) : zstep X nL ini c (fdec 42 a b) pc ls st (hL h) = some (Tf hL q) ∧ yput (fdec 42 a b) st = false ∧ hok q.2.2.2 := by
  have h1 : fl_if_icmp .gt ((b : Int) - 32768) pc ls st h = some q := hs
  have h2 : zstI X (.if_icmp .gt ((b : Int) - 32768)) pc ls st (hL h) = some (Tf hL q) := by
    show fl_if_icmp .gt ((b : Int) - 32768) pc ls st (hL h) = _
    rw [fn_if_icmp hL, h1]
    rfl
  have h3 : q.2.2.2 = h := fq_if_icmp h1
  exact ⟨ystepI h2, rfl, by rw [h3]; exact hk⟩
theorem fs_43 {X : zX} {nL : Nat} {ini : Bool} {c a b pc : Nat} {ls : zL} {st : List Value} {h : fH} {q : Nat × zL × List Value × fH} (hk : hok h) (hs : fstep X nL ini c 43 a b pc ls st h = some q) : zstep X nL ini c (fdec 43 a b) pc ls st (hL h) = some (Tf hL q) ∧ yput (fdec 43 a b) st = false ∧ hok q.2.2.2 := by
  have h1 : fl_if_icmp .le ((b : Int) - 32768) pc ls st h = some q := hs
  have h2 : zstI X (.if_icmp .le ((b : Int) - 32768)) pc ls st (hL h) = some (Tf hL q) := by
    show fl_if_icmp .le ((b : Int) - 32768) pc ls st (hL h) = _
    rw [fn_if_icmp hL, h1]
    rfl
  have h3 : q.2.2.2 = h := fq_if_icmp h1
  exact ⟨ystepI h2, rfl, by rw [h3]; exact hk⟩
theorem fs_44 {X : zX} {nL : Nat} {ini : Bool} {c a b pc : Nat} {ls : zL} {st : List Value} {h : fH} {q : Nat × zL × List Value × fH} (hk : hok h) (hs : fstep X nL ini c 44 a b pc ls st h = some q) : zstep X nL ini c (fdec 44 a b) pc ls st (hL h) = some (Tf hL q) ∧ yput (fdec 44 a b) st = false ∧ hok q.2.2.2 := by
  have h1 : fl_goto ((b : Int) - 32768) pc ls st h = some q := hs
  have h2 : zstI X (.goto ((b : Int) - 32768)) pc ls st (hL h) = some (Tf hL q) := by
    show fl_goto ((b : Int) - 32768) pc ls st (hL h) = _
    rw [fn_goto hL, h1]
    rfl
  have h3 : q.2.2.2 = h := fq_goto h1
  exact ⟨ystepI h2, rfl, by rw [h3]; exact hk⟩
theorem fs_45 {X : zX} {nL : Nat} {ini : Bool} {c a b pc : Nat} {ls : zL} {st : List Value} {h : fH} {q : Nat × zL × List Value × fH} (hk : hok h) (hs : fstep X nL ini c 45 a b pc ls st h = some q) : zstep X nL ini c (fdec 45 a b) pc ls st (hL h) = some (Tf hL q) ∧ yput (fdec 45 a b) st = false ∧ hok q.2.2.2 := by
  have h1 : fl_iconst nL ((a : Int) - 32768) pc ls st h = some q := hs
  have h2 : zstL nL (.iconst ((a : Int) - 32768)) pc ls st (hL h) = some (Tf hL q) := by
    rw [show zstL nL (.iconst ((a : Int) - 32768)) pc ls st (hL h) = fl_iconst nL ((a : Int) - 32768) pc ls st (hL h) from fe_iconst _ _ _ _ _ _, fn_iconst hL, h1]
    rfl
  have h3 : q.2.2.2 = h := fq_iconst h1
  exact ⟨ystepL h2, rfl, by rw [h3]; exact hk⟩
theorem fs_46 {X : zX} {nL : Nat} {ini : Bool} {c a b pc : Nat} {ls : zL} {st : List Value} {h : fH} {q : Nat × zL × List Value × fH} (hk : hok h) (hs : fstep X nL ini c 46 a b pc ls st h = some q) : zstep X nL ini c (fdec 46 a b) pc ls st (hL h) = some (Tf hL q) ∧ yput (fdec 46 a b) st = false ∧ hok q.2.2.2 := by
  have h1 : fl_bipush nL ((a : Int) - 32768) pc ls st h = some q := hs
  have h2 : zstL nL (.bipush ((a : Int) - 32768)) pc ls st (hL h) = some (Tf hL q) := by
    rw [show zstL nL (.bipush ((a : Int) - 32768)) pc ls st (hL h) = fl_bipush nL ((a : Int) - 32768) pc ls st (hL h) from fe_bipush _ _ _ _ _ _, fn_bipush hL, h1]
    rfl
  have h3 : q.2.2.2 = h := fq_bipush h1
  exact ⟨ystepL h2, rfl, by rw [h3]; exact hk⟩
theorem fs_47 {X : zX} {nL : Nat} {ini : Bool} {c a b pc : Nat} {ls : zL} {st : List Value} {h : fH} {q : Nat × zL × List Value × fH} (hk : hok h) (hs : fstep X nL ini c 47 a b pc ls st h = some q) : zstep X nL ini c (fdec 47 a b) pc ls st (hL h) = some (Tf hL q) ∧ yput (fdec 47 a b) st = false ∧ hok q.2.2.2 := by
  have h1 : fl_sipush nL ((a : Int) - 32768) pc ls st h = some q := hs
  have h2 : zstL nL (.sipush ((a : Int) - 32768)) pc ls st (hL h) = some (Tf hL q) := by
    rw [show zstL nL (.sipush ((a : Int) - 32768)) pc ls st (hL h) = fl_sipush nL ((a : Int) - 32768) pc ls st (hL h) from fe_sipush _ _ _ _ _ _, fn_sipush hL, h1]
    rfl
  have h3 : q.2.2.2 = h := fq_sipush h1
  exact ⟨ystepL h2, rfl, by rw [h3]; exact hk⟩
theorem fs_48 {X : zX} {nL : Nat} {ini : Bool} {c a b pc : Nat} {ls : zL} {st : List Value} {h : fH} {q : Nat × zL × List Value × fH} (hk : hok h) (hs : fstep X nL ini c 48 a b pc ls st h = some q) : zstep X nL ini c (fdec 48 a b) pc ls st (hL h) = some (Tf hL q) ∧ yput (fdec 48 a b) st = false ∧ hok q.2.2.2 := by
  have h1 : fl_lconst nL (Fin.ofNat 2 a) pc ls st h = some q := hs
  have h2 : zstL nL (.lconst (Fin.ofNat 2 a)) pc ls st (hL h) = some (Tf hL q) := by
    rw [show zstL nL (.lconst (Fin.ofNat 2 a)) pc ls st (hL h) = fl_lconst nL (Fin.ofNat 2 a) pc ls st (hL h) from fe_lconst _ _ _ _ _ _, fn_lconst hL, h1]
    rfl
  have h3 : q.2.2.2 = h := fq_lconst h1
  exact ⟨ystepL h2, rfl, by rw [h3]; exact hk⟩
theorem fs_49 {X : zX} {nL : Nat} {ini : Bool} {c a b pc : Nat} {ls : zL} {st : List Value} {h : fH} {q : Nat × zL × List Value × fH} (hk : hok h) (hs : fstep X nL ini c 49 a b pc ls st h = some q) : zstep X nL ini c (fdec 49 a b) pc ls st (hL h) = some (Tf hL q) ∧ yput (fdec 49 a b) st = false ∧ hok q.2.2.2 := by
  have h1 : fl_iload_n nL (Fin.ofNat 4 a) pc ls st h = some q := hs
  have h2 : zstL nL (.iload_n (Fin.ofNat 4 a)) pc ls st (hL h) = some (Tf hL q) := by
    rw [show zstL nL (.iload_n (Fin.ofNat 4 a)) pc ls st (hL h) = fl_iload_n nL (Fin.ofNat 4 a) pc ls st (hL h) from fe_iload_n _ _ _ _ _ _, fn_iload_n hL, h1]
    rfl
  have h3 : q.2.2.2 = h := fq_iload_n h1
  exact ⟨ystepL h2, rfl, by rw [h3]; exact hk⟩
theorem fs_50 {X : zX} {nL : Nat} {ini : Bool} {c a b pc : Nat} {ls : zL} {st : List Value} {h : fH} {q : Nat × zL × List Value × fH} (hk : hok h) (hs : fstep X nL ini c 50 a b pc ls st h = some q) : zstep X nL ini c (fdec 50 a b) pc ls st (hL h) = some (Tf hL q) ∧ yput (fdec 50 a b) st = false ∧ hok q.2.2.2 := by
  have h1 : fl_iload nL a pc ls st h = some q := hs
  have h2 : zstL nL (.iload a) pc ls st (hL h) = some (Tf hL q) := by
    rw [show zstL nL (.iload a) pc ls st (hL h) = fl_iload nL a pc ls st (hL h) from fe_iload _ _ _ _ _ _, fn_iload hL, h1]
    rfl
  have h3 : q.2.2.2 = h := fq_iload h1
  exact ⟨ystepL h2, rfl, by rw [h3]; exact hk⟩
theorem fs_51 {X : zX} {nL : Nat} {ini : Bool} {c a b pc : Nat} {ls : zL} {st : List Value} {h : fH} {q : Nat × zL × List Value × fH} (hk : hok h) (hs : fstep X nL ini c 51 a b pc ls st h = some q) : zstep X nL ini c (fdec 51 a b) pc ls st (hL h) = some (Tf hL q) ∧ yput (fdec 51 a b) st = false ∧ hok q.2.2.2 := by
  have h1 : fl_lload_n nL (Fin.ofNat 4 a) pc ls st h = some q := hs
  have h2 : zstL nL (.lload_n (Fin.ofNat 4 a)) pc ls st (hL h) = some (Tf hL q) := by
    rw [show zstL nL (.lload_n (Fin.ofNat 4 a)) pc ls st (hL h) = fl_lload_n nL (Fin.ofNat 4 a) pc ls st (hL h) from fe_lload_n _ _ _ _ _ _, fn_lload_n hL, h1]
    rfl
  have h3 : q.2.2.2 = h := fq_lload_n h1
  exact ⟨ystepL h2, rfl, by rw [h3]; exact hk⟩
theorem fs_52 {X : zX} {nL : Nat} {ini : Bool} {c a b pc : Nat} {ls : zL} {st : List Value} {h : fH} {q : Nat × zL × List Value × fH} (hk : hok h) (hs : fstep X nL ini c 52 a b pc ls st h = some q) : zstep X nL ini c (fdec 52 a b) pc ls st (hL h) = some (Tf hL q) ∧ yput (fdec 52 a b) st = false ∧ hok q.2.2.2 := by
  have h1 : fl_lload nL a pc ls st h = some q := hs
  have h2 : zstL nL (.lload a) pc ls st (hL h) = some (Tf hL q) := by
    rw [show zstL nL (.lload a) pc ls st (hL h) = fl_lload nL a pc ls st (hL h) from fe_lload _ _ _ _ _ _, fn_lload hL, h1]
    rfl
  have h3 : q.2.2.2 = h := fq_lload h1
  exact ⟨ystepL h2, rfl, by rw [h3]; exact hk⟩
theorem fs_53 {X : zX} {nL : Nat} {ini : Bool} {c a b pc : Nat} {ls : zL} {st : List Value} {h : fH} {q : Nat × zL × List Value × fH} (hk : hok h) (hs : fstep X nL ini c 53 a b pc ls st h = some q) : zstep X nL ini c (fdec 53 a b) pc ls st (hL h) = some (Tf hL q) ∧ yput (fdec 53 a b) st = false ∧ hok q.2.2.2 := by
  have h1 : fl_aload_n nL (Fin.ofNat 4 a) pc ls st h = some q := hs
  have h2 : zstL nL (.aload_n (Fin.ofNat 4 a)) pc ls st (hL h) = some (Tf hL q) := by
    rw [show zstL nL (.aload_n (Fin.ofNat 4 a)) pc ls st (hL h) = fl_aload_n nL (Fin.ofNat 4 a) pc ls st (hL h) from fe_aload_n _ _ _ _ _ _, fn_aload_n hL, h1]
    rfl
  have h3 : q.2.2.2 = h := fq_aload_n h1
  exact ⟨ystepL h2, rfl, by rw [h3]; exact hk⟩
theorem fs_54 {X : zX} {nL : Nat} {ini : Bool} {c a b pc : Nat} {ls : zL} {st : List Value} {h : fH} {q : Nat × zL × List Value × fH} (hk : hok h) (hs : fstep X nL ini c 54 a b pc ls st h = some q) : zstep X nL ini c (fdec 54 a b) pc ls st (hL h) = some (Tf hL q) ∧ yput (fdec 54 a b) st = false ∧ hok q.2.2.2 := by
  have h1 : fl_aload nL a pc ls st h = some q := hs
  have h2 : zstL nL (.aload a) pc ls st (hL h) = some (Tf hL q) := by
    rw [show zstL nL (.aload a) pc ls st (hL h) = fl_aload nL a pc ls st (hL h) from fe_aload _ _ _ _ _ _, fn_aload hL, h1]
    rfl
  have h3 : q.2.2.2 = h := fq_aload h1
  exact ⟨ystepL h2, rfl, by rw [h3]; exact hk⟩
theorem fs_55 {X : zX} {nL : Nat} {ini : Bool} {c a b pc : Nat} {ls : zL} {st : List Value} {h : fH} {q : Nat × zL × List Value × fH} (hk : hok h) (hs : fstep X nL ini c 55 a b pc ls st h = some q) : zstep X nL ini c (fdec 55 a b) pc ls st (hL h) = some (Tf hL q) ∧ yput (fdec 55 a b) st = false ∧ hok q.2.2.2 := by
  have h1 : fl_istore_n nL (Fin.ofNat 4 a) pc ls st h = some q := hs
  have h2 : zstL nL (.istore_n (Fin.ofNat 4 a)) pc ls st (hL h) = some (Tf hL q) := by
    rw [show zstL nL (.istore_n (Fin.ofNat 4 a)) pc ls st (hL h) = fl_istore_n nL (Fin.ofNat 4 a) pc ls st (hL h) from fe_istore_n _ _ _ _ _ _, fn_istore_n hL, h1]
    rfl
  have h3 : q.2.2.2 = h := fq_istore_n h1
  exact ⟨ystepL h2, rfl, by rw [h3]; exact hk⟩
theorem fs_56 {X : zX} {nL : Nat} {ini : Bool} {c a b pc : Nat} {ls : zL} {st : List Value} {h : fH} {q : Nat × zL × List Value × fH} (hk : hok h) (hs : fstep X nL ini c 56 a b pc ls st h = some q) : zstep X nL ini c (fdec 56 a b) pc ls st (hL h) = some (Tf hL q) ∧ yput (fdec 56 a b) st = false ∧ hok q.2.2.2 := by
  have h1 : fl_istore nL a pc ls st h = some q := hs
  have h2 : zstL nL (.istore a) pc ls st (hL h) = some (Tf hL q) := by
    rw [show zstL nL (.istore a) pc ls st (hL h) = fl_istore nL a pc ls st (hL h) from fe_istore _ _ _ _ _ _, fn_istore hL, h1]
    rfl
  have h3 : q.2.2.2 = h := fq_istore h1
  exact ⟨ystepL h2, rfl, by rw [h3]; exact hk⟩
theorem fs_57 {X : zX} {nL : Nat} {ini : Bool} {c a b pc : Nat} {ls : zL} {st : List Value} {h : fH} {q : Nat × zL × List Value × fH} (hk : hok h) (hs : fstep X nL ini c 57 a b pc ls st h = some q) : zstep X nL ini c (fdec 57 a b) pc ls st (hL h) = some (Tf hL q) ∧ yput (fdec 57 a b) st = false ∧ hok q.2.2.2 := by
  have h1 : fl_lstore_n nL (Fin.ofNat 4 a) pc ls st h = some q := hs
  have h2 : zstL nL (.lstore_n (Fin.ofNat 4 a)) pc ls st (hL h) = some (Tf hL q) := by
    rw [show zstL nL (.lstore_n (Fin.ofNat 4 a)) pc ls st (hL h) = fl_lstore_n nL (Fin.ofNat 4 a) pc ls st (hL h) from fe_lstore_n _ _ _ _ _ _, fn_lstore_n hL, h1]
    rfl
  have h3 : q.2.2.2 = h := fq_lstore_n h1
  exact ⟨ystepL h2, rfl, by rw [h3]; exact hk⟩
theorem fs_58 {X : zX} {nL : Nat} {ini : Bool} {c a b pc : Nat} {ls : zL} {st : List Value} {h : fH} {q : Nat × zL × List Value × fH} (hk : hok h) (hs : fstep X nL ini c 58 a b pc ls st h = some q) : zstep X nL ini c (fdec 58 a b) pc ls st (hL h) = some (Tf hL q) ∧ yput (fdec 58 a b) st = false ∧ hok q.2.2.2 := by
  have h1 : fl_lstore nL a pc ls st h = some q := hs
  have h2 : zstL nL (.lstore a) pc ls st (hL h) = some (Tf hL q) := by
    rw [show zstL nL (.lstore a) pc ls st (hL h) = fl_lstore nL a pc ls st (hL h) from fe_lstore _ _ _ _ _ _, fn_lstore hL, h1]
    rfl
  have h3 : q.2.2.2 = h := fq_lstore h1
  exact ⟨ystepL h2, rfl, by rw [h3]; exact hk⟩
theorem fs_59 {X : zX} {nL : Nat} {ini : Bool} {c a b pc : Nat} {ls : zL} {st : List Value} {h : fH} {q : Nat × zL × List Value × fH} (hk : hok h) (hs : fstep X nL ini c 59 a b pc ls st h = some q) : zstep X nL ini c (fdec 59 a b) pc ls st (hL h) = some (Tf hL q) ∧ yput (fdec 59 a b) st = false ∧ hok q.2.2.2 := by
  have h1 : fl_astore_n nL (Fin.ofNat 4 a) pc ls st h = some q := hs
  have h2 : zstL nL (.astore_n (Fin.ofNat 4 a)) pc ls st (hL h) = some (Tf hL q) := by
    rw [show zstL nL (.astore_n (Fin.ofNat 4 a)) pc ls st (hL h) = fl_astore_n nL (Fin.ofNat 4 a) pc ls st (hL h) from fe_astore_n _ _ _ _ _ _, fn_astore_n hL, h1]
    rfl
  have h3 : q.2.2.2 = h := fq_astore_n h1
  exact ⟨ystepL h2, rfl, by rw [h3]; exact hk⟩
theorem fs_60 {X : zX} {nL : Nat} {ini : Bool} {c a b pc : Nat} {ls : zL} {st : List Value} {h : fH} {q : Nat × zL × List Value × fH} (hk : hok h) (hs : fstep X nL ini c 60 a b pc ls st h = some q) : zstep X nL ini c (fdec 60 a b) pc ls st (hL h) = some (Tf hL q) ∧ yput (fdec 60 a b) st = false ∧ hok q.2.2.2 := by
  have h1 : fl_astore nL a pc ls st h = some q := hs
  have h2 : zstL nL (.astore a) pc ls st (hL h) = some (Tf hL q) := by
    rw [show zstL nL (.astore a) pc ls st (hL h) = fl_astore nL a pc ls st (hL h) from fe_astore _ _ _ _ _ _, fn_astore hL, h1]
    rfl
  have h3 : q.2.2.2 = h := fq_astore h1
  exact ⟨ystepL h2, rfl, by rw [h3]; exact hk⟩
theorem fs_61 {X : zX} {nL : Nat} {ini : Bool} {c a b pc : Nat} {ls : zL} {st : List Value} {h : fH} {q : Nat × zL × List Value × fH} (hk : hok h) (hs : fstep X nL ini c 61 a b pc ls st h = some q) : zstep X nL ini c (fdec 61 a b) pc ls st (hL h) = some (Tf hL q) ∧ yput (fdec 61 a b) st = false ∧ hok q.2.2.2 := by
  have h1 : fl_iinc nL a ((b : Int) - 32768) pc ls st h = some q := hs
  have h2 : zstL nL (.iinc a ((b : Int) - 32768)) pc ls st (hL h) = some (Tf hL q) := by
    rw [show zstL nL (.iinc a ((b : Int) - 32768)) pc ls st (hL h) = fl_iinc nL a ((b : Int) - 32768) pc ls st (hL h) from fe_iinc _ _ _ _ _ _ _, fn_iinc hL, h1]
    rfl
  have h3 : q.2.2.2 = h := fq_iinc h1
  exact ⟨ystepL h2, rfl, by rw [h3]; exact hk⟩
theorem fs_62 {X : zX} {nL : Nat} {ini : Bool} {c a b pc : Nat} {ls : zL} {st : List Value} {h : fH} {q : Nat × zL × List Value × fH} (hk : hok h) (hs : fstep X nL ini c 62 a b pc ls st h = some q) : zstep X nL ini c (fdec 62 a b) pc ls st (hL h) = some (Tf hL q) ∧ yput (fdec 62 a b) st = false ∧ hok q.2.2.2 := by
  have h1 : fl_getfield X ini c a pc ls st h = some q := hs
  unfold fl_getfield at h1
  split at h1
  · split at h1
    · next q1 q2 =>
      split at h1
      · next q3 =>
        split at h1
        · next q4 =>
          cases h1
          rw [hget_ok hk] at q2
          refine ⟨ystepH ?_, rfl, hk⟩
          show zstH X ini c (.getfield a) pc ls _ (hL h) = _
          dsimp only [zstH]
          rw [q1, q2]
          dsimp only
          rw [q3]
          dsimp only
          rw [if_pos q4]
          rfl
        · cases h1
      · cases h1
    · cases h1
  · split at h1
    · next q1 =>
      cases h1
      refine ⟨ystepH ?_, rfl, hk⟩
      show zstH X ini c (.getfield a) pc ls _ (hL h) = _
      dsimp only [zstH]
      rw [q1]
      rfl
    · cases h1
  · cases h1
theorem fs_63 {X : zX} {nL : Nat} {ini : Bool} {c a b pc : Nat} {ls : zL} {st : List Value} {h : fH} {q : Nat × zL × List Value × fH} (hk : hok h) (hs : fstep X nL ini c 63 a b pc ls st h = some q) : zstep X nL ini c (fdec 63 a b) pc ls st (hL h) = some (Tf hL q) ∧ yput (fdec 63 a b) st = false ∧ hok q.2.2.2 := by
  have h1 : fl_putfield X ini c a pc ls st h = some q := hs
  unfold fl_putfield at h1
  cases st with
  | nil => cases h1
  | cons v r =>
    cases hv : ysym v with
    | true =>
      dsimp only at h1
      rw [hv] at h1
      cases h1
    | false =>
      dsimp only at h1
      rw [hv] at h1
      dsimp only [cond] at h1
      split at h1
      · next hst =>
        cases hst
        split at h1
        · next q1 q2 =>
          split at h1
          · next q4 =>
            cases h1
            rw [hget_ok hk] at q2
            refine ⟨ystepH ?_, hv, (hset_ok hk q2).2⟩
            show zstH X ini c (.putfield a) pc ls _ (hL h) = _
            dsimp only [zstH]
            rw [q1, q2]
            dsimp only
            rw [if_pos q4]
            unfold Tf
            dsimp only
            rw [(hset_ok hk q2).1]
          · cases h1
        · cases h1
      · cases h1
theorem fs_64 {X : zX} {nL : Nat} {ini : Bool} {c a b pc : Nat} {ls : zL} {st : List Value} {h : fH} {q : Nat × zL × List Value × fH} (hk : hok h) (hs : fstep X nL ini c 64 a b pc ls st h = some q) : zstep X nL ini c (fdec 64 a b) pc ls st (hL h) = some (Tf hL q) ∧ yput (fdec 64 a b) st = false ∧ hok q.2.2.2 := by
  have h1 : fl_getstatic X ini c a pc ls st h = some q := hs
  unfold fl_getstatic at h1
  split at h1
  · next q1 =>
    cases h1
    refine ⟨ystepH ?_, rfl, hk⟩
    show zstH X ini c (.getstatic a) pc ls st (hL h) = _
    dsimp only [zstH]
    rw [q1]
    rfl
  · cases h1
theorem fs_65 {X : zX} {nL : Nat} {ini : Bool} {c a b pc : Nat} {ls : zL} {st : List Value} {h : fH} {q : Nat × zL × List Value × fH} (hk : hok h) (hs : fstep X nL ini c 65 a b pc ls st h = some q) : zstep X nL ini c (fdec 65 a b) pc ls st (hL h) = some (Tf hL q) ∧ yput (fdec 65 a b) st = false ∧ hok q.2.2.2 := by
  have h1 : fl_ldc X ini c a pc ls st h = some q := hs
  unfold fl_ldc at h1
  split at h1
  · next q1 =>
    cases h1
    refine ⟨ystepH ?_, rfl, hk⟩
    show zstH X ini c (.ldc a) pc ls st (hL h) = _
    dsimp only [zstH]
    rw [q1]
    rfl
  · next q1 =>
    cases h1
    refine ⟨ystepH ?_, rfl, hk⟩
    show zstH X ini c (.ldc a) pc ls st (hL h) = _
    dsimp only [zstH]
    rw [q1]
    rfl
  · cases h1
theorem fs_66 {X : zX} {nL : Nat} {ini : Bool} {c a b pc : Nat} {ls : zL} {st : List Value} {h : fH} {q : Nat × zL × List Value × fH} (hk : hok h) (hs : fstep X nL ini c 66 a b pc ls st h = some q) : zstep X nL ini c (fdec 66 a b) pc ls st (hL h) = some (Tf hL q) ∧ yput (fdec 66 a b) st = false ∧ hok q.2.2.2 := by
  have h1 : fl_ldc_w X ini c a pc ls st h = some q := hs
  unfold fl_ldc_w at h1
  split at h1
  · next q1 =>
    cases h1
    refine ⟨ystepH ?_, rfl, hk⟩
    show zstH X ini c (.ldc_w a) pc ls st (hL h) = _
    dsimp only [zstH]
    rw [q1]
    rfl
  · cases h1
theorem fs_67 {X : zX} {nL : Nat} {ini : Bool} {c a b pc : Nat} {ls : zL} {st : List Value} {h : fH} {q : Nat × zL × List Value × fH} (hk : hok h) (hs : fstep X nL ini c 67 a b pc ls st h = some q) : zstep X nL ini c (fdec 67 a b) pc ls st (hL h) = some (Tf hL q) ∧ yput (fdec 67 a b) st = false ∧ hok q.2.2.2 := by
  have h1 : fl_ldc2_w X ini c a pc ls st h = some q := hs
  unfold fl_ldc2_w at h1
  split at h1
  · next q1 =>
    cases h1
    refine ⟨ystepH ?_, rfl, hk⟩
    show zstH X ini c (.ldc2_w a) pc ls st (hL h) = _
    dsimp only [zstH]
    rw [q1]
    rfl
  · cases h1
theorem fs_68 {X : zX} {nL : Nat} {ini : Bool} {c a b pc : Nat} {ls : zL} {st : List Value} {h : fH} {q : Nat × zL × List Value × fH} (hk : hok h) (hs : fstep X nL ini c 68 a b pc ls st h = some q) : zstep X nL ini c (fdec 68 a b) pc ls st (hL h) = some (Tf hL q) ∧ yput (fdec 68 a b) st = false ∧ hok q.2.2.2 := by
  have h1 : fl_iaload X ini c pc ls st h = some q := hs
  unfold fl_iaload at h1
  split at h1
  · split at h1
    · next q2 =>
      split at h1
      · next q3 =>
        cases h1
        rw [hget_ok hk] at q2
        refine ⟨ystepH ?_, rfl, hk⟩
        show zstH X ini c .iaload pc ls _ (hL h) = _
        dsimp only [zstH]
        rw [q2]
        exact if_pos q3
      · cases h1
    · cases h1
  · split at h1
    · next q2 =>
      split at h1
      · next q3 =>
        cases h1
        refine ⟨ystepH ?_, rfl, hk⟩
        show zstH X ini c .iaload pc ls _ (hL h) = _
        dsimp only [zstH]
        rw [q2]
        exact if_pos q3
      · cases h1
    · cases h1
  · cases h1
theorem fs_69 {X : zX} {nL : Nat} {ini : Bool} {c a b pc : Nat} {ls : zL} {st : List Value} {h : fH} {q : Nat × zL × List Value × fH} (hk : hok h) (hs : fstep X nL ini c 69 a b pc ls st h = some q) : zstep X nL ini c (fdec 69 a b) pc ls st (hL h) = some (Tf hL q) ∧ yput (fdec 69 a b) st = false ∧ hok q.2.2.2 := by
  have h1 : fl_baload X ini c pc ls st h = some q := hs
  unfold fl_baload at h1
  split at h1
  · split at h1
    · next q2 =>
      split at h1
      · next q3 =>
        cases h1
        rw [hget_ok hk] at q2
        refine ⟨ystepH ?_, rfl, hk⟩
        show zstH X ini c .baload pc ls _ (hL h) = _
        dsimp only [zstH]
        rw [q2]
        exact if_pos q3
      · cases h1
    · cases h1
  · split at h1
    · next q2 =>
      split at h1
      · next q3 =>
        cases h1
        refine ⟨ystepH ?_, rfl, hk⟩
        show zstH X ini c .baload pc ls _ (hL h) = _
        dsimp only [zstH]
        rw [q2]
        exact if_pos q3
      · cases h1
    · cases h1
  · cases h1
theorem fs_70 {X : zX} {nL : Nat} {ini : Bool} {c a b pc : Nat} {ls : zL} {st : List Value} {h : fH} {q : Nat × zL × List Value × fH} (hk : hok h) (hs : fstep X nL ini c 70 a b pc ls st h = some q) : zstep X nL ini c (fdec 70 a b) pc ls st (hL h) = some (Tf hL q) ∧ yput (fdec 70 a b) st = false ∧ hok q.2.2.2 := by
  have h1 : fl_laload X ini c pc ls st h = some q := hs
  unfold fl_laload at h1
  split at h1
  · split at h1
    · next q2 =>
      split at h1
      · next q3 =>
        cases h1
        rw [hget_ok hk] at q2
        refine ⟨ystepH ?_, rfl, hk⟩
        show zstH X ini c .laload pc ls _ (hL h) = _
        dsimp only [zstH]
        rw [q2]
        exact if_pos q3
      · cases h1
    · cases h1
  · cases h1
theorem fs_71 {X : zX} {nL : Nat} {ini : Bool} {c a b pc : Nat} {ls : zL} {st : List Value} {h : fH} {q : Nat × zL × List Value × fH} (hk : hok h) (hs : fstep X nL ini c 71 a b pc ls st h = some q) : zstep X nL ini c (fdec 71 a b) pc ls st (hL h) = some (Tf hL q) ∧ yput (fdec 71 a b) st = false ∧ hok q.2.2.2 := by
  have h1 : fl_aaload X ini c pc ls st h = some q := hs
  unfold fl_aaload at h1
  split at h1
  · split at h1
    · next q2 =>
      split at h1
      · next q3 =>
        cases h1
        rw [hget_ok hk] at q2
        refine ⟨ystepH ?_, rfl, hk⟩
        show zstH X ini c .aaload pc ls _ (hL h) = _
        dsimp only [zstH]
        rw [q2]
        exact if_pos q3
      · cases h1
    · cases h1
  · cases h1
theorem fs_72 {X : zX} {nL : Nat} {ini : Bool} {c a b pc : Nat} {ls : zL} {st : List Value} {h : fH} {q : Nat × zL × List Value × fH} (hk : hok h) (hs : fstep X nL ini c 72 a b pc ls st h = some q) : zstep X nL ini c (fdec 72 a b) pc ls st (hL h) = some (Tf hL q) ∧ yput (fdec 72 a b) st = false ∧ hok q.2.2.2 := by
  have h1 : fl_iastore X ini c pc ls st h = some q := hs
  unfold fl_iastore at h1
  split at h1
  · split at h1
    · next q2 =>
      split at h1
      · next q3 =>
        cases h1
        rw [hget_ok hk] at q2
        refine ⟨ystepH ?_, rfl, (hset_ok hk q2).2⟩
        show zstH X ini c .iastore pc ls _ (hL h) = _
        dsimp only [zstH]
        rw [q2]
        unfold Tf
        dsimp only
        rw [(hset_ok hk q2).1]
        exact if_pos q3
      · cases h1
    · cases h1
  · cases h1
theorem fs_73 {X : zX} {nL : Nat} {ini : Bool} {c a b pc : Nat} {ls : zL} {st : List Value} {h : fH} {q : Nat × zL × List Value × fH} (hk : hok h) (hs : fstep X nL ini c 73 a b pc ls st h = some q) : zstep X nL ini c (fdec 73 a b) pc ls st (hL h) = some (Tf hL q) ∧ yput (fdec 73 a b) st = false ∧ hok q.2.2.2 := by
  have h1 : fl_bastore X ini c pc ls st h = some q := hs
  unfold fl_bastore at h1
  split at h1
  · split at h1
    · next q2 =>
      split at h1
      · next q3 =>
        cases h1
        rw [hget_ok hk] at q2
        refine ⟨ystepH ?_, rfl, (hset_ok hk q2).2⟩
        show zstH X ini c .bastore pc ls _ (hL h) = _
        dsimp only [zstH]
        rw [q2]
        unfold Tf
        dsimp only
        rw [(hset_ok hk q2).1]
        exact if_pos q3
      · cases h1
    · cases h1
  · cases h1
theorem fs_74 {X : zX} {nL : Nat} {ini : Bool} {c a b pc : Nat} {ls : zL} {st : List Value} {h : fH} {q : Nat × zL × List Value × fH} (hk : hok h) (hs : fstep X nL ini c 74 a b pc ls st h = some q) : zstep X nL ini c (fdec 74 a b) pc ls st (hL h) = some (Tf hL q) ∧ yput (fdec 74 a b) st = false ∧ hok q.2.2.2 := by
  have h1 : fl_lastore X ini c pc ls st h = some q := hs
  unfold fl_lastore at h1
  split at h1
  · split at h1
    · next q2 =>
      split at h1
      · next q3 =>
        cases h1
        rw [hget_ok hk] at q2
        refine ⟨ystepH ?_, rfl, (hset_ok hk q2).2⟩
        show zstH X ini c .lastore pc ls _ (hL h) = _
        dsimp only [zstH]
        rw [q2]
        unfold Tf
        dsimp only
        rw [(hset_ok hk q2).1]
        exact if_pos q3
      · cases h1
    · cases h1
  · cases h1
theorem fs_75 {X : zX} {nL : Nat} {ini : Bool} {c a b pc : Nat} {ls : zL} {st : List Value} {h : fH} {q : Nat × zL × List Value × fH} (hk : hok h) (hs : fstep X nL ini c 75 a b pc ls st h = some q) : zstep X nL ini c (fdec 75 a b) pc ls st (hL h) = some (Tf hL q) ∧ yput (fdec 75 a b) st = false ∧ hok q.2.2.2 := by
  have h1 : fl_aastore X ini c pc ls st h = some q := hs
  unfold fl_aastore at h1
  split at h1
  · split at h1
    · next q2 q4 =>
      split at h1
      · next q3 =>
        cases h1
        rw [hget_ok hk] at q2 q4
        refine ⟨ystepH ?_, rfl, (hset_ok hk q2).2⟩
        show zstH X ini c .aastore pc ls _ (hL h) = _
        simp only [zstH, q2, q4]
        unfold Tf
        dsimp only
        rw [(hset_ok hk q2).1]
        exact if_pos q3
      · cases h1
    · cases h1
  · cases h1
theorem fs_76 {X : zX} {nL : Nat} {ini : Bool} {c a b pc : Nat} {ls : zL} {st : List Value} {h : fH} {q : Nat × zL × List Value × fH} (hk : hok h) (hs : fstep X nL ini c 76 a b pc ls st h = some q) : zstep X nL ini c (fdec 76 a b) pc ls st (hL h) = some (Tf hL q) ∧ yput (fdec 76 a b) st = false ∧ hok q.2.2.2 := by
  have h1 : fl_arraylength X ini c pc ls st h = some q := hs
  unfold fl_arraylength at h1
  split at h1
  · split at h1
    · next q2 =>
      cases h1
      rw [hget_ok hk] at q2
      refine ⟨ystepH ?_, rfl, hk⟩
      show zstH X ini c .arraylength pc ls _ (hL h) = _
      simp [zstH, q2, Tf]
    · next q2 =>
      cases h1
      rw [hget_ok hk] at q2
      refine ⟨ystepH ?_, rfl, hk⟩
      show zstH X ini c .arraylength pc ls _ (hL h) = _
      simp [zstH, q2, Tf]
    · next q2 =>
      cases h1
      rw [hget_ok hk] at q2
      refine ⟨ystepH ?_, rfl, hk⟩
      show zstH X ini c .arraylength pc ls _ (hL h) = _
      simp [zstH, q2, Tf]
    · next q2 =>
      cases h1
      rw [hget_ok hk] at q2
      refine ⟨ystepH ?_, rfl, hk⟩
      show zstH X ini c .arraylength pc ls _ (hL h) = _
      simp [zstH, q2, Tf]
    · cases h1
  · split at h1
    · next q2 =>
      cases h1
      refine ⟨ystepH ?_, rfl, hk⟩
      show zstH X ini c .arraylength pc ls _ (hL h) = _
      simp [zstH, q2, Tf]
    · cases h1
  · cases h1
theorem fs_77 {X : zX} {nL : Nat} {ini : Bool} {c a b pc : Nat} {ls : zL} {st : List Value} {h : fH} {q : Nat × zL × List Value × fH} (hk : hok h) (hs : fstep X nL ini c 77 a b pc ls st h = some q) : zstep X nL ini c (fdec 77 a b) pc ls st (hL h) = some (Tf hL q) ∧ yput (fdec 77 a b) st = false ∧ hok q.2.2.2 := by
  have h1 : fl_new X ini c a pc ls st h = some q := hs
  unfold fl_new at h1
  split at h1
  · next q1 =>
    cases hb : Nat.ble 256 h.1 with
    | true => rw [hb] at h1; cases h1
    | false =>
      rw [hb] at h1
      cases h1
      have hlt : h.1 < 256 := Nat.not_le.mp (fun e => by rw [Nat.ble_eq_true_of_le e] at hb; cases hb)
      refine ⟨ystepH ?_, rfl, (hpush_ok hlt).2⟩
      show zstH X ini c (.new a) pc ls st (hL h) = _
      dsimp only [zstH]
      rw [q1]
      unfold Tf
      dsimp only
      rw [(hpush_ok hlt).1, hlen_ok hk]
  · cases h1
theorem fs_78 {X : zX} {nL : Nat} {ini : Bool} {c a b pc : Nat} {ls : zL} {st : List Value} {h : fH} {q : Nat × zL × List Value × fH} (hk : hok h) (hs : fstep X nL ini c 78 a b pc ls st h = some q) : zstep X nL ini c (fdec 78 a b) pc ls st (hL h) = some (Tf hL q) ∧ yput (fdec 78 a b) st = false ∧ hok q.2.2.2 := by
  have h1 : fl_newarray_int X ini c pc ls st h = some q := hs
  unfold fl_newarray_int at h1
  split at h1
  · split at h1
    · cases h1
    · next q1 =>
      cases h1
      have hlt : h.1 < 256 := Nat.not_le.mp (fun e => q1 (Or.inl e))
      refine ⟨ystepH ?_, rfl, (hpush_ok hlt).2⟩
      show zstH X ini c (.newarray .int) pc ls _ (hL h) = _
      dsimp only [zstH]
      rw [if_neg (fun e => q1 (Or.inr e))]
      unfold Tf
      dsimp only
      rw [(hpush_ok hlt).1, hlen_ok hk]
  · cases h1
theorem fs_79 {X : zX} {nL : Nat} {ini : Bool} {c a b pc : Nat} {ls : zL} {st : List Value} {h : fH} {q : Nat × zL × List Value × fH} (hk : hok h) (hs : fstep X nL ini c 79 a b pc ls st h = some q) : zstep X nL ini c (fdec 79 a b) pc ls st (hL h) = some (Tf hL q) ∧ yput (fdec 79 a b) st = false ∧ hok q.2.2.2 := by
  have h1 : fl_newarray_boolean X ini c pc ls st h = some q := hs
  unfold fl_newarray_boolean at h1
  split at h1
  · split at h1
    · cases h1
    · next q1 =>
      cases h1
      have hlt : h.1 < 256 := Nat.not_le.mp (fun e => q1 (Or.inl e))
      refine ⟨ystepH ?_, rfl, (hpush_ok hlt).2⟩
      show zstH X ini c (.newarray .boolean) pc ls _ (hL h) = _
      dsimp only [zstH]
      rw [if_neg (fun e => q1 (Or.inr e))]
      unfold Tf
      dsimp only
      rw [(hpush_ok hlt).1, hlen_ok hk]
  · cases h1
theorem fs_80 {X : zX} {nL : Nat} {ini : Bool} {c a b pc : Nat} {ls : zL} {st : List Value} {h : fH} {q : Nat × zL × List Value × fH} (hk : hok h) (hs : fstep X nL ini c 80 a b pc ls st h = some q) : zstep X nL ini c (fdec 80 a b) pc ls st (hL h) = some (Tf hL q) ∧ yput (fdec 80 a b) st = false ∧ hok q.2.2.2 := by
  have h1 : fl_newarray_long X ini c pc ls st h = some q := hs
  unfold fl_newarray_long at h1
  split at h1
  · split at h1
    · cases h1
    · next q1 =>
      cases h1
      have hlt : h.1 < 256 := Nat.not_le.mp (fun e => q1 (Or.inl e))
      refine ⟨ystepH ?_, rfl, (hpush_ok hlt).2⟩
      show zstH X ini c (.newarray .long) pc ls _ (hL h) = _
      dsimp only [zstH]
      rw [if_neg (fun e => q1 (Or.inr e))]
      unfold Tf
      dsimp only
      rw [(hpush_ok hlt).1, hlen_ok hk]
  · cases h1
theorem fs_81 {X : zX} {nL : Nat} {ini : Bool} {c a b pc : Nat} {ls : zL} {st : List Value} {h : fH} {q : Nat × zL × List Value × fH} (hk : hok h) (hs : fstep X nL ini c 81 a b pc ls st h = some q) : zstep X nL ini c (fdec 81 a b) pc ls st (hL h) = some (Tf hL q) ∧ yput (fdec 81 a b) st = false ∧ hok q.2.2.2 := by
  have h1 : fl_anewarray X ini c a pc ls st h = some q := hs
  unfold fl_anewarray at h1
  split at h1
  · split at h1
    · cases h1
    · next q1 =>
      cases h1
      have hlt : h.1 < 256 := Nat.not_le.mp (fun e => q1 (Or.inl e))
      refine ⟨ystepH ?_, rfl, (hpush_ok hlt).2⟩
      show zstH X ini c (.anewarray a) pc ls _ (hL h) = _
      dsimp only [zstH]
      rw [if_neg (fun e => q1 (Or.inr e))]
      unfold Tf
      dsimp only
      rw [(hpush_ok hlt).1, hlen_ok hk]
  · cases h1
theorem fstep_ok {X : zX} {nL : Nat} {ini : Bool} {c op a b pc : Nat} {ls : zL} {st : List Value} {h : fH} {q : Nat × zL × List Value × fH} (hk : hok h) (hs : fstep X nL ini c op a b pc ls st h = some q) : zstep X nL ini c (fdec op a b) pc ls st (hL h) = some (Tf hL q) ∧ yput (fdec op a b) st = false ∧ hok q.2.2.2 := by
  by_cases hop : 82 ≤ op
  · exfalso
    unfold fstep at hs
    rw [Nat.ble_eq_true_of_le hop] at hs
    cases hb : Nat.beq op 0 <;> rw [hb] at hs <;> cases hs
  · match op, Nat.not_le.mp hop, hs with
    | 0, _, hs => cases hs
    | 1, _, hs => exact fs_1 hk hs
    | 2, _, hs => exact fs_2 hk hs
    | 3, _, hs => exact fs_3 hk hs
    | 4, _, hs => exact fs_4 hk hs
    | 5, _, hs => exact fs_5 hk hs
    | 6, _, hs => exact fs_6 hk hs
    | 7, _, hs => exact fs_7 hk hs
    | 8, _, hs => exact fs_8 hk hs
    | 9, _, hs => exact fs_9 hk hs
    | 10, _, hs => exact fs_10 hk hs
    | 11, _, hs => exact fs_11 hk hs
    | 12, _, hs => exact fs_12 hk hs
    | 13, _, hs => exact fs_13 hk hs
    | 14, _, hs => exact fs_14 hk hs
    | 15, _, hs => exact fs_15 hk hs
    | 16, _, hs => exact fs_16 hk hs
    | 17, _, hs => exact fs_17 hk hs
    | 18, _, hs => exact fs_18 hk hs
    | 19, _, hs => exact fs_19 hk hs
    | 20, _, hs => exact fs_20 hk hs
    | 21, _, hs => exact fs_21 hk hs
    | 22, _, hs => exact fs_22 hk hs
    | 23, _, hs => exact fs_23 hk hs
    | 24, _, hs => exact fs_24 hk hs
    | 25, _, hs => exact fs_25 hk hs
    | 26, _, hs => exact fs_26 hk hs
    | 27, _, hs => exact fs_27 hk hs
    | 28, _, hs => exact fs_28 hk hs
    | 29, _, hs => exact fs_29 hk hs
    | 30, _, hs => exact fs_30 hk hs
    | 31, _, hs => exact fs_31 hk hs
    | 32, _, hs => exact fs_32 hk hs
    | 33, _, hs => exact fs_33 hk hs
    | 34, _, hs => exact fs_34 hk hs
    | 35, _, hs => exact fs_35 hk hs
    | 36, _, hs => exact fs_36 hk hs
    | 37, _, hs => exact fs_37 hk hs
    | 38, _, hs => exact fs_38 hk hs
    | 39, _, hs => exact fs_39 hk hs
    | 40, _, hs => exact fs_40 hk hs
    | 41, _, hs => exact fs_41 hk hs
    | 42, _, hs => exact fs_42 hk hs
    | 43, _, hs => exact fs_43 hk hs
    | 44, _, hs => exact fs_44 hk hs
    | 45, _, hs => exact fs_45 hk hs
    | 46, _, hs => exact fs_46 hk hs
    | 47, _, hs => exact fs_47 hk hs
    | 48, _, hs => exact fs_48 hk hs
    | 49, _, hs => exact fs_49 hk hs
    | 50, _, hs => exact fs_50 hk hs
    | 51, _, hs => exact fs_51 hk hs
    | 52, _, hs => exact fs_52 hk hs
    | 53, _, hs => exact fs_53 hk hs
    | 54, _, hs => exact fs_54 hk hs
    | 55, _, hs => exact fs_55 hk hs
    | 56, _, hs => exact fs_56 hk hs
    | 57, _, hs => exact fs_57 hk hs
    | 58, _, hs => exact fs_58 hk hs
    | 59, _, hs => exact fs_59 hk hs
    | 60, _, hs => exact fs_60 hk hs
    | 61, _, hs => exact fs_61 hk hs
    | 62, _, hs => exact fs_62 hk hs
    | 63, _, hs => exact fs_63 hk hs
    | 64, _, hs => exact fs_64 hk hs
    | 65, _, hs => exact fs_65 hk hs
    | 66, _, hs => exact fs_66 hk hs
    | 67, _, hs => exact fs_67 hk hs
    | 68, _, hs => exact fs_68 hk hs
    | 69, _, hs => exact fs_69 hk hs
    | 70, _, hs => exact fs_70 hk hs
    | 71, _, hs => exact fs_71 hk hs
    | 72, _, hs => exact fs_72 hk hs
    | 73, _, hs => exact fs_73 hk hs
    | 74, _, hs => exact fs_74 hk hs
    | 75, _, hs => exact fs_75 hk hs
    | 76, _, hs => exact fs_76 hk hs
    | 77, _, hs => exact fs_77 hk hs
    | 78, _, hs => exact fs_78 hk hs
    | 79, _, hs => exact fs_79 hk hs
    | 80, _, hs => exact fs_80 hk hs
    | 81, _, hs => exact fs_81 hk hs
    | n + 82, h9, _ => exact absurd h9 (by omega)
end
section
/-! Runs with symbols over a tree of cells. -/
abbrev fO : Type := yE × Option Value × fH
def fcall (X : zX) (I : zI) (mcl : Nat → Nat) (c : Nat) (i : Instr) (st : List Value) (h : fH) : Option (Nat × List Value × List Value) :=
  match i with
  | .invokevirtual j => match I c j with
    | some (1, mi, n) => match st.drop n with
      | .ref b :: r => match hget h b with
        | some (ci, .inr (.inr (.inr _))) => if ci = mcl mi ∧ n ≤ st.length ∧ zw8 r = true then some (mi, .ref b :: (st.take n).reverse, r) else none
        | _ => none
      | .retAddr b :: r => if zxcl X b = some (mcl mi) ∧ n ≤ st.length ∧ zw8 r = true then some (mi, .retAddr b :: (st.take n).reverse, r) else none
      | _ => none
    | _ => none
  | .invokestatic j => match I c j with
    | some (2, mi, n) => if n ≤ st.length ∧ zw8 (st.drop n) = true then some (mi, (st.take n).reverse, st.drop n) else none
    | _ => none
  | .invokespecial j => match I c j with
    | some (3, mi, n) => match st.drop n with
      | .ref b :: r => if n ≤ st.length ∧ zw8 r = true then some (mi, .ref b :: (st.take n).reverse, r) else none
      | _ => none
    | some (4, mi, n) => match st.drop n with
      | .ref b :: r => if n ≤ st.length ∧ zw8 r = true then some (mi, .ref b :: (st.take n).reverse, r) else none
      | _ => none
    | _ => none
  | _ => none
theorem fcall_ok {X : zX} {I : zI} {mcl : Nat → Nat} {c : Nat} {i : Instr} {st : List Value} {h : fH} (hk : hok h) : fcall X I mcl c i st h = zcall X I mcl c i st (hL h) := by
  unfold fcall zcall
  simp only [hget_ok hk]
  rfl
/-- symbols put into cells -/
def fsyH (X : zX) (c : Nat) (i : Instr) (pc : Nat) (E : yE) (ls : zL) (st : List Value) (h : fH) : Option (yE × Nat × zL × List Value × fH) :=
  match i with
  | .putfield j => match st with
    | .float s :: .ref a :: r => match zfld X c j, hget h a with
      | some (ci, k), some (ci', .inr (.inr (.inr fs))) => if ci' = ci ∧ k < fs.length ∧ zfin X ci k = false ∧ zty X ci k = .int then some (E, pc + 3, ls, r, hset h a (ci, .inr (.inr (.inr (fs.set k (.float s)))))) else none
      | _, _ => none
    | _ => none
  | .iastore => match st with
    | v :: .int n :: .ref a :: r => match hget h a with
      | some (t, .inl l) => if t = 0 ∧ zidx n l.length = true ∧ (yiv E v).isSome = true then some (E, pc + 1, ls, r, hset h a (100, .inr (.inr (.inr ((l.map Value.int).set n.toNatClampNeg v))))) else none
      | some (t, .inr (.inr (.inr fs))) => if t = 100 ∧ zidx n fs.length = true ∧ (yiv E v).isSome = true then some (E, pc + 1, ls, r, hset h a (100, .inr (.inr (.inr (fs.set n.toNatClampNeg v))))) else none
      | _ => none
    | _ => none
  | _ => none
theorem fsyH_ok {X : zX} {nL c : Nat} {i : Instr} {pc : Nat} {E : yE} {ls : zL} {st : List Value} {h : fH} {s : yE × Nat × zL × List Value × fH} (hk : hok h) (hs : fsyH X c i pc E ls st h = some s) : ysy X nL c i pc E ls st (hL h) = some [(s.1, s.2.1, s.2.2.1, s.2.2.2.1, hL s.2.2.2.2)] ∧ hok s.2.2.2.2 := by
  cases i with
  | putfield j =>
    dsimp only [fsyH] at hs
    split at hs
    · split at hs
      · next q1 q2 =>
        split at hs
        · next q3 =>
          cases hs
          rw [hget_ok hk] at q2
          refine ⟨?_, (hset_ok hk q2).2⟩
          dsimp only [ysy]
          rw [q1, q2]
          dsimp only
          rw [if_pos q3, (hset_ok hk q2).1]
        · cases hs
      · cases hs
    · cases hs
  | iastore =>
    dsimp only [fsyH] at hs
    split at hs
    · split at hs
      · next q2 =>
        split at hs
        · next q3 =>
          cases hs
          rw [hget_ok hk] at q2
          refine ⟨?_, (hset_ok hk q2).2⟩
          dsimp only [ysy]
          rw [q2]
          dsimp only
          rw [if_pos q3, (hset_ok hk q2).1]
        · cases hs
      · next q2 =>
        split at hs
        · next q3 =>
          cases hs
          rw [hget_ok hk] at q2
          refine ⟨?_, (hset_ok hk q2).2⟩
          dsimp only [ysy]
          rw [q2]
          dsimp only
          rw [if_pos q3, (hset_ok hk q2).1]
        · cases hs
      · cases hs
    · cases hs
  | _ => exact nomatch (show (none : Option (yE × Nat × zL × List Value × fH)) = some _ from hs)
def yhp (h : zH) (s : yS) : yS := (s.1, s.2.1, s.2.2.1, s.2.2.2.1, h)
set_option maxHeartbeats 4000000 in
/-- a rule that goes through without any cell goes through with all -/
theorem ysy_dry {X : zX} {nL c : Nat} {i : Instr} {pc : Nat} {E : yE} {ls : zL} {st : List Value} {ss : List yS} (hs : ysy X nL c i pc E ls st [] = some ss) (h : zH) : ysy X nL c i pc E ls st h = some (ss.map (yhp h)) := by
  cases i with
  | putfield j =>
    exfalso
    dsimp only [ysy] at hs
    split at hs
    · split at hs
      · next q2 => simp at q2
      · cases hs
    · cases hs
  | iastore =>
    exfalso
    dsimp only [ysy] at hs
    split at hs
    · split at hs
      · next q2 => simp at q2
      · next q2 => simp at q2
      · cases hs
    · cases hs
  | iload_n k =>
    dsimp only [ysy] at hs ⊢
    split at hs
    · cases hs; rfl
    · cases hs
  | iload k =>
    dsimp only [ysy] at hs ⊢
    split at hs
    · cases hs; rfl
    · cases hs
  | istore_n k =>
    dsimp only [ysy] at hs ⊢
    split at hs
    · split at hs
      · next q => cases hs; rw [if_pos q]; rfl
      · cases hs
    · cases hs
  | istore k =>
    dsimp only [ysy] at hs ⊢
    split at hs
    · split at hs
      · next q => cases hs; rw [if_pos q]; rfl
      · cases hs
    · cases hs
  | ifCond cd off =>
    dsimp only [ysy] at hs ⊢
    split at hs
    · split at hs
      · next q =>
        cases hs
        rw [if_pos q, List.map_append, List.map_map, List.map_map]
        rfl
      · cases hs
    · cases hs
  | if_icmp cd off =>
    dsimp only [ysy] at hs ⊢
    split at hs
    · split at hs
      · next q =>
        cases hs
        rw [if_pos q, List.map_append, List.map_map, List.map_map]
        rfl
      · cases hs
    · cases hs
  | tableswitch d lo hi offs =>
    dsimp only [ysy] at hs ⊢
    split at hs
    · split at hs
      · next p hp =>
        split at hs
        · next q =>
          cases hs
          rw [if_pos q]
          unfold yone
          rw [List.map_append, List.map_map, List.map_map]
          rfl
        · cases hs
      · cases hs
    · cases hs
  | lookupswitch d ps =>
    dsimp only [ysy] at hs ⊢
    split at hs
    · split at hs
      · next p hp =>
        split at hs
        · next q =>
          cases hs
          rw [if_pos q]
          unfold yone
          rw [List.map_append, List.map_map, List.map_map]
          rfl
        · cases hs
      · cases hs
    · cases hs
  | iaload =>
    dsimp only [ysy] at hs ⊢
    split at hs
    · split at hs
      · next p hp =>
        split at hs
        · next q =>
          cases hs
          rw [if_pos q]
          unfold yone
          rw [List.map_map]
          rfl
        · cases hs
      · cases hs
    · cases hs
  | _ =>
    first
    | exact nomatch (show (none : Option (List yS)) = some _ from hs)
    | (dsimp only [ysy] at hs ⊢
       split at hs
       · split at hs
         · next q => cases hs; rw [if_pos q]; rfl
         · cases hs
       · cases hs)
def fget (B pc : Nat) : Nat := Nat.mod (Nat.shiftRight B (Nat.mul 40 pc)) 1099511627776
noncomputable def fst2 (X : zX) (nL : Nat) (ini : Bool) (c : Nat) (w : Nat) (pc : Nat) (ls : zL) (st : List Value) (h : fH) : Option (Nat × zL × List Value × fH) := fstep X nL ini c (Nat.mod w 256) (Nat.mod (Nat.div w 256) 65536) (Nat.div w 16777216) pc ls st h
def fdec2 (w : Nat) : Instr := fdec (Nat.mod w 256) (Nat.mod (Nat.div w 256) 65536) (Nat.div w 16777216)
noncomputable def fslow (X : zX) (I : zI) (mcl : Nat → Nat) (C : Nat → yE → List Value → fH → Option (List fO)) (c : Nat) (nL : Nat) (rt : Option FieldType) (tab : Nat → Option (Instr × Nat)) (k : yE → Nat → zL → List Value → fH → Option (List fO)) (E : yE) (pc : Nat) (ls : zL) (st : List Value) (h : fH) : Option (List fO) := match tab pc with
  | none => none
  | some (i, _) => match zret rt i st with
    | some r => some [(E, r, h)]
    | none => match fcall X I mcl c i st h with
      | some (mi, as, rest) => match C mi E as h with
        | some os => yseq (fun o => k o.1 (pc + 3) ls (o.2.1.toList ++ rest) o.2.2) os
        | none => none
      | none => match zobjI I c i st with
        | some rest => k E (pc + 3) ls rest h
        | none => match zstI X i pc ls st [] with
          | some (pc1, ls1, st1, _) => k E pc1 ls1 st1 h
          | none => match ysy X nL c i pc E ls st [] with
            | some ss => yseq (fun s => k s.1 s.2.1 s.2.2.1 s.2.2.2.1 h) ss
            | none => match fsyH X c i pc E ls st h with
              | some s => k s.1 s.2.1 s.2.2.1 s.2.2.2.1 s.2.2.2.2
              | none => none
noncomputable def fnext (X : zX) (I : zI) (mcl : Nat → Nat) (C : Nat → yE → List Value → fH → Option (List fO)) (c : Nat) (ini : Bool) (nL : Nat) (rt : Option FieldType) (tab : Nat → Option (Instr × Nat)) (B : Nat) (k : yE → Nat → zL → List Value → fH → Option (List fO)) (E : yE) (pc : Nat) (ls : zL) (st : List Value) (h : fH) : Option (List fO) := match fst2 X nL ini c (fget B pc) pc ls st h with
  | some q => k E q.1 q.2.1 q.2.2.1 q.2.2.2
  | none => fslow X I mcl C c nL rt tab k E pc ls st h
noncomputable def frun (X : zX) (I : zI) (mcl : Nat → Nat) (C : Nat → yE → List Value → fH → Option (List fO)) (c : Nat) (ini : Bool) (nL : Nat) (rt : Option FieldType) (tab : Nat → Option (Instr × Nat)) (B : Nat) (n : Nat) : yE → Nat → zL → List Value → fH → Option (List fO) :=
  Nat.rec (motive := fun _ => yE → Nat → zL → List Value → fH → Option (List fO)) (fun _ _ _ _ _ => none) (fun _ k => fnext X I mcl C c ini nL rt tab B k) n
theorem frun_s {X : zX} {I : zI} {mcl : Nat → Nat} {C : Nat → yE → List Value → fH → Option (List fO)} {c : Nat} {ini : Bool} {nL : Nat} {rt : Option FieldType} {tab : Nat → Option (Instr × Nat)} {B : Nat} (n : Nat) (E : yE) (pc : Nat) (ls : zL) (st : List Value) (h : fH) : frun X I mcl C c ini nL rt tab B (n + 1) E pc ls st h = fnext X I mcl C c ini nL rt tab B (frun X I mcl C c ini nL rt tab B n) E pc ls st h := rfl
/-- the number says what the table says -/
def fok (tab : Nat → Option (Instr × Nat)) (B : Nat) : Prop := ∀ pc : Nat, Nat.mod (fget B pc) 256 ≠ 0 → ∃ len : Nat, tab pc = some (fdec2 (fget B pc), len)
theorem fst2_ok {X : zX} {nL : Nat} {ini : Bool} {c B pc : Nat} {tab : Nat → Option (Instr × Nat)} {ls : zL} {st : List Value} {h : fH} {q : Nat × zL × List Value × fH} (hk : hok h) (hf : fok tab B) (hs : fst2 X nL ini c (fget B pc) pc ls st h = some q) : ∃ (i : Instr) (len : Nat), tab pc = some (i, len) ∧ zstep X nL ini c i pc ls st (hL h) = some (Tf hL q) ∧ yput i st = false ∧ hok q.2.2.2 := by
  have h0 : Nat.mod (fget B pc) 256 ≠ 0 := by
    intro e
    unfold fst2 fstep at hs
    rw [e] at hs
    cases hs
  obtain ⟨len, hl⟩ := hf pc h0
  obtain ⟨g1, g2, g3⟩ := fstep_ok hk hs
  exact ⟨_, len, hl, g1, g2, g3⟩
def fEnds (ρ : yR) (P : Option Value → zH → Prop) (os : List fO) : Prop := ∃ o ∈ os, ∃ (ρ' : yR) (r : Option Value) (h' : zH), yext ρ ρ' ∧ yG o.1 ρ' ∧ yrv ρ' o.2.1 r ∧ hok o.2.2 ∧ yhs ρ' (hL o.2.2) h' ∧ P r h'
theorem yput_no {X : zX} {i : Instr} {pc : Nat} {ls : zL} {st : List Value} {h : zH} {q : Nat × zL × List Value × zH} (hs : zstI X i pc ls st h = some q) : ∀ st2 : List Value, yput i st2 = false := by
  intro st2
  cases i with
  | putfield j => exact nomatch (show (none : Option (Nat × zL × List Value × zH)) = some _ from hs)
  | _ => rfl
section YS
variable {X0 X : zX} {I : zI} {mcl : Nat → Nat} {mt : zM}
set_option maxHeartbeats 4000000 in
theorem frun_ok {F : Nat → yE → List Value → fH → Option (List fO)} {C : zC} {c : Nat} {ini : Bool} {nL : Nat} {rt : Option FieldType} {tab : Nat → Option (Instr × Nat)} {B : Nat} (hf : fok tab B) (hX : yXX X0 X) (hm : ∀ k, mcl k < 100)
    (hF : ∀ (mi : Nat) (E : yE) (as : List Value) (h : fH) (os : List fO), F mi E as h = some os → hok h → ∀ (ρ : yR) (cas : List Value) (ch : zH), yG E ρ → yvs ρ as cas → yhs ρ (hL h) ch → fEnds ρ (fun r h' => C mi cas ch r h') os) :
    ∀ (n : Nat) (E : yE) (pc : Nat) (ls : zL) (st : List Value) (h : fH) (os : List fO), frun X0 I mcl F c ini nL rt tab B n E pc ls st h = some os → hok h → ∀ (ρ : yR) (cl : zL) (cst : List Value) (ch : zH), yG E ρ → yls ρ ls cl → yvs ρ st cst → yhs ρ (hL h) ch → fEnds ρ (fun r h' => zRun X I mcl C c ini nL rt tab n pc cl cst ch r h') os := by
  intro n
  induction n with
  | zero => intro E pc ls st h os q; cases q
  | succ n ih =>
    intro E pc ls st h os q hk ρ cl cst ch hG hl hst hh
    rw [frun_s] at q
    unfold fnext at q
    split at q
    · next w0 hs0 =>
      obtain ⟨pc1, ls1, st1, h1⟩ := w0
      obtain ⟨i, len, ht, hs, hp, hk1⟩ := fst2_ok hk hf hs0
      obtain ⟨cl', cst', ch', g1, g2, g3, g4⟩ := yzstep hX hs hp hl hst hh
      obtain ⟨o, ho, ρ', r, h', k1, k2, k3, k0, k4, k5⟩ := ih _ _ _ _ _ _ q hk1 ρ cl' cst' ch' hG g2 g3 g4
      exact ⟨o, ho, ρ', r, h', k1, k2, k3, k0, k4, ⟨i, len, ht, Or.inr (Or.inl ⟨pc1, cl', cst', ch', g1, k5⟩)⟩⟩
    · unfold fslow at q
      split at q
      · cases q
      · next i len ht =>
        split at q
        · next r hr =>
          cases q
          obtain ⟨g1, g2⟩ := yzret hr hst
          refine ⟨_, List.mem_cons_self, ρ, r, ch, yext.rf, hG, ?_, hk, hh, ⟨i, len, ht, Or.inl ⟨g1, rfl⟩⟩⟩
          cases r with
          | none => exact rfl
          | some v => exact ⟨v, rfl, yv_r (g2 v rfl)⟩
        · split at q
          · next mi as rest hc =>
            split at q
            · next os1 hC =>
              rw [fcall_ok hk] at hc
              obtain ⟨cas, crest, g1, g2, g3⟩ := yzcall (I := I) hX hm hc hst hh
              obtain ⟨o, ho, ρ1, r1, h1, k1, k2, k3, k0, k4, k5⟩ := hF _ _ _ _ _ hC hk ρ cas ch hG g2 hh
              obtain ⟨x, hx, hin⟩ := yseq_in q ho
              obtain ⟨o2, ho2, ρ2, r2, h2, e1, e2, e3, e0, e4, e5⟩ := ih _ _ _ _ _ _ hx k0 ρ1 cl (r1.toList ++ crest) h1 k2 (hl.ext k1) (yA.app (g3.ext k1) (yrv_list k3)) k4
              exact ⟨o2, hin _ ho2, ρ2, r2, h2, k1.trans e1, e2, e3, e0, e4, ⟨i, len, ht, Or.inr (Or.inr (Or.inr ⟨mi, cas, crest, r1, h1, g1, k5, e5⟩))⟩⟩
            · cases q
          · split at q
            · next rest hr =>
              obtain ⟨crest, g1, g2⟩ := yzobjI hr hst
              obtain ⟨o, ho, ρ', r, h', k1, k2, k3, k0, k4, k5⟩ := ih _ _ _ _ _ _ q hk ρ cl crest ch hG hl g2 hh
              exact ⟨o, ho, ρ', r, h', k1, k2, k3, k0, k4, ⟨i, len, ht, Or.inr (Or.inr (Or.inl ⟨crest, g1, k5⟩))⟩⟩
            · split at q
              · next pc1 ls1 st1 h1 hs =>
                obtain ⟨rfl, -, cst', g1, g2⟩ := yzI (X := X) hs hst
                obtain ⟨o, ho, ρ', r, h', k1, k2, k3, k0, k4, k5⟩ := ih _ _ _ _ _ _ q hk ρ cl cst' ch hG hl g1 hh
                exact ⟨o, ho, ρ', r, h', k1, k2, k3, k0, k4, ⟨i, len, ht, Or.inr (Or.inl ⟨pc1, cl, cst', ch, ystepI (g2 cl ch), k5⟩)⟩⟩
              · split at q
                · next ss hs =>
                  obtain ⟨s, hin, ρ1, cl1, cst1, ch1, k1, k2, k3, k4, k5, k6⟩ := ysy_ok (ini := ini) hX (ysy_dry hs (hL h)) hG hl hst hh
                  obtain ⟨s0, hin0, rfl⟩ := List.mem_map.mp hin
                  obtain ⟨x, hx, hin2⟩ := yseq_in q hin0
                  obtain ⟨o, ho, ρ2, r2, h2, e1, e2, e3, e0, e4, e5⟩ := ih _ _ _ _ _ _ hx hk ρ1 cl1 cst1 ch1 k2 k3 k4 k5
                  refine ⟨o, hin2 _ ho, ρ2, r2, h2, k1.trans e1, e2, e3, e0, e4, ?_⟩
                  rcases k6 with k6 | ⟨k6, k7, k8, k9⟩
                  · exact ⟨i, len, ht, Or.inr (Or.inl ⟨_, cl1, cst1, ch1, k6, e5⟩)⟩
                  · have k6' : s0.2.1 = pc := k6
                    rw [k6', k7, k8, k9] at e5
                    exact zRun_more _ _ _ _ _ _ _ e5
                · split at q
                  · next s hs =>
                    obtain ⟨hs1, hk1⟩ := fsyH_ok (nL := nL) hk hs
                    obtain ⟨s1, hin, ρ1, cl1, cst1, ch1, k1, k2, k3, k4, k5, k6⟩ := ysy_ok (ini := ini) hX hs1 hG hl hst hh
                    obtain rfl := List.mem_singleton.mp hin
                    obtain ⟨o, ho, ρ2, r2, h2, e1, e2, e3, e0, e4, e5⟩ := ih _ _ _ _ _ _ q hk1 ρ1 cl1 cst1 ch1 k2 k3 k4 k5
                    refine ⟨o, ho, ρ2, r2, h2, k1.trans e1, e2, e3, e0, e4, ?_⟩
                    rcases k6 with k6 | ⟨k6, k7, k8, k9⟩
                    · exact ⟨i, len, ht, Or.inr (Or.inl ⟨_, cl1, cst1, ch1, k6, e5⟩)⟩
                    · have k6' : s.2.1 = pc := k6
                      rw [k6', k7, k8, k9] at e5
                      exact zRun_more _ _ _ _ _ _ _ e5
                  · cases q
noncomputable def fev (X : zX) (I : zI) (mcl : Nat → Nat) (mt : zM) (fb : Nat → Nat) : Nat → Nat → yE → List Value → fH → Option (List fO)
  | 0, _, _, _, _ => none
  | d + 1, mi, E, as, h => match mt mi with
    | some (c, ini, nL, rt, tab) => bif Nat.ble (lg_sl as).length nL then frun X I mcl (fev X I mcl mt fb d) c ini nL rt tab (fb mi) 100000 E 0 (lv_args 0 as) [] h else none
    | none => none
theorem fev_ok {fb : Nat → Nat} (hfb : ∀ (mi c : Nat) (ini : Bool) (nL : Nat) (rt : Option FieldType) (tab : Nat → Option (Instr × Nat)), mt mi = some (c, ini, nL, rt, tab) → fok tab (fb mi)) (hX : yXX X0 X) (hm : ∀ k, mcl k < 100) : ∀ (d mi : Nat) (E : yE) (as : List Value) (h : fH) (os : List fO), fev X0 I mcl mt fb d mi E as h = some os → hok h → ∀ (ρ : yR) (cas : List Value) (ch : zH), yG E ρ → yvs ρ as cas → yhs ρ (hL h) ch → fEnds ρ (fun r h' => zEv X I mcl mt d mi cas ch r h') os := by
  intro d
  induction d with
  | zero => intro mi E as h os q; cases q
  | succ d ih =>
    intro mi E as h os q hk ρ cas ch hG has hh
    unfold fev at q
    split at q
    · next c ini nL rt tab hmi =>
      cases hb : Nat.ble (lg_sl as).length nL with
      | false => rw [hb] at q; cases q
      | true =>
        rw [hb] at q
        dsimp only [cond] at q
        have hlg := Nat.le_of_ble_eq_true hb
        obtain ⟨o, ho, ρ', r, h', k1, k2, k3, k0, k4, k5⟩ := frun_ok (hfb _ _ _ _ _ _ hmi) hX hm ih _ _ _ _ _ _ _ q hk ρ (lv_args 0 cas) [] ch hG (yargs 0 has) rfl hh
        exact ⟨o, ho, ρ', r, h', k1, k2, k3, k0, k4, ⟨c, ini, nL, rt, tab, 100000, hmi, by rw [ysl_len has]; exact hlg, k5⟩⟩
    · cases q
end YS
end
