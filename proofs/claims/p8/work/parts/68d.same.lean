/-! Both parsers of an expression do the same. -/
theorem str1 {x : Int32} : str x = 1 ↔ x = 44 := by
  constructor
  · intro h
    unfold str at h
    repeat' split at h
    all_goals first | assumption | (exact absurd h (by decide))
  · rintro rfl; decide
theorem str2 {x : Int32} : str x = 2 ↔ x = 45 := by
  constructor
  · intro h
    unfold str at h
    repeat' split at h
    all_goals first | assumption | (exact absurd h (by decide))
  · rintro rfl; decide
theorem str3 {x : Int32} : str x = 3 ↔ x = 46 := by
  constructor
  · intro h
    unfold str at h
    repeat' split at h
    all_goals first | assumption | (exact absurd h (by decide))
  · rintro rfl; decide
theorem str4 {x : Int32} : str x = 4 ↔ (14 ≤ x.toInt ∧ x.toInt ≤ 19) := by
  constructor
  · intro h
    unfold str at h
    repeat' split at h
    all_goals first | assumption | (exact absurd h (by decide))
  · intro h
    unfold str
    rw [if_neg (fun q => by rw [q] at h; exact absurd h (by decide)), if_neg (fun q => by rw [q] at h; exact absurd h (by decide)), if_neg (fun q => by rw [q] at h; exact absurd h (by decide)), if_pos h]
theorem str5' {x : Int32} : str x = 5 ↔ (x = 10 ∨ x = 11) := by
  constructor
  · intro h
    unfold str at h
    repeat' split at h
    all_goals first | assumption | (exact absurd h (by decide))
  · intro h
    rcases h with rfl | rfl <;> decide
theorem str6 {x : Int32} : str x = 6 ↔ (x = 12 ∨ x = 13) := by
  constructor
  · intro h
    unfold str at h
    repeat' split at h
    all_goals first | assumption | (exact absurd h (by decide))
  · intro h
    rcases h with rfl | rfl <;> decide
/-- how strongly the signs of a level bind at least; how strongly what waits below it at most -/
def gms (lv : Nat) : Nat := [1, 2, 3, 5, 6, 7].getD lv 7
def gpm (lv : Nat) : Nat := [0, 1, 3, 4, 5, 6].getD lv 6
theorem isL_str {B : eB} {lv : Nat} {s : Nat × Nat × Nat} (hl : lv = 0 ∨ lv = 1 ∨ lv = 3 ∨ lv = 4) : isL B lv (.inr s) = true ↔ str (tK B s.1) = gms lv := by
  rcases hl with rfl | rfl | rfl | rfl
  · show decide (tK B s.1 = 44) = true ↔ str (tK B s.1) = 1
    rw [str1, decide_eq_true_eq]
  · show decide (tK B s.1 = 45) = true ↔ str (tK B s.1) = 2
    rw [str2, decide_eq_true_eq]
  · show (decide (tK B s.1 = 10) || decide (tK B s.1 = 11)) = true ↔ str (tK B s.1) = 5
    rw [str5', Bool.or_eq_true, decide_eq_true_eq, decide_eq_true_eq]
  · show (decide (tK B s.1 = 12) || decide (tK B s.1 = 13)) = true ↔ str (tK B s.1) = 6
    rw [str6, Bool.or_eq_true, decide_eq_true_eq, decide_eq_true_eq]
/-- where the class's parser is: token, knots counted, brackets open, is a value wanted, what waits -/
abbrev eC : Type := Nat × Nat × Nat × Bool × List Int32
def gx (B : eB) (f : Nat) (c : eC) : Option ((Nat × Nat) ⊕ (Nat × Nat)) := gxs B f c.1 c.2.1 c.2.2.1 c.2.2.2.1 c.2.2.2.2
def cgo (B : eB) (c c' : eC) : Prop := ∃ m : Nat, ∀ f : Nat, gx B (m + f) c = gx B f c'
def cend (B : eB) (c : eC) (o : (Nat × Nat) ⊕ (Nat × Nat)) : Prop := ∃ m : Nat, gx B m c = some o
theorem cgo.rf {B : eB} {c : eC} : cgo B c c := ⟨0, fun f => by rw [Nat.zero_add]⟩
theorem cgo.trans {B : eB} {a b c : eC} : cgo B a b → cgo B b c → cgo B a c
  | ⟨m, h⟩, ⟨n, k⟩ => ⟨m + n, fun f => by rw [Nat.add_assoc, h, k]⟩
theorem cgo.fin {B : eB} {a b : eC} {o : (Nat × Nat) ⊕ (Nat × Nat)} : cgo B a b → cend B b o → cend B a o
  | ⟨m, h⟩, ⟨n, k⟩ => ⟨m + n, by rw [h, k]⟩
theorem cgo_b {B : eB} {i kn op : Nat} {W : List Int32} {s : Nat × Nat × Bool × List Int32} (h : begF B i kn op W = .inr s) : cgo B (i, kn, op, true, W) (i + 1, s) := ⟨1, fun f => by
  rw [Nat.add_comm]
  exact gxs_b2 h⟩
theorem cend_b {B : eB} {i kn op : Nat} {W : List Int32} {e : Nat × Nat} (h : begF B i kn op W = .inl e) : cend B (i, kn, op, true, W) (.inl e) := ⟨1, gxs_b1 (f := 0) h⟩
theorem cgo_h {B : eB} {i kn op : Nat} {W : List Int32} {s : Nat × Nat × Bool × List Int32} (hn : ¬ (tK B i = 4 ∧ op = 0)) (h : behF B i kn op W = .inr s) : cgo B (i, kn, op, false, W) (i + 1, s) := ⟨1, fun f => by
  rw [Nat.add_comm]
  exact gxs_h2 hn h⟩
theorem cend_h {B : eB} {i kn op : Nat} {W : List Int32} {e : Nat × Nat} (hn : ¬ (tK B i = 4 ∧ op = 0)) (h : behF B i kn op W = .inl e) : cend B (i, kn, op, false, W) (.inl e) := ⟨1, gxs_h1 (f := 0) hn h⟩
/-- all that waits above is laid -/
theorem relW_app {s : Nat} {W0 : List Int32} (h0 : str (W0.headD 0) < s) : ∀ p : List Int32, (∀ k ∈ p, s ≤ str k) → relW s (p ++ W0) = W0
  | [], _ => by
    cases W0 with
    | nil => rfl
    | cons x W =>
      show (if s ≤ str x then relW s W else x :: W) = x :: W
      have h0 : str x < s := h0
      rw [if_neg (by omega)]
  | x :: p, h => by
    show (if s ≤ str x then relW s (p ++ W0) else x :: (p ++ W0)) = W0
    rw [if_pos (h x List.mem_cons_self)]
    exact relW_app h0 p (fun k hk => h k (List.mem_cons_of_mem _ hk))
/-- what may stand behind a level: nothing that belongs into it -/
def nx (B : eB) (lv j : Nat) (p : List Int32) : Prop := str (tK B j) = 0 ∨ tK B j = 46 ∨ str (tK B j) < gms lv ∨ (str (tK B j) = 4 ∧ ∃ a b : List Int32, p = a ++ b ∧ (∀ k ∈ a, 5 ≤ str k) ∧ str (b.headD 0) = 4)
theorem nx_app {B : eB} {lv j : Nat} {p : List Int32} {k : Int32} (h : nx B lv j p) : nx B lv j (p ++ [k]) := by
  rcases h with h | h | h | ⟨h, a, b, h1, h2, h3⟩
  · exact Or.inl h
  · exact Or.inr (Or.inl h)
  · exact Or.inr (Or.inr (Or.inl h))
  · refine Or.inr (Or.inr (Or.inr ⟨h, a, b ++ [k], by rw [h1, List.append_assoc], h2, ?_⟩))
    cases b with
    | nil => exact absurd h3 (by decide)
    | cons x b => exact h3
def LV (B : eB) (lv op : Nat) (c : eC) (W0 : List Int32) (o : eO) : Prop := match o with
  | .inl e => cend B c (.inl e)
  | .inr t => t.2.1 ≤ 64 ∧ t.2.2 = op ∧ ∃ p : List Int32, cgo B c (t.1, t.2.1, t.2.2, false, p ++ W0) ∧ (∀ k ∈ p, gms lv ≤ str k) ∧ nx B lv t.1 p
theorem gE_inl {B : eB} : ∀ (f lv : Nat) (e : Nat × Nat) (o : eO), gE B f lv (.inl e) = some o → o = .inl e := by
  intro f
  induction f with
  | zero => intro lv e o h; cases h
  | succ f ih =>
    intro lv e o h
    rw [gE_s] at h
    split at h
    · cases h; rfl
    · split at h
      · rw [if_neg (show ¬ isK B (.inl e) 46 = true by exact fun q => by cases q)] at h
        obtain ⟨b, h1, h2⟩ := obind h
        rw [ih _ _ _ h1] at h2
        rw [if_neg (show ¬ isC B (.inl e) = true by exact fun q => by cases q)] at h2
        cases h2
        rfl
      · have hL : ∀ k : Nat, ¬ isL B k (.inl e) = true := fun k q => by
          unfold isL at q
          repeat' split at q
          all_goals cases q
        split at h
        · rw [if_neg (hL _)] at h
          cases h
          rfl
        · obtain ⟨b, h1, h2⟩ := obind h
          rw [ih _ _ _ h1] at h2
          exact ih _ _ _ h2
/-- a knot too many, or the next token -/
theorem kgo {B : eB} {f lv : Nat} {s : Nat × Nat × Nat} {o : eO} (hk : s.2.1 ≤ 64) (h : gE B f lv (goF (knF (.inr s))) = some o) : (64 ≤ s.2.1 ∧ o = .inl (2, s.1)) ∨ (s.2.1 < 64 ∧ gE B f lv (.inr (s.1 + 1, s.2.1 + 1, s.2.2)) = some o) := by
  have h : gE B f lv (goF (if s.2.1 = 64 then .inl (2, s.1) else .inr (s.1, s.2.1 + 1, s.2.2))) = some o := h
  by_cases h4 : s.2.1 = 64
  · rw [if_pos h4] at h
    exact Or.inl ⟨by omega, gE_inl _ _ _ _ h⟩
  · rw [if_neg h4] at h
    exact Or.inr ⟨by omega, h⟩
/-- a sign behind a value, where all above is laid and nothing like it waits -/
theorem beh_sign {B : eB} {i kn op : Nat} {p W0 : List Int32} {S : Nat} (hS : str (tK B i) = S) (h1 : 1 ≤ S) (h3 : ¬ S = 3) (hp : ∀ k ∈ p, (if S = 4 then 5 else S) ≤ str k) (h0 : str (W0.headD 0) < S) : ¬ (tK B i = 4 ∧ op = 0) ∧ behF B i kn op (p ++ W0) = if 64 ≤ kn then .inl (2, i) else .inr (kn + 1, op, true, tK B i :: W0) := by
  have k4 : ¬ tK B i = 4 := fun q => by rw [q] at hS; have : str 4 = 0 := by decide
                                        omega
  have k6 : ¬ tK B i = 6 := fun q => by rw [q] at hS; have : str 6 = 0 := by decide
                                        omega
  have k46 : ¬ tK B i = 46 := fun q => h3 (by rw [← hS]; exact str3.mpr q)
  refine ⟨fun q => k4 q.1, ?_⟩
  unfold behF
  rw [if_neg k6, if_neg (fun q => q.elim (fun z => by omega) k46), hS]
  by_cases h4 : S = 4
  · subst h4
    rw [if_pos rfl] at hp
    have hr := relW_app (s := 5) (W0 := W0) (by omega) p hp
    rw [hr, if_neg (fun q => by omega), if_pos rfl, hr]
  · rw [if_neg h4] at hp
    rw [if_neg (fun q => h4 q.1), if_neg h4, relW_app h0 p hp]
theorem gms_up {lv : Nat} (h : lv = 0 ∨ lv = 1 ∨ lv = 3 ∨ lv = 4) : gms lv ≤ gms (lv + 1) ∧ gpm lv < gms lv ∧ gms lv ≤ gpm (lv + 1) ∧ gpm lv ≤ gpm (lv + 1) ∧ 1 ≤ gms lv ∧ ¬ gms lv = 3 ∧ ¬ gms lv = 4 ∧ gms (lv + 1) ≤ gms lv + 2 := by
  rcases h with rfl | rfl | rfl | rfl <;> decide
/-- what a level leaves behind it, seen from the level above -/
theorem nx_down {B : eB} {lv j : Nat} {p : List Int32} (hl : lv = 0 ∨ lv = 1 ∨ lv = 3 ∨ lv = 4) (h : nx B (lv + 1) j p) (hn : ¬ str (tK B j) = gms lv) : nx B lv j p := by
  rcases h with h | h | h | h
  · exact Or.inl h
  · exact Or.inr (Or.inl h)
  · rcases hl with rfl | rfl | rfl | rfl
    · have h : str (tK B j) < 2 := h
      have hn : ¬ str (tK B j) = 1 := hn
      exact Or.inl (by omega)
    · have h : str (tK B j) < 3 := h
      have hn : ¬ str (tK B j) = 2 := hn
      exact Or.inr (Or.inr (Or.inl (show _ < 2 by omega)))
    · have h : str (tK B j) < 6 := h
      have hn : ¬ str (tK B j) = 5 := hn
      exact Or.inr (Or.inr (Or.inl (show _ < 5 by omega)))
    · have h : str (tK B j) < 7 := h
      have hn : ¬ str (tK B j) = 6 := hn
      exact Or.inr (Or.inr (Or.inl (show _ < 6 by omega)))
  · exact Or.inr (Or.inr (Or.inr h))
/-- behind an expression nothing of an expression can stand -/
theorem nx_bad {B : eB} {j kn op : Nat} {p W0 : List Int32} (h : nx B 0 j p) (h6 : ¬ tK B j = 6) : behF B j kn op (p ++ W0) = .inl (1, j) := by
  unfold behF
  rw [if_neg h6]
  rcases h with h | h | h | ⟨h, a, b, h1, h2, h3⟩
  · rw [if_pos (Or.inl h)]
  · rw [if_pos (Or.inr h)]
  · have h : str (tK B j) < 1 := h
    rw [if_pos (Or.inl (by omega))]
  · have hb : relW 5 (p ++ W0) = b ++ W0 := by
      rw [h1, List.append_assoc]
      refine relW_app (s := 5) ?_ a h2
      cases b with
      | nil => exact absurd h3 (by decide)
      | cons x b =>
        have h3 : str x = 4 := h3
        show str x < 5
        omega
    rw [if_neg (fun q => q.elim (fun z => by omega) (fun z => by rw [str3.mpr z] at h; omega)), if_pos ⟨h, by
      rw [hb]
      cases b with
      | nil => exact absurd h3 (by decide)
      | cons x b => exact h3⟩]
