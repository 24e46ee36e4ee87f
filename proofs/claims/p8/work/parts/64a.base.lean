theorem xn_int {p : Nat} (h : p < 2147483648) : (Int32.ofNat p).toInt = (p : Int) := Int32.toInt_ofNat_of_lt h
theorem xn_nat {p : Nat} (h : p < 2147483648) : (Int32.ofNat p).toNatClampNeg = p := by
  rw [Int32.toNatClampNeg, xn_int h]; rfl
theorem xn_add {p k : Nat} : Int32.ofNat p + Int32.ofNat k = Int32.ofNat (p + k) := (Int32.ofNat_add p k).symm
theorem xn_1 {p : Nat} : Int32.ofNat p + 1 = Int32.ofNat (p + 1) := (Int32.ofNat_add p 1).symm
theorem xn_of {x : Int32} (h : 0 ≤ x.toInt) : x = Int32.ofNat x.toNatClampNeg := by
  apply Int32.toInt_inj.mp
  have h2 := Int32.toInt_lt x
  rw [xn_int (by rw [Int32.toNatClampNeg]; omega), Int32.toNatClampNeg]
  omega
theorem xu_same {α : Type} {m : Nat → Nat → α} {a k : Nat} {x : α} : xu m a k x a k = x := by unfold xu; rw [if_pos ⟨rfl, rfl⟩]
theorem xu_oth {α : Type} {m : Nat → Nat → α} {a k b j : Nat} {x : α} (h : ¬ (b = a ∧ j = k)) : xu m a k x b j = m b j := by unfold xu; rw [if_neg h]
theorem xu_xu {α : Type} {m : Nat → Nat → α} {a k : Nat} {x y : α} : xu (xu m a k x) a k y = xu m a k y := by
  funext b j
  unfold xu
  split <;> rfl
theorem xu_id {α : Type} {m : Nat → Nat → α} {a k : Nat} {x : α} (h : m a k = x) : xu m a k x = m := by
  funext b j
  unfold xu
  split
  · next q => rw [q.1, q.2, h]
  · rfl
theorem xu_comm {α : Type} {m : Nat → Nat → α} {a k b j : Nat} {x y : α} (h : ¬ (b = a ∧ j = k)) : xu (xu m a k x) b j y = xu (xu m b j y) a k x := by
  funext c i
  unfold xu
  by_cases h1 : c = b ∧ i = j
  · by_cases h2 : c = a ∧ i = k
    · exact absurd ⟨h1.1.symm.trans h2.1, h1.2.symm.trans h2.2⟩ h
    · rw [if_pos h1, if_neg h2, if_pos h1]
  · rw [if_neg h1, if_neg h1]
/-- along a row as long as what stands there is such -/
def itr {σ : Type} (q : Int32 → Bool) (f : σ → Int32 → σ) (b : Nat → Int32) (n : Nat) : Nat → Nat → σ → Nat × σ
  | 0, p, s => (p, s)
  | k + 1, p, s => bif (Nat.blt p n && q (b p)) then itr q f b n k (p + 1) (f s (b p)) else (p, s)
def scn {σ : Type} (q : Int32 → Bool) (f : σ → Int32 → σ) (b : Nat → Int32) (n p : Nat) (s : σ) : Nat × σ := itr q f b n (n - p) p s
theorem scn_t {σ : Type} {q : Int32 → Bool} {f : σ → Int32 → σ} {b : Nat → Int32} {n p : Nat} {s : σ} (h : p < n) (hq : q (b p) = true) : scn q f b n p s = scn q f b n (p + 1) (f s (b p)) := by
  unfold scn
  rw [show n - p = (n - (p + 1)) + 1 by omega]
  have : Nat.blt p n = true := Nat.ble_eq_true_of_le h
  show (bif (Nat.blt p n && q (b p)) then _ else _) = _
  rw [this, hq]
  rfl
theorem scn_f {σ : Type} {q : Int32 → Bool} {f : σ → Int32 → σ} {b : Nat → Int32} {n p : Nat} {s : σ} (h : p < n → q (b p) = false) : scn q f b n p s = (p, s) := by
  unfold scn
  by_cases hp : p < n
  · rw [show n - p = (n - (p + 1)) + 1 by omega]
    show (bif (Nat.blt p n && q (b p)) then _ else _) = _
    rw [h hp, Bool.and_false]
    rfl
  · rw [show n - p = 0 by omega]
    rfl
theorem scn_le {σ : Type} {q : Int32 → Bool} {f : σ → Int32 → σ} {b : Nat → Int32} {n : Nat} : ∀ (k p : Nat) (s : σ), n - p = k → p ≤ n → p ≤ (scn q f b n p s).1 ∧ (scn q f b n p s).1 ≤ n ∧ ((scn q f b n p s).1 < n → q (b (scn q f b n p s).1) = false) ∧ (∀ j : Nat, p ≤ j → j < (scn q f b n p s).1 → q (b j) = true) := by
  intro k
  induction k with
  | zero =>
    intro p s hk hp
    rw [scn_f (fun h => by omega)]
    exact ⟨Nat.le_refl _, hp, fun h => absurd h (by dsimp only; omega), fun j h1 h2 => absurd h2 (by dsimp only; omega)⟩
  | succ k ih =>
    intro p s hk hp
    cases hq : q (b p) with
    | true =>
      rw [scn_t (by omega) hq]
      obtain ⟨h1, h2, h3, h4⟩ := ih (p + 1) (f s (b p)) (by omega) (by omega)
      refine ⟨by omega, h2, h3, fun j j1 j2 => ?_⟩
      rcases Nat.lt_or_ge p j with q1 | q1
      · exact h4 j q1 j2
      · rw [show j = p by omega]; exact hq
    | false =>
      rw [scn_f (fun _ => hq)]
      exact ⟨Nat.le_refl _, hp, fun _ => hq, fun j h1 h2 => absurd h2 (by dsimp only; omega)⟩
def bI (b : Bool) : Int32 := bif b then 1 else 0
def blk (x : Int32) : Bool := decide (x = 10) || decide (x = 32)
def ltr (x : Int32) : Bool := decide (97 ≤ x.toInt) && decide (x.toInt ≤ 122)
def dgt (x : Int32) : Bool := decide (48 ≤ x.toInt) && decide (x.toInt ≤ 57)
theorem ltr_t {x : Int32} (h : 97 ≤ x.toInt ∧ x.toInt ≤ 122) : ltr x = true := by unfold ltr; rw [decide_eq_true h.1, decide_eq_true h.2]; rfl
theorem ltr_f {x : Int32} (h : ¬ (97 ≤ x.toInt ∧ x.toInt ≤ 122)) : ltr x = false := by
  unfold ltr
  by_cases h1 : 97 ≤ x.toInt
  · rw [decide_eq_false (p := x.toInt ≤ 122) (fun q => h ⟨h1, q⟩), Bool.and_false]
  · rw [decide_eq_false h1, Bool.false_and]
theorem ltr_i {x : Int32} (h : ltr x = true) : 97 ≤ x.toInt ∧ x.toInt ≤ 122 := Decidable.byContradiction (fun q => by rw [ltr_f q] at h; cases h)
theorem dgt_t {x : Int32} (h : 48 ≤ x.toInt ∧ x.toInt ≤ 57) : dgt x = true := by unfold dgt; rw [decide_eq_true h.1, decide_eq_true h.2]; rfl
theorem dgt_f {x : Int32} (h : ¬ (48 ≤ x.toInt ∧ x.toInt ≤ 57)) : dgt x = false := by
  unfold dgt
  by_cases h1 : 48 ≤ x.toInt
  · rw [decide_eq_false (p := x.toInt ≤ 57) (fun q => h ⟨h1, q⟩), Bool.and_false]
  · rw [decide_eq_false h1, Bool.false_and]
theorem dgt_i {x : Int32} (h : dgt x = true) : 48 ≤ x.toInt ∧ x.toInt ≤ 57 := Decidable.byContradiction (fun q => by rw [dgt_f q] at h; cases h)
theorem blk_t {x : Int32} (h : x = 10 ∨ x = 32) : blk x = true := by
  rcases h with rfl | rfl <;> decide
theorem blk_f {x : Int32} (h1 : ¬ x = 10) (h2 : ¬ x = 32) : blk x = false := by unfold blk; rw [decide_eq_false h1, decide_eq_false h2]; rfl
theorem bI_0 {b : Bool} (h : bI b = 0) : b = false := by cases b; rfl; exact absurd h (by decide)
theorem bI_1 {b : Bool} (h : ¬ bI b = 0) : b = true := by cases b; exact absurd rfl h; rfl
