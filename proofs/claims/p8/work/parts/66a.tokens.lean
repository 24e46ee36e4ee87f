/-! Both scanners see the same tokens. -/
theorem itr_fst {σ τ : Type} {q : Int32 → Bool} {f : σ → Int32 → σ} {f2 : τ → Int32 → τ} {b : Nat → Int32} {n : Nat} {R : σ → τ → Prop} (hf : ∀ (s : σ) (t : τ) (x : Int32), q x = true → R s t → R (f s x) (f2 t x)) : ∀ (k p : Nat) (s : σ) (t : τ), R s t → (itr q f b n k p s).1 = (itr q f2 b n k p t).1 ∧ R (itr q f b n k p s).2 (itr q f2 b n k p t).2 := by
  intro k
  induction k with
  | zero => intro p s t h; exact ⟨rfl, h⟩
  | succ k ih =>
    intro p s t h
    unfold itr
    cases hb : Nat.blt p n && q (b p) with
    | false => exact ⟨rfl, h⟩
    | true =>
      rw [Bool.and_eq_true] at hb
      exact ih (p + 1) _ _ (hf s t _ hb.2 h)
theorem scn_rel {σ τ : Type} {q : Int32 → Bool} {f : σ → Int32 → σ} {f2 : τ → Int32 → τ} {b : Nat → Int32} {n p : Nat} {R : σ → τ → Prop} (hf : ∀ (s : σ) (t : τ) (x : Int32), q x = true → R s t → R (f s x) (f2 t x)) {s : σ} {t : τ} (h : R s t) : (scn q f b n p s).1 = (scn q f2 b n p t).1 ∧ R (scn q f b n p s).2 (scn q f2 b n p t).2 := itr_fst hf _ _ _ _ h
/-- numbers: the same, or both too large -/
def nv (x y : Int32) : Prop := (x = y ∧ 0 ≤ x.toInt ∧ x.toInt ≤ 99999) ∨ (99999 < x.toInt ∧ 99999 < y.toInt)
theorem xt_mul {x : Int32} (h0 : 0 ≤ x.toInt) (h1 : x.toInt ≤ 1000000) : (x * 10).toInt = x.toInt * 10 := by
  rw [Int32.toInt_mul, show (10 : Int32).toInt = 10 from rfl]
  exact Int.bmod_eq_of_le (by omega) (by omega)
theorem xt_sub {c : Int32} (h0 : 48 ≤ c.toInt) (h1 : c.toInt ≤ 57) : (c - 48).toInt = c.toInt - 48 := by
  rw [Int32.toInt_sub, show (48 : Int32).toInt = 48 from rfl]
  exact Int.bmod_eq_of_le (by omega) (by omega)
theorem xt_add {x y : Int32} (h0 : 0 ≤ x.toInt + y.toInt) (h1 : x.toInt + y.toInt ≤ 2000000000) : (x + y).toInt = x.toInt + y.toInt := by
  rw [Int32.toInt_add]
  exact Int.bmod_eq_of_le (by omega) (by omega)
theorem fNR {x c : Int32} : 10 * x + c - 48 = x * 10 + (c - 48) := by
  rw [Int32.mul_comm 10 x, Int32.sub_eq_add_neg, Int32.sub_eq_add_neg, Int32.add_assoc]
theorem fN_nv (x y c : Int32) (hq : dgt c = true) (h : nv x y) : nv (fN x c) (fR y c) := by
  have hc := dgt_i hq
  have e := xt_sub hc.1 hc.2
  rcases h with ⟨rfl, h1, h2⟩ | ⟨h1, h2⟩
  · unfold fN fR
    rw [if_pos (by omega), if_neg (by omega), fNR]
    have e1 := xt_mul (x := x) h1 (by omega)
    have e2 := xt_add (x := x * 10) (y := c - 48) (by omega) (by omega)
    rcases Int.lt_or_le 99999 (x * 10 + (c - 48)).toInt with h | h
    · exact Or.inr ⟨h, h⟩
    · exact Or.inl ⟨rfl, by omega, h⟩
  · unfold fR
    rw [if_pos h2]
    refine Or.inr ⟨?_, h2⟩
    unfold fN
    split
    · next h3 =>
      have e1 := xt_mul (x := x) (by omega) (by omega)
      have e2 := xt_add (x := x * 10) (y := c - 48) (by omega) (by omega)
      omega
    · exact h1
/-- a token of the class and the same one of the reference -/
def TR (k v so va : Int32) : Prop := (k = 0 ∧ so = 4) ∨ (k = 1 ∧ so = 5) ∨ (k = 2 ∧ so = 2 ∧ nv v va) ∨ (k = 3 ∧ so = 1 ∧ va = v) ∨ (∃ w : Nat, w < 22 ∧ k = 32 + Int32.ofNat w ∧ so = 0 ∧ va = Int32.ofNat w) ∨ (so = 3 ∧ ((k = 4 ∧ va = 59) ∨ (k = 5 ∧ va = 40) ∨ (k = 6 ∧ va = 41) ∨ (k = 10 ∧ va = 43) ∨ (k = 11 ∧ va = 45) ∨ (k = 12 ∧ va = 42) ∨ (k = 13 ∧ va = 47) ∨ (k = 14 ∧ va = 60) ∨ (k = 15 ∧ va = 256) ∨ (k = 16 ∧ va = 61) ∨ (k = 17 ∧ va = 257) ∨ (k = 18 ∧ va = 258) ∨ (k = 19 ∧ va = 62)))
theorem sg_TR {x y : Int32} : TR (sg x y).1 0 (bif isg x then 3 else 5) (sgV x y).1 ∧ (sg x y).2 = (sgV x y).2 := by
  by_cases c60 : x = 60
  · subst c60
    by_cases cy : y = 61
    · subst cy; exact ⟨by right; right; right; right; right; exact ⟨rfl, by decide⟩, rfl⟩
    · by_cases cy2 : y = 62
      · subst cy2; exact ⟨by right; right; right; right; right; exact ⟨rfl, by decide⟩, rfl⟩
      · have e1 : sg 60 y = (14, 1) := by
          unfold sg
          rw [decide_eq_false cy, decide_eq_false cy2]
          rfl
        have e2 : sgV 60 y = (60, 1) := by
          unfold sgV
          rw [if_pos rfl, if_neg cy, if_neg cy2]
        rw [e1, e2]
        exact ⟨by right; right; right; right; right; exact ⟨rfl, by decide⟩, rfl⟩
  by_cases c62 : x = 62
  · subst c62
    by_cases cy : y = 61
    · subst cy; exact ⟨by right; right; right; right; right; exact ⟨rfl, by decide⟩, rfl⟩
    · have e1 : sg 62 y = (19, 1) := by
        unfold sg
        rw [decide_eq_false cy]
        rfl
      have e2 : sgV 62 y = (62, 1) := by
        unfold sgV
        rw [if_neg (by decide), if_pos rfl, if_neg cy]
      rw [e1, e2]
      exact ⟨by right; right; right; right; right; exact ⟨rfl, by decide⟩, rfl⟩
  have e2 : sgV x y = (x, 1) := by
    unfold sgV
    rw [if_neg c60, if_neg c62]
  rw [e2]
  by_cases c : x = 59
  · subst c; rw [show sg 59 y = (4, 1) from rfl]; exact ⟨by right; right; right; right; right; exact ⟨rfl, by decide⟩, rfl⟩
  by_cases c40 : x = 40
  · subst c40; rw [show sg 40 y = (5, 1) from rfl]; exact ⟨by right; right; right; right; right; exact ⟨rfl, by decide⟩, rfl⟩
  by_cases c41 : x = 41
  · subst c41; rw [show sg 41 y = (6, 1) from rfl]; exact ⟨by right; right; right; right; right; exact ⟨rfl, by decide⟩, rfl⟩
  by_cases c43 : x = 43
  · subst c43; rw [show sg 43 y = (10, 1) from rfl]; exact ⟨by right; right; right; right; right; exact ⟨rfl, by decide⟩, rfl⟩
  by_cases c45 : x = 45
  · subst c45; rw [show sg 45 y = (11, 1) from rfl]; exact ⟨by right; right; right; right; right; exact ⟨rfl, by decide⟩, rfl⟩
  by_cases c42 : x = 42
  · subst c42; rw [show sg 42 y = (12, 1) from rfl]; exact ⟨by right; right; right; right; right; exact ⟨rfl, by decide⟩, rfl⟩
  by_cases c47 : x = 47
  · subst c47; rw [show sg 47 y = (13, 1) from rfl]; exact ⟨by right; right; right; right; right; exact ⟨rfl, by decide⟩, rfl⟩
  by_cases c61 : x = 61
  · subst c61; rw [show sg 61 y = (16, 1) from rfl]; exact ⟨by right; right; right; right; right; exact ⟨rfl, by decide⟩, rfl⟩
  have e1 : sg x y = (1, 1) := by
    unfold sg
    rw [if_neg c, if_neg c40, if_neg c41, if_neg c43, if_neg c45, if_neg c42, if_neg c47, if_neg c61, if_neg c60, if_neg c62]
  have e3 : isg x = false := decide_eq_false (by rintro (h | h | h | h | h | h | h | h | h | h) <;> contradiction)
  rw [e1, e3]
  exact ⟨Or.inr (Or.inl ⟨rfl, rfl⟩), rfl⟩
