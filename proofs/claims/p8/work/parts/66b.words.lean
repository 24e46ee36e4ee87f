/-! Words: what is packed, what is compared letter by letter. -/
/-- letters packed, 5 bits each -/
def pck (b : Nat → Int32) (s : Nat) : Nat → Int32
  | 0 => 0
  | k + 1 => pck b s k <<< (5 &&& 31) ||| (b (s + k) - 97 + 1)
theorem fW_run {b : Nat → Int32} {n : Nat} : ∀ (f p s : Nat), n - p = f → s ≤ p → p ≤ n → n ≤ 700 → p - s ≤ 6 → (scn ltr fW b n p (Int32.ofNat (p - s), pck b s (p - s))).1 - s ≤ 6 → (scn ltr fW b n p (Int32.ofNat (p - s), pck b s (p - s))).2 = (Int32.ofNat ((scn ltr fW b n p (Int32.ofNat (p - s), pck b s (p - s))).1 - s), pck b s ((scn ltr fW b n p (Int32.ofNat (p - s), pck b s (p - s))).1 - s)) := by
  intro f
  induction f with
  | zero =>
    intro p s hf h1 h2 hn h6 h
    rw [scn_f (fun q => by omega)]
  | succ f ih =>
    intro p s hf h1 h2 hn h6 h
    cases hq : ltr (b p) with
    | false => rw [scn_f (fun _ => hq)]
    | true =>
      have hle := (scn_le (q := ltr) (f := fW) (b := b) (n := n) _ (p + 1) (fW (Int32.ofNat (p - s), pck b s (p - s)) (b p)) rfl (by omega)).1
      rw [scn_t (by omega) hq] at h ⊢
      have h7 : p - s < 6 := by omega
      have e : fW (Int32.ofNat (p - s), pck b s (p - s)) (b p) = (Int32.ofNat (p + 1 - s), pck b s (p + 1 - s)) := by
        unfold fW
        rw [show p + 1 - s = (p - s) + 1 by omega]
        show (Int32.ofNat (p - s) + 1, _) = (_, pck b s (p - s) <<< (5 &&& 31) ||| (b (s + (p - s)) - 97 + 1))
        rw [xn_1, if_pos (by rw [xn_int (by omega)]; omega), show s + (p - s) = p by omega]
      rw [e] at h ⊢
      exact ih (p + 1) s (by omega) (by omega) (by omega) hn (by omega) h
theorem fW_big {b : Nat → Int32} {n : Nat} : ∀ (f p s : Nat) (x y : Int32), n - p = f → s ≤ p → p ≤ n → n ≤ 700 → x = Int32.ofNat (p - s) → (scn ltr fW b n p (x, y)).2.1 = Int32.ofNat ((scn ltr fW b n p (x, y)).1 - s) := by
  intro f
  induction f with
  | zero =>
    intro p s x y hf h1 h2 hn hx
    rw [scn_f (fun q => by omega)]
    exact hx
  | succ f ih =>
    intro p s x y hf h1 h2 hn hx
    cases hq : ltr (b p) with
    | false => rw [scn_f (fun _ => hq)]; exact hx
    | true =>
      rw [scn_t (by omega) hq]
      exact ih (p + 1) s _ _ (by omega) (by omega) (by omega) hn (by show x + 1 = _; rw [hx, xn_1, show p + 1 - s = p - s + 1 by omega])
/-- names: the same packing, with what is wanting to six -/
theorem nmv_run {b : Nat → Int32} {s e : Nat} : ∀ (k : Nat), k ≤ e - s → k ≤ 6 → nmv b s e 6 0 0 = nmv b s e (6 - k) k (pck b s k) := by
  intro k
  induction k with
  | zero => intro _ _; rfl
  | succ k ih =>
    intro h1 h2
    rw [ih (by omega) (by omega), show 6 - k = (6 - (k + 1)) + 1 by omega]
    show nmv b s e (6 - (k + 1)) (k + 1) (pck b s k <<< (5 &&& 31) ||| (if s + k < e then b (s + k) - 97 + 1 else 0)) = _
    rw [if_pos (by omega)]
    rfl
theorem nmv_end {b : Nat → Int32} {s e : Nat} : ∀ (f k : Nat) (v : Int32), e - s ≤ k → nmv b s e (f + 1) k v = nmv b s e f (k + 1) (v <<< (5 &&& 31) ||| 0) := by
  intro f k v h
  show nmv b s e f (k + 1) (v <<< (5 &&& 31) ||| (if s + k < e then b (s + k) - 97 + 1 else 0)) = _
  rw [if_neg (by omega)]
