/-! What a text has told so far, in the reference's cells. -/
def ar (w c : Nat) : Nat := if w = 1 then 131 + c else if w = 2 then 136 + c else if w = 4 then 140 + c else 142 + c
def bs (w : Nat) : Nat := if w = 1 ∨ w = 2 then 6 else if w = 4 then 5 else 3
def df (w : Nat) : Int32 := if w = 0 then 30 else if w = 6 then 1 else 0
def AR (B : eB) (s : eS) (m : xM) (g : xL) : Prop := sX B (.inr (s.2.2.2, s.2.2.1, 0)) m ∧
  (∀ w : Nat, w < 8 → (s.1 w).length ≤ mN w) ∧
  (∀ w : Nat, 1 ≤ w → w ≤ 5 → m 130 (9 + w) = Int32.ofNat (s.1 w).length) ∧
  (∀ w : Nat, (w = 1 ∨ w = 2 ∨ w = 4 ∨ w = 5) → ∀ r : Nat, r < (s.1 w).length → ∀ c : Nat, c < cN w → m (ar w c) (bs w + r) = ((s.1 w).getD r []).getD c 0) ∧
  (∀ w : Nat, (w = 0 ∨ w = 6 ∨ w = 7) → m 130 (9 + w) = tpV (df w) (s.1 w) ∧ bj (m 128 21) w = decide (1 ≤ (s.1 w).length)) ∧
  (∀ k : Nat, k < 3 → bj (m 128 21) (16 + k) = s.2.1 k) ∧
  ∀ j : Nat, j < 6 → ∀ v : Nat, v < 64 → bl (g 139 (6 + j)) v = tld (s.1 3) (Int32.ofNat j) (Int32.ofNat v)
theorem ar_b {w c : Nat} (hw : w = 1 ∨ w = 2 ∨ w = 4 ∨ w = 5) (hc : c < cN w) : 131 ≤ ar w c ∧ ar w c ≤ 143 ∧ ¬ ar w c = 139 := by
  rcases hw with rfl | rfl | rfl | rfl
  · have hc : c < 5 := hc
    show 131 ≤ 131 + c ∧ 131 + c ≤ 143 ∧ ¬ 131 + c = 139
    omega
  · have hc : c < 3 := hc
    show 131 ≤ 136 + c ∧ 136 + c ≤ 143 ∧ ¬ 136 + c = 139
    omega
  · have hc : c < 2 := hc
    show 131 ≤ 140 + c ∧ 140 + c ≤ 143 ∧ ¬ 140 + c = 139
    omega
  · have hc : c < 2 := hc
    show 131 ≤ 142 + c ∧ 142 + c ≤ 143 ∧ ¬ 142 + c = 139
    omega
theorem ar_inj {w c w' c' : Nat} (hw : w = 1 ∨ w = 2 ∨ w = 4 ∨ w = 5) (hc : c < cN w) (hw' : w' = 1 ∨ w' = 2 ∨ w' = 4 ∨ w' = 5) (hc' : c' < cN w') (hn : ¬ w = w') : ¬ ar w c = ar w' c' := by
  have e : ∀ w c : Nat, (w = 1 ∨ w = 2 ∨ w = 4 ∨ w = 5) → c < cN w → (w = 1 ∧ ar w c = 131 + c ∧ c < 5) ∨ (w = 2 ∧ ar w c = 136 + c ∧ c < 3) ∨ (w = 4 ∧ ar w c = 140 + c ∧ c < 2) ∨ (w = 5 ∧ ar w c = 142 + c ∧ c < 2) := fun w c h1 h2 => by
    rcases h1 with rfl | rfl | rfl | rfl
    · exact Or.inl ⟨rfl, rfl, h2⟩
    · exact Or.inr (Or.inl ⟨rfl, rfl, h2⟩)
    · exact Or.inr (Or.inr (Or.inl ⟨rfl, rfl, h2⟩))
    · exact Or.inr (Or.inr (Or.inr ⟨rfl, rfl, h2⟩))
  have h1 := e w c hw hc
  have h2 := e w' c' hw' hc'
  omega
theorem told_k {x : Int32} {w k : Nat} (hw : w < 9) (hk : k < 32) (hn : ¬ w = k) : bj (x ||| (1 : Int32) <<< (Int32.ofNat w &&& 31)) k = bj x k := by
  rw [bj_set (by omega) hk, decide_eq_false hn, Bool.or_false]
theorem told_w {x : Int32} {w : Nat} (hw : w < 9) : bj (x ||| (1 : Int32) <<< (Int32.ofNat w &&& 31)) w = true := by
  rw [bj_set (by omega) (by omega), decide_eq_true rfl, Bool.or_true]
theorem AR_sing {B : eB} {s : eS} {m m' : xM} {g : xL} {w j : Nat} {v : Int32} (hw : w = 0 ∨ w = 6 ∨ w = 7) (hA : AR B s m g) (hT : (s.1 w).length = 0) (h1 : sX B (.inr (j, s.2.2.1, 0)) m') (hr : ∀ a : Nat, ¬ a = 128 → ¬ a = 130 → m' a = m a) (h130 : ∀ k : Nat, ¬ k = 9 + w → m' 130 k = m 130 k) (hv : m' 130 (9 + w) = v) (h21 : m' 128 21 = m 128 21 ||| (1 : Int32) <<< (Int32.ofNat w &&& 31)) : AR B (eup s.1 w (s.1 w ++ [[v]]), s.2.1, s.2.2.1, j) m' g := by
  obtain ⟨-, a2, a3, a4, a5, a6, a7⟩ := hA
  have en : ∀ u : Nat, ¬ u = w → eup s.1 w (s.1 w ++ [[v]]) u = s.1 u := fun u hu => if_neg hu
  have ew : eup s.1 w (s.1 w ++ [[v]]) w = [[v]] := by
    show (if w = w then s.1 w ++ [[v]] else s.1 w) = _
    rw [if_pos rfl, List.length_eq_zero_iff.mp hT]
    rfl
  refine ⟨h1, fun u hu => ?_, fun u u1 u2 => ?_, fun u hu r hr2 c hc => ?_, fun u hu => ?_, fun k hk => ?_, fun i hi x hx => ?_⟩
  · by_cases e : u = w
    · show (eup s.1 w (s.1 w ++ [[v]]) u).length ≤ _
      rw [e, ew]; exact (mN_b w).2
    · show (eup s.1 w (s.1 w ++ [[v]]) u).length ≤ _
      rw [en u e]; exact a2 u hu
  · show _ = Int32.ofNat (eup s.1 w (s.1 w ++ [[v]]) u).length
    rw [en u (by omega), h130 _ (by omega)]
    exact a3 u u1 u2
  · have hu' : ¬ u = w := by omega
    have hr2 : r < (eup s.1 w (s.1 w ++ [[v]]) u).length := hr2
    rw [en u hu'] at hr2
    show _ = ((eup s.1 w (s.1 w ++ [[v]]) u).getD r []).getD c 0
    rw [en u hu', hr _ (by have := ar_b hu hc; omega) (by have := ar_b hu hc; omega)]
    exact a4 u hu r hr2 c hc
  · show _ = tpV (df u) (eup s.1 w (s.1 w ++ [[v]]) u) ∧ _ = decide (1 ≤ (eup s.1 w (s.1 w ++ [[v]]) u).length)
    by_cases e : u = w
    · rw [e, ew, hv, h21, told_w (by omega)]
      exact ⟨rfl, rfl⟩
    · rw [en u e, h130 _ (by omega), h21, told_k (by omega) (by omega) (fun q => e q.symm)]
      exact a5 u hu
  · rw [h21, told_k (by omega) (by omega) (by omega)]
    exact a6 k hk
  · show _ = tld (eup s.1 w (s.1 w ++ [[v]]) 3) _ _
    rw [en 3 (by omega)]
    exact a7 i hi x hx
theorem AR_arr {B : eB} {s : eS} {m m' : xM} {g : xL} {w j : Nat} {row : List Int32} (hw : w = 1 ∨ w = 2 ∨ w = 4 ∨ w = 5) (hA : AR B s m g) (hlt : (s.1 w).length < mN w) (h1 : sX B (.inr (j, s.2.2.1, 0)) m') (hr : ∀ a : Nat, ¬ a = 128 → ¬ a = 130 → (∀ c : Nat, c < cN w → ¬ a = ar w c) → m' a = m a) (hcell : ∀ c : Nat, c < cN w → ∀ k : Nat, m' (ar w c) k = if k = bs w + (s.1 w).length then row.getD c 0 else m (ar w c) k) (h130 : ∀ k : Nat, ¬ k = 9 + w → m' 130 k = m 130 k) (hv : m' 130 (9 + w) = Int32.ofNat ((s.1 w).length + 1)) (h21 : m' 128 21 = m 128 21 ||| (1 : Int32) <<< (Int32.ofNat w &&& 31)) : AR B (eup s.1 w (s.1 w ++ [row]), s.2.1, s.2.2.1, j) m' g := by
  obtain ⟨-, a2, a3, a4, a5, a6, a7⟩ := hA
  have en : ∀ u : Nat, ¬ u = w → eup s.1 w (s.1 w ++ [row]) u = s.1 u := fun u hu => if_neg hu
  have ew : eup s.1 w (s.1 w ++ [row]) w = s.1 w ++ [row] := if_pos rfl
  have el : (s.1 w ++ [row]).length = (s.1 w).length + 1 := by rw [List.length_append]; rfl
  refine ⟨h1, fun u hu => ?_, fun u u1 u2 => ?_, fun u hu r hr2 c hc => ?_, fun u hu => ?_, fun k hk => ?_, fun i hi x hx => ?_⟩
  · show (eup s.1 w (s.1 w ++ [row]) u).length ≤ _
    by_cases e : u = w
    · rw [e, ew, el]; omega
    · rw [en u e]; exact a2 u hu
  · show _ = Int32.ofNat (eup s.1 w (s.1 w ++ [row]) u).length
    by_cases e : u = w
    · rw [e, ew, el]; exact hv
    · rw [en u e, h130 _ (by omega)]
      exact a3 u u1 u2
  · have hr2 : r < (eup s.1 w (s.1 w ++ [row]) u).length := hr2
    show _ = ((eup s.1 w (s.1 w ++ [row]) u).getD r []).getD c 0
    by_cases e : u = w
    · subst e
      rw [ew, el] at hr2
      rw [ew, hcell c hc]
      by_cases e2 : r < (s.1 u).length
      · rw [if_neg (by omega), a4 u hu r e2 c hc]
        congr 1
        rw [List.getD_eq_getElem?_getD, List.getD_eq_getElem?_getD, List.getElem?_append_left e2]
      · rw [if_pos (by omega)]
        congr 1
        rw [show r = (s.1 u).length by omega, List.getD_eq_getElem?_getD, List.getElem?_append_right (Nat.le_refl _), Nat.sub_self]
        rfl
    · rw [en u e] at hr2
      rw [en u e, hr _ (by have := ar_b hu hc; omega) (by have := ar_b hu hc; omega) (fun c' hc' => ar_inj hu hc hw hc' e)]
      exact a4 u hu r hr2 c hc
  · show _ = tpV (df u) (eup s.1 w (s.1 w ++ [row]) u) ∧ _ = decide (1 ≤ (eup s.1 w (s.1 w ++ [row]) u).length)
    rw [en u (by omega), h130 _ (by omega), h21, told_k (by omega) (by omega) (by omega)]
    exact a5 u hu
  · rw [h21, told_k (by omega) (by omega) (by omega)]
    exact a6 k hk
  · show _ = tld (eup s.1 w (s.1 w ++ [row]) 3) _ _
    rw [en 3 (by omega)]
    exact a7 i hi x hx
/-- a number, on both sides -/
theorem num_step {B : eB} {w c i kn : Nat} {row : List Int32} {rows : List (List Int32)} {lo mo : Int32} (hls : lsV w c row = lo) (hmx : mxV w c = mo) (hw3 : ¬ w = 3) : (∃ e : Nat × Nat, numF B w c row rows i = .inl e ∧ nuO B lo mo (.inr (i, kn, 0)) = .inl e) ∨ (numF B w c row rows i = .inr (nuV B lo mo (.inr (i, kn, 0))) ∧ nuO B lo mo (.inr (i, kn, 0)) = .inr (i + 1, kn, 0)) := by
  subst hls
  subst hmx
  unfold numF nuO nuV
  dsimp only
  by_cases h1 : ¬ tK B i = 2
  · rw [if_pos h1, if_pos h1]; exact Or.inl ⟨_, rfl, rfl⟩
  · rw [if_neg h1, if_neg h1, if_neg h1]
    by_cases h2 : (tV B i).toInt < (lsV w c row).toInt ∨ (mxV w c).toInt < (tV B i).toInt
    · rw [if_pos h2, if_pos h2]; exact Or.inl ⟨_, rfl, rfl⟩
    · rw [if_neg h2, if_neg h2, if_neg h2, if_neg (fun q => hw3 q.1)]; exact Or.inr ⟨rfl, rfl⟩
/-- a name that is new, on both sides -/
theorem nam_step {B : eB} {w i kn : Nat} {rows js : List (List Int32)} (hw3 : ¬ w = 3) : (∃ e : Nat × Nat, namF B w rows js i = .inl e ∧ frO B rows (i, kn, 0) = .inl e) ∨ (namF B w rows js i = .inr (frV B rows (i, kn, 0)) ∧ frO B rows (i, kn, 0) = .inr (i + 1, kn, 0)) := by
  unfold namF frO frV
  dsimp only
  by_cases h1 : ¬ tK B i = 3
  · rw [if_pos h1, if_pos h1]; exact Or.inl ⟨_, rfl, rfl⟩
  · rw [if_neg h1, if_neg h1, if_neg h1, if_neg hw3]
    cases hq : fnd (tV B i) rows 0 with
    | some j => exact Or.inl ⟨_, rfl, rfl⟩
    | none => exact Or.inr ⟨rfl, rfl⟩
theorem nuO_l {B : eB} {lo mo : Int32} {e : Nat × Nat} : nuO B lo mo (.inl e) = .inl e := rfl
