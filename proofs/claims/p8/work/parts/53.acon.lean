/-! Contracts, and what a call by one does to what is known. -/
/-- an end: types of all symbols (the entry's first), answer, memory -/
abbrev aXt : Type := List aY × Option aV × aM
/-- a measure: number, and symbols with factors -/
abbrev aMs : Type := Int × List (Nat × Int)
/-- a contract: method, types of arguments, types and memory that it starts from, ends, what it may write, measure -/
abbrev aQ : Type := Nat × List aY × (List aY × aM) × List aXt × List aD × aMs
def afrs : Nat → List aY → List aV
  | _, [] => []
  | n, t :: ts => afr t n :: afrs (n + 1) ts
def aent (q : aQ) : List aY := (0, 0, 0) :: (q.2.1 ++ q.2.2.1.1)
def aarg (q : aQ) : List aV := afrs 1 q.2.1
def aem (q : aQ) : aM := q.2.2.1.2
def arv (ρ : List Int) (a : Option aV) (r : Option Value) : Prop := match a with
  | none => r = none
  | some a => ∃ v : Value, r = some v ∧ av ρ a v
theorem arv.ext {ρ ρ' : List Int} (hx : aext ρ ρ') {a : Option aV} {r : Option Value} (h : arv ρ a r) : arv ρ' a r := by
  cases a with
  | none => exact h
  | some a =>
    obtain ⟨v, h1, h2⟩ := h
    exact ⟨v, h1, h2.ext hx⟩
def aEnd (W : aW) (G : aG) (D : List aD) (ρ0 : List Int) (h0 : zH) (E0 : List aY) (xs : List aXt) (r : Option Value) (h' : zH) : Prop := ∃ x ∈ xs, ∃ ρ', aext ρ0 ρ' ∧ E0.length ≤ x.1.length ∧ aE W x.1 ρ' ∧ arv ρ' x.2.1 r ∧ aH W G ρ' x.2.2 h' ∧ aF W G ρ0 D h0 h'
def avs (ρ : List Int) : List (Nat × Int) → Int
  | [] => 0
  | t :: r => t.2 * ρ.getD t.1 0 + avs ρ r
def amv (ρ : List Int) (ms : aMs) : Int := ms.1 + avs ρ ms.2
/-- a contract holds, of starts that P allows -/
def aCon (W : aW) (G : aG) (C : zC) (q : aQ) (P : List Int → Prop) : Prop := ∀ (ρ : List Int) (h : zH) (vs : List Value), P ρ → aE W (aent q) ρ → aSt ρ (aarg q) vs → aH W G ρ (aem q) h → ∃ (r : Option Value) (h' : zH), C q.1 vs h r h' ∧ aEnd W G q.2.2.2.2.1 ρ h (aent q) q.2.2.2.1 r h'
/-! Measures. -/
def asum1 (s : Nat) : List (Nat × Int) → Int
  | [] => 0
  | t :: r => (bif Nat.beq t.1 s then t.2 else 0) + asum1 s r
theorem avs_c (ρ : List Int) (t : Nat × Int) (r : List (Nat × Int)) : avs ρ (t :: r) = t.2 * ρ.getD t.1 0 + avs ρ r := rfl
theorem asum1_c (s : Nat) (t : Nat × Int) (r : List (Nat × Int)) : asum1 s (t :: r) = (bif Nat.beq t.1 s then t.2 else 0) + asum1 s r := rfl
theorem avs_split (ρ : List Int) (s : Nat) : ∀ ts : List (Nat × Int), avs ρ ts = asum1 s ts * ρ.getD s 0 + avs ρ (ts.filter (fun t => !Nat.beq t.1 s))
  | [] => by simp [avs, asum1]
  | t :: r => by
    have ih := avs_split ρ s r
    rw [avs_c, asum1_c, List.filter_cons]
    cases hb : Nat.beq t.1 s with
    | true =>
      rw [Nat.eq_of_beq_eq_true hb, ih]
      simp only [cond_true, Bool.not_true, Bool.false_eq_true, if_false]
      rw [Int.add_mul]
      omega
    | false =>
      simp only [cond_false, Bool.not_false, if_true]
      rw [avs_c, Int.add_mul, Int.zero_mul, ih]
      omega
def aub (E : List aY) : Nat → List (Nat × Int) → Option Int
  | 0, _ => none
  | _ + 1, [] => some 0
  | n + 1, t :: r => match E[t.1]? with
    | some (0, l, u) => match aub E n (r.filter (fun q => !Nat.beq q.1 t.1)) with
      | some b => some (b + (bif ile 0 (t.2 + asum1 t.1 r) then (t.2 + asum1 t.1 r) * u else (t.2 + asum1 t.1 r) * l))
      | none => none
    | _ => none
theorem aub_ok {W : aW} {E : List aY} {ρ : List Int} (hE : aE W E ρ) : ∀ (n : Nat) (ts : List (Nat × Int)) (b : Int), aub E n ts = some b → avs ρ ts ≤ b
  | 0, _, _, h => by cases h
  | n + 1, [], b, h => by
    cases h
    exact Int.le_refl _
  | n + 1, t :: r, b, h => by
    unfold aub at h
    split at h
    · next l u hs =>
      split at h
      · next b' hb =>
        cases h
        have ih := aub_ok hE n _ b' hb
        obtain ⟨z, z1, z2⟩ := hE.has hs
        have z2 : l ≤ z ∧ z ≤ u := z2
        have hz : ρ.getD t.1 0 = z := by rw [List.getD_eq_getElem?_getD, z1]; rfl
        have e1 := avs_split ρ t.1 r
        have e2 : avs ρ (t :: r) = (t.2 + asum1 t.1 r) * z + avs ρ (r.filter (fun q => !Nat.beq q.1 t.1)) := by
          rw [avs_c, e1, hz, Int.add_mul]
          omega
        rw [e2]
        cases hc : ile 0 (t.2 + asum1 t.1 r) with
        | true =>
          have h1 := ile_iff.mp hc
          have h2 := Int.mul_le_mul_of_nonneg_left z2.2 h1
          show _ ≤ b' + (t.2 + asum1 t.1 r) * u
          omega
        | false =>
          have h1 := ile_f hc
          have h2 := Int.mul_le_mul_of_nonpos_left (show t.2 + asum1 t.1 r ≤ 0 by omega) z2.1
          show _ ≤ b' + (t.2 + asum1 t.1 r) * l
          omega
      · cases h
    · cases h
def aneg2 (ts : List (Nat × Int)) : List (Nat × Int) := ts.map (fun t => (t.1, -t.2))
theorem avs_neg (ρ : List Int) : ∀ ts : List (Nat × Int), avs ρ (aneg2 ts) = -avs ρ ts
  | [] => rfl
  | t :: r => by
    have ih := avs_neg ρ r
    show (-t.2) * ρ.getD t.1 0 + avs ρ (aneg2 r) = -(t.2 * ρ.getD t.1 0 + avs ρ r)
    rw [ih, Int.neg_mul]
    omega
theorem avs_app (ρ : List Int) : ∀ ts us : List (Nat × Int), avs ρ (ts ++ us) = avs ρ ts + avs ρ us
  | [], us => by simp [avs]
  | t :: r, us => by
    have ih := avs_app ρ r us
    show t.2 * ρ.getD t.1 0 + avs ρ (r ++ us) = t.2 * ρ.getD t.1 0 + avs ρ r + avs ρ us
    rw [ih]
    omega
def alk (E : List aY) (σ : List aV) : List (Nat × Int) → Option aMs
  | [] => some (0, [])
  | t :: r => match σ[t.1]? with
    | some (.inl (s, c)) => match alk E σ r with
      | some k => bif anw E s c then some (k.1 + t.2 * c, (s, t.2) :: k.2) else none
      | none => none
    | _ => none
theorem alk_ok {W : aW} {E : List aY} {ρ : List Int} {σ : List aV} {ρc : List Int} (hE : aE W E ρ) (hg : asg ρ σ ρc) : ∀ (ts : List (Nat × Int)) (k : aMs), alk E σ ts = some k → avs ρc ts = amv ρ k
  | [], k, h => by
    cases h
    rfl
  | t :: r, k, h => by
    unfold alk at h
    split at h
    · next s c hs =>
      split at h
      · next k' hk =>
        cases hn : anw E s c with
        | false => rw [hn] at h; cases h
        | true =>
          rw [hn] at h
          cases h
          have ih := alk_ok hE hg r k' hk
          obtain ⟨z, z1, w, w1, w2, w3⟩ := hg.has hs
          obtain ⟨y, y1, y2⟩ := anw_ok hE hn (x := Int32.ofInt (w + c)) ⟨w, w1, rfl⟩
          rw [w1] at y1
          cases y1
          have hz : z = w + c := by
            rcases w3 with q | q
            · exact q
            · rw [q, y2]
          have e1 : ρc.getD t.1 0 = z := by rw [List.getD_eq_getElem?_getD, z1]; rfl
          have e2 : ρ.getD s 0 = w := by rw [List.getD_eq_getElem?_getD, w1]; rfl
          unfold amv at ih ⊢
          show t.2 * ρc.getD t.1 0 + avs ρc r = (k'.1 + t.2 * c) + (t.2 * ρ.getD s 0 + avs ρ k'.2)
          rw [ih, e1, e2, hz, Int.mul_add]
          omega
      · cases h
    · cases h
/-- rows of the kind 's and c more is s' at most' put to use -/
def arc : List aY → aMs → aMs
  | [], k => k
  | t :: r, k => bif Nat.ble 4 t.1 && (!ile (asum1 (t.1 - 4) k.2) 0 && !ile 0 (asum1 t.2.1.toNat k.2)) then arc r (k.1 - imn (asum1 (t.1 - 4) k.2) (-asum1 t.2.1.toNat k.2) * t.2.2, k.2 ++ [(t.1 - 4, -imn (asum1 (t.1 - 4) k.2) (-asum1 t.2.1.toNat k.2)), (t.2.1.toNat, imn (asum1 (t.1 - 4) k.2) (-asum1 t.2.1.toNat k.2))]) else arc r k
theorem arc_ok {W : aW} {E : List aY} {ρ : List Int} (hE : aE W E ρ) : ∀ (L : List aY) (k : aMs), (∀ t ∈ L, t ∈ E) → amv ρ k ≤ amv ρ (arc L k)
  | [], k, _ => Int.le_refl _
  | t :: r, k, h => by
    have ih := fun k' => arc_ok hE r k' (fun t' ht' => h t' (List.mem_cons_of_mem _ ht'))
    unfold arc
    cases hc : (Nat.ble 4 t.1 && (!ile (asum1 (t.1 - 4) k.2) 0 && !ile 0 (asum1 t.2.1.toNat k.2))) with
    | false => exact ih k
    | true =>
      simp only [Bool.and_eq_true, Bool.not_eq_true'] at hc
      obtain ⟨z, z', z1, z2, z3⟩ := acst_of hE (h t List.mem_cons_self) (Nat.le_of_ble_eq_true hc.1)
      have c1 := ile_f hc.2.1
      have c2 := ile_f hc.2.2
      dsimp only [cond_true]
      refine Int.le_trans ?_ (ih _)
      unfold amv
      rw [avs_app, avs_c, avs_c]
      have e1 : ρ.getD (t.1 - 4) 0 = z := by rw [List.getD_eq_getElem?_getD, z1]; rfl
      have e2 : ρ.getD t.2.1.toNat 0 = z' := by rw [List.getD_eq_getElem?_getD, z2]; rfl
      show k.1 + avs ρ k.2 ≤ k.1 - imn (asum1 (t.1 - 4) k.2) (-asum1 t.2.1.toNat k.2) * t.2.2 + (avs ρ k.2 + (-imn (asum1 (t.1 - 4) k.2) (-asum1 t.2.1.toNat k.2) * ρ.getD (t.1 - 4) 0 + (imn (asum1 (t.1 - 4) k.2) (-asum1 t.2.1.toNat k.2) * ρ.getD t.2.1.toNat 0 + 0)))
      rw [e1, e2]
      have hk : 0 ≤ imn (asum1 (t.1 - 4) k.2) (-asum1 t.2.1.toNat k.2) := by rw [imn_eq]; omega
      generalize imn (asum1 (t.1 - 4) k.2) (-asum1 t.2.1.toNat k.2) = K at hk
      have h5 : K * (z + t.2.2) ≤ K * z' := Int.mul_le_mul_of_nonneg_left z3 hk
      rw [Int.mul_add] at h5
      rw [Int.neg_mul]
      omega
/-- the measure there is less than the one that was -/
def alt (E : List aY) (σ : List aV) (ms ms0 : aMs) : Bool := match alk E σ ms.2 with
  | some k => match arc E (k.1 + ms.1 - ms0.1, k.2 ++ aneg2 ms0.2) with
    | A => match aub E (A.2.length + 1) A.2 with
      | some b => !ile 0 (b + A.1)
      | none => false
  | none => false
theorem alt_ok {W : aW} {E : List aY} {ρ : List Int} {σ : List aV} {ρc : List Int} {ms ms0 : aMs} (hE : aE W E ρ) (hg : asg ρ σ ρc) (h : alt E σ ms ms0 = true) : amv ρc ms < amv ρ ms0 := by
  unfold alt at h
  split at h
  · next k hk =>
    have h9 := arc_ok hE E (k.1 + ms.1 - ms0.1, k.2 ++ aneg2 ms0.2) (fun t ht => ht)
    dsimp only at h
    split at h
    · next b hb =>
      have h1 := ile_f (by simpa using h)
      have h2 := alk_ok hE hg _ _ hk
      have h3 := aub_ok hE _ _ _ hb
      unfold amv at h2 h9 ⊢
      rw [avs_app, avs_neg] at h9
      omega
    · cases h
  · cases h
/-- a measure isn't below 0 -/
def ann (E : List aY) (ms : aMs) : Bool := match aub E (ms.2.length + 1) (aneg2 ms.2) with
  | some b => ile b ms.1
  | none => false
theorem ann_ok {W : aW} {E : List aY} {ρ : List Int} {ms : aMs} (hE : aE W E ρ) (h : ann E ms = true) : 0 ≤ amv ρ ms := by
  unfold ann at h
  split at h
  · next b hb =>
    have h1 := ile_iff.mp h
    have h3 := aub_ok hE _ _ _ hb
    rw [avs_neg] at h3
    unfold amv
    omega
  · cases h
theorem avs_ext {ρ ρ' : List Int} (hx : aext ρ ρ') : ∀ {ts : List (Nat × Int)}, (∀ t ∈ ts, t.1 < ρ.length) → avs ρ' ts = avs ρ ts
  | [], _ => rfl
  | t :: r, h => by
    have ih := avs_ext hx (ts := r) (fun q hq => h q (List.mem_cons_of_mem _ hq))
    have h1 : ρ[t.1]? = some (ρ[t.1]'(h t List.mem_cons_self)) := List.getElem?_eq_getElem _
    show t.2 * ρ'.getD t.1 0 + avs ρ' r = t.2 * ρ.getD t.1 0 + avs ρ r
    rw [ih, List.getD_eq_getElem?_getD, List.getD_eq_getElem?_getD, hx.get h1, h1]
