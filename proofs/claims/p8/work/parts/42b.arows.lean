/-! Rows of the kind: a symbol and some more is another one at most. -/
def abs0 (E : List aY) (a b : Nat) (d : Int) : Bool := (Nat.beq a b && ile d 0) || (match E[a]? with
  | some (0, _, u) => match E[b]? with
    | some (0, l', _) => ile (u + d) l'
    | _ => false
  | _ => false)
def ale (E : List aY) : Nat → Nat → Nat → Int → Bool
  | 0, a, b, d => abs0 E a b d
  | n + 1, a, b, d => abs0 E a b d || E.any (fun t => bif Nat.ble 4 t.1 && Nat.beq (t.1 - 4) a then ale E n t.2.1.toNat b (d - t.2.2) else false)
theorem abs0_ok {W : aW} {E : List aY} {ρ : List Int} {a b : Nat} {d za zb : Int} (hE : aE W E ρ) (h : abs0 E a b d = true) (ha : ρ[a]? = some za) (hb : ρ[b]? = some zb) : za + d ≤ zb := by
  unfold abs0 at h
  rw [Bool.or_eq_true] at h
  rcases h with h | h
  · rw [Bool.and_eq_true] at h
    have e := Nat.eq_of_beq_eq_true h.1
    subst e
    rw [ha] at hb
    cases hb
    have := ile_iff.mp h.2
    omega
  · split at h
    · next l u hs =>
      split at h
      · next l' u' hs' =>
        have h1 : l ≤ za ∧ za ≤ u := hE.2.2 _ _ _ hs ha
        have h2 : l' ≤ zb ∧ zb ≤ u' := hE.2.2 _ _ _ hs' hb
        have := ile_iff.mp h
        omega
      · cases h
    · cases h
theorem acst_of {W : aW} {E : List aY} {ρ : List Int} (hE : aE W E ρ) {t : aY} (ht : t ∈ E) (h4 : 4 ≤ t.1) : arl ρ (t.1 - 4) t.2.1.toNat t.2.2 := by
  obtain ⟨k, hk⟩ := List.getElem?_of_mem ht
  obtain ⟨z, -, h⟩ := hE.has hk
  obtain ⟨n, l, u⟩ := t
  match n, h4, h with
  | n + 4, _, h => exact h
theorem ale_ok {W : aW} {E : List aY} {ρ : List Int} (hE : aE W E ρ) : ∀ (n a b : Nat) (d za zb : Int), ale E n a b d = true → ρ[a]? = some za → ρ[b]? = some zb → za + d ≤ zb
  | 0, a, b, d, za, zb, h, ha, hb => abs0_ok hE h ha hb
  | n + 1, a, b, d, za, zb, h, ha, hb => by
    unfold ale at h
    rw [Bool.or_eq_true] at h
    rcases h with h | h
    · exact abs0_ok hE h ha hb
    · obtain ⟨t, t1, t2⟩ := List.any_eq_true.mp h
      cases hc : (Nat.ble 4 t.1 && Nat.beq (t.1 - 4) a) with
      | false => rw [hc] at t2; cases t2
      | true =>
        rw [hc] at t2
        rw [Bool.and_eq_true] at hc
        obtain ⟨z, z', z1, z2, z3⟩ := acst_of hE t1 (Nat.le_of_ble_eq_true hc.1)
        rw [Nat.eq_of_beq_eq_true hc.2, ha] at z1
        cases z1
        have := ale_ok hE n _ b _ z' zb t2 z2 hb
        omega
/-- a comparison that what is known rules out -/
def ainf (E : List aY) (s : Nat) (c : Int) (s' : Nat) (c' : Int) (cd : Jvm.ClassFile.Cond) : Bool := (anw E s c && anw E s' c') && (match cd with
  | .lt => ale E 4 s' s (c' - c)
  | .le => ale E 4 s' s (c' - c + 1)
  | .gt => ale E 4 s s' (c - c')
  | .ge => ale E 4 s s' (c - c' + 1)
  | .eq => ale E 4 s s' (c - c' + 1) || ale E 4 s' s (c' - c + 1)
  | .ne => false)
/-- the row that a comparison gives -/
def arow (s : Nat) (c : Int) (s' : Nat) (c' : Int) (cd : Jvm.ClassFile.Cond) (E : List aY) : List aY := bif (Nat.beq s 0 || (Nat.beq s' 0 || Nat.beq s s')) || !(anw E s c && anw E s' c') then E else (match cd with
  | .lt => E ++ [(s + 4, (s' : Int), c - c' + 1)]
  | .le => E ++ [(s + 4, (s' : Int), c - c')]
  | .gt => E ++ [(s' + 4, (s : Int), c' - c + 1)]
  | .ge => E ++ [(s' + 4, (s : Int), c' - c)]
  | _ => E)
theorem ainf_no {W : aW} {E : List aY} {ρ : List Int} {s s' : Nat} {c c' : Int} {cd : Jvm.ClassFile.Cond} {x y : Int32} (hE : aE W E ρ) (hx : ai ρ s c x) (hy : ai ρ s' c' y) (h : zicmp cd x y = true) : ainf E s c s' c' cd = false := by
  cases hb : ainf E s c s' c' cd with
  | false => rfl
  | true =>
    unfold ainf at hb
    rw [Bool.and_eq_true, Bool.and_eq_true] at hb
    obtain ⟨⟨n1, n2⟩, hb⟩ := hb
    obtain ⟨z, z1, z2⟩ := anw_ok hE n1 hx
    obtain ⟨w, w1, w2⟩ := anw_ok hE n2 hy
    cases cd with
    | lt =>
      have h1 := Int32.lt_iff_toInt_lt.mp (of_decide_eq_true (p := x < y) h)
      have := ale_ok hE _ _ _ _ _ _ hb w1 z1
      omega
    | le =>
      have h1 := Int32.le_iff_toInt_le.mp (of_decide_eq_true (p := x ≤ y) h)
      have := ale_ok hE _ _ _ _ _ _ hb w1 z1
      omega
    | gt =>
      have h1 := Int32.lt_iff_toInt_lt.mp (of_decide_eq_true (p := y < x) h)
      have := ale_ok hE _ _ _ _ _ _ hb z1 w1
      omega
    | ge =>
      have h1 := Int32.le_iff_toInt_le.mp (of_decide_eq_true (p := y ≤ x) h)
      have := ale_ok hE _ _ _ _ _ _ hb z1 w1
      omega
    | eq =>
      have h1 : x = y := of_decide_eq_true h
      subst h1
      have hb : (ale E 4 s s' (c - c' + 1) || ale E 4 s' s (c' - c + 1)) = true := hb
      rw [Bool.or_eq_true] at hb
      rcases hb with hb | hb
      · have := ale_ok hE _ _ _ _ _ _ hb z1 w1
        omega
      · have := ale_ok hE _ _ _ _ _ _ hb w1 z1
        omega
    | ne => cases hb
theorem arow_ok {W : aW} {E : List aY} {ρ : List Int} {s s' : Nat} {c c' : Int} {cd : Jvm.ClassFile.Cond} {x y : Int32} (hE : aE W E ρ) (hx : ai ρ s c x) (hy : ai ρ s' c' y) (h : zicmp cd x y = true) : ∃ ρ', aext ρ ρ' ∧ aE W (arow s c s' c' cd E) ρ' := by
  unfold arow
  cases hb : ((Nat.beq s 0 || (Nat.beq s' 0 || Nat.beq s s')) || !(anw E s c && anw E s' c')) with
  | true => exact ⟨ρ, aext.rf, hE⟩
  | false =>
    rw [Bool.or_eq_false_iff] at hb
    have hn : (anw E s c && anw E s' c') = true := by simpa using hb.2
    rw [Bool.and_eq_true] at hn
    obtain ⟨z, z1, z2⟩ := anw_ok hE hn.1 hx
    obtain ⟨w, w1, w2⟩ := anw_ok hE hn.2 hy
    have g1 : (ρ ++ [0])[s]? = some z := (aext.one 0).get z1
    have g2 : (ρ ++ [0])[s']? = some w := (aext.one 0).get w1
    dsimp only [cond_false]
    cases cd with
    | lt =>
      have h1 := Int32.lt_iff_toInt_lt.mp (of_decide_eq_true (p := x < y) h)
      exact ⟨_, aext.one 0, hE.pushK ⟨z, w, g1, by rw [Int.toNat_natCast]; exact g2, by omega⟩⟩
    | le =>
      have h1 := Int32.le_iff_toInt_le.mp (of_decide_eq_true (p := x ≤ y) h)
      exact ⟨_, aext.one 0, hE.pushK ⟨z, w, g1, by rw [Int.toNat_natCast]; exact g2, by omega⟩⟩
    | gt =>
      have h1 := Int32.lt_iff_toInt_lt.mp (of_decide_eq_true (p := y < x) h)
      exact ⟨_, aext.one 0, hE.pushK ⟨w, z, g2, by rw [Int.toNat_natCast]; exact g1, by omega⟩⟩
    | ge =>
      have h1 := Int32.le_iff_toInt_le.mp (of_decide_eq_true (p := y ≤ x) h)
      exact ⟨_, aext.one 0, hE.pushK ⟨w, z, g2, by rw [Int.toNat_natCast]; exact g1, by omega⟩⟩
    | eq => exact ⟨ρ, aext.rf, hE⟩
    | ne => exact ⟨ρ, aext.rf, hE⟩
/-- lower bounds along the rows -/
def aprp : List aY → List aY → List aY
  | [], E => E
  | t :: r, E => aprp r (bif Nat.ble 4 t.1 then (match E[t.1 - 4]? with
    | some (0, l, _) => match E[t.2.1.toNat]? with
      | some (0, l', u') => bif ile (l + t.2.2) l' then E else E.set t.2.1.toNat (0, l + t.2.2, u')
      | _ => E
    | _ => E) else E)
theorem aprp_ok {W : aW} {ρ : List Int} : ∀ (L E : List aY), (∀ t ∈ L, 4 ≤ t.1 → arl ρ (t.1 - 4) t.2.1.toNat t.2.2) → aE W E ρ → aE W (aprp L E) ρ
  | [], E, _, hE => hE
  | t :: r, E, h, hE => by
    unfold aprp
    refine aprp_ok r _ (fun t' ht' => h t' (List.mem_cons_of_mem _ ht')) ?_
    cases h4 : Nat.ble 4 t.1 with
    | false => exact hE
    | true =>
      dsimp only [cond_true]
      obtain ⟨z, z', z1, z2, z3⟩ := h t List.mem_cons_self (Nat.le_of_ble_eq_true h4)
      split
      · next l u hs =>
        split
        · next l' u' hs' =>
          cases hb : ile (l + t.2.2) l' with
          | true => exact hE
          | false =>
            have a1 : l ≤ z ∧ z ≤ u := hE.2.2 _ _ _ hs z1
            have a2 : l' ≤ z' ∧ z' ≤ u' := hE.2.2 _ _ _ hs' z2
            exact hE.set z2 ⟨by omega, a2.2⟩
        · exact hE
      · exact hE
theorem aprp_E {W : aW} {E : List aY} {ρ : List Int} (hE : aE W E ρ) : aE W (aprp E E) ρ := aprp_ok E E (fun t ht h4 => acst_of hE ht h4) hE
