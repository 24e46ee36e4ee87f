/-! Comparisons: ways with cut intervals. -/
/-- x c y, y in q: x lies in this one -/
def arg (c : Jvm.ClassFile.Cond) (q : Int × Int) : Int × Int := match c with
  | .eq => q
  | .ne => (-2147483648, 2147483647)
  | .lt => (-2147483648, q.2 - 1)
  | .le => (-2147483648, q.2)
  | .gt => (q.1 + 1, 2147483647)
  | .ge => (q.1, 2147483647)
def aflip : Jvm.ClassFile.Cond → Jvm.ClassFile.Cond
  | .eq => .eq
  | .ne => .ne
  | .lt => .gt
  | .gt => .lt
  | .le => .ge
  | .ge => .le
def aneg : Jvm.ClassFile.Cond → Jvm.ClassFile.Cond
  | .eq => .ne
  | .ne => .eq
  | .lt => .ge
  | .ge => .lt
  | .gt => .le
  | .le => .gt
theorem arg_ok {c : Jvm.ClassFile.Cond} {x y : Int32} {q : Int × Int} (h : zicmp c x y = true) (hy : q.1 ≤ y.toInt ∧ y.toInt ≤ q.2) : (arg c q).1 ≤ x.toInt ∧ x.toInt ≤ (arg c q).2 := by
  have hb := ab x
  cases c with
  | eq =>
    have h1 : x = y := of_decide_eq_true h
    subst h1
    exact hy
  | ne => exact hb
  | lt =>
    have h1 : x < y := of_decide_eq_true h
    have h2 := Int32.lt_iff_toInt_lt.mp h1
    exact ⟨hb.1, by show _ ≤ q.2 - 1; omega⟩
  | le =>
    have h1 : x ≤ y := of_decide_eq_true h
    have h2 := Int32.le_iff_toInt_le.mp h1
    exact ⟨hb.1, by show _ ≤ q.2; omega⟩
  | gt =>
    have h1 : y < x := of_decide_eq_true h
    have h2 := Int32.lt_iff_toInt_lt.mp h1
    exact ⟨by show q.1 + 1 ≤ _; omega, hb.2⟩
  | ge =>
    have h1 : y ≤ x := of_decide_eq_true h
    have h2 := Int32.le_iff_toInt_le.mp h1
    exact ⟨by show q.1 ≤ _; omega, hb.2⟩
theorem aflip_ok {c : Jvm.ClassFile.Cond} {x y : Int32} (h : zicmp c x y = true) : zicmp (aflip c) y x = true := by
  cases c with
  | eq => exact decide_eq_true (of_decide_eq_true h : x = y).symm
  | ne =>
    have h1 : (!decide (x = y)) = true := h
    show (!decide (y = x)) = true
    simp only [Bool.not_eq_true', decide_eq_false_iff_not] at h1 ⊢
    exact fun e => h1 e.symm
  | _ => exact h
theorem aneg_ok {c : Jvm.ClassFile.Cond} {x y : Int32} (h : zicmp c x y = false) : zicmp (aneg c) x y = true := by
  cases c with
  | eq =>
    show (!decide (x = y)) = true
    rw [show decide (x = y) = false from h]
    rfl
  | ne =>
    have h1 : (!decide (x = y)) = false := h
    show decide (x = y) = true
    simpa using h1
  | lt =>
    have h1 : ¬ x < y := of_decide_eq_false h
    show decide (y ≤ x) = true
    exact decide_eq_true (Int32.le_iff_toInt_le.mpr (by have := mt Int32.lt_iff_toInt_lt.mpr h1; omega))
  | ge =>
    have h1 : ¬ y ≤ x := of_decide_eq_false h
    show decide (x < y) = true
    exact decide_eq_true (Int32.lt_iff_toInt_lt.mpr (by have := mt Int32.le_iff_toInt_le.mpr h1; omega))
  | gt =>
    have h1 : ¬ y < x := of_decide_eq_false h
    show decide (x ≤ y) = true
    exact decide_eq_true (Int32.le_iff_toInt_le.mpr (by have := mt Int32.lt_iff_toInt_lt.mpr h1; omega))
  | le =>
    have h1 : ¬ x ≤ y := of_decide_eq_false h
    show decide (y < x) = true
    exact decide_eq_true (Int32.lt_iff_toInt_lt.mpr (by have := mt Int32.le_iff_toInt_le.mpr h1; omega))
/-- between these keys -/
def agap : Int → Int → List Int → List (Int × Int)
  | l, u, [] => if l ≤ u then [(l, u)] else []
  | l, u, k :: ks => (if l ≤ min (k - 1) u then [(l, min (k - 1) u)] else []) ++ agap (max l (k + 1)) u ks
theorem agap_ok : ∀ (ks : List Int) (l u x : Int), l ≤ x → x ≤ u → x ∉ ks → ∃ g ∈ agap l u ks, g.1 ≤ x ∧ x ≤ g.2
  | [], l, u, x, h1, h2, _ => ⟨(l, u), by unfold agap; rw [if_pos (by omega)]; exact List.mem_cons_self, h1, h2⟩
  | k :: ks, l, u, x, h1, h2, h3 => by
    have h4 : x ≠ k := fun e => h3 (by rw [e]; exact List.mem_cons_self)
    have h5 : x ∉ ks := fun e => h3 (List.mem_cons_of_mem _ e)
    unfold agap
    by_cases hx : x < k
    · refine ⟨(l, min (k - 1) u), List.mem_append_left _ ?_, h1, by show x ≤ min (k - 1) u; omega⟩
      rw [if_pos (by omega)]
      exact List.mem_cons_self
    · obtain ⟨g, m, hg⟩ := agap_ok ks (max l (k + 1)) u x (by omega) h2 h5
      exact ⟨g, List.mem_append_right _ m, hg⟩
def arange (lo : Int) (n : Nat) : List Int := (List.range n).map (fun j : Nat => lo + (j : Int))
theorem arange_mem {lo x : Int} {n : Nat} (h1 : lo ≤ x) (h2 : x < lo + n) : x ∈ arange lo n := List.mem_map.mpr ⟨(x - lo).toNat, List.mem_range.mpr (by omega), by omega⟩
theorem arange_of {lo x : Int} {n : Nat} (h : x ∈ arange lo n) : lo ≤ x ∧ x < lo + n := by
  obtain ⟨j, hj, e⟩ := List.mem_map.mp h
  have := List.mem_range.mp hj
  omega
abbrev aCnd : Type := Jvm.ClassFile.Cond
/-- what is known, and how it stands to a state of the machine -/
def aRel (W : aW) (G : aG) (D : List aD) (h0 : zH) (ρ : List Int) (S : aS) (cl : zL) (cst : List Value) (h : zH) : Prop := aE W S.1 ρ ∧ aLo ρ S.2.1 cl ∧ aSt ρ S.2.2.1 cst ∧ aH W G ρ S.2.2.2 h ∧ aF W G ρ D h0 h
def acut (E : List aY) (s : Nat) (c : Int) (q : Int × Int) : Option (List aY) := bif anw E s c then (match E[s]? with
  | some (0, l, u) => bif ile (imx l (q.1 - c)) (imn u (q.2 - c)) then some (E.set s (0, imx l (q.1 - c), imn u (q.2 - c))) else none
  | _ => some E) else some E
theorem acut_ok {W : aW} {E : List aY} {ρ : List Int} {s : Nat} {c : Int} {x : Int32} {q : Int × Int} (hE : aE W E ρ) (hx : ai ρ s c x) (hq : q.1 ≤ x.toInt ∧ x.toInt ≤ q.2) : ∃ E' : List aY, acut E s c q = some E' ∧ aE W E' ρ := by
  unfold acut
  cases hn : anw E s c with
  | false => exact ⟨E, rfl, hE⟩
  | true =>
    obtain ⟨z, h1, h2⟩ := anw_ok hE hn hx
    dsimp only [cond_true]
    split
    · next l u hs =>
      have h3 : l ≤ z ∧ z ≤ u := hE.2.2 _ _ _ hs h1
      rw [imx_eq, imn_eq, ile_iff.mpr (by omega)]
      exact ⟨_, rfl, hE.set h1 ⟨by omega, by omega⟩⟩
    · exact ⟨E, rfl, hE⟩
def abr1 (E : List aY) (s : Nat) (c : Int) (s' : Nat) (c' : Int) (cd : aCnd) : List (List aY) := match aiv E s c with
  | none => []
  | some p => match aiv E s' c' with
    | none => []
    | some q => match acut E s c (arg cd q) with
      | none => []
      | some E1 => match acut E1 s' c' (arg (aflip cd) p) with
        | none => []
        | some E2 => [E2]
theorem abr1_ok {W : aW} {E : List aY} {ρ : List Int} {s s' : Nat} {c c' : Int} {cd : aCnd} {x y : Int32} {p q : Int × Int} (hE : aE W E ρ) (hp : aiv E s c = some p) (hq : aiv E s' c' = some q) (hx : ai ρ s c x) (hy : ai ρ s' c' y) (h : zicmp cd x y = true) : ∃ E' ∈ abr1 E s c s' c' cd, aE W E' ρ := by
  obtain ⟨E1, g1, G1⟩ := acut_ok hE hx (arg_ok h (aiv_in hE hq hy))
  obtain ⟨E2, g2, G2⟩ := acut_ok G1 hy (arg_ok (aflip_ok h) (aiv_in hE hp hx))
  refine ⟨E2, ?_, G2⟩
  unfold abr1
  rw [hp, hq]
  dsimp only
  rw [g1]
  dsimp only
  rw [g2]
  exact List.mem_cons_self
/-- of two with the same symbol -/
def acmc (cd : aCnd) (a b : Int) : Bool := match cd with
  | .eq => ieq a b
  | .ne => !ieq a b
  | .lt => !ile b a
  | .ge => ile b a
  | .gt => !ile a b
  | .le => ile a b
def asame (E : List aY) (s : Nat) (c : Int) (s' : Nat) (c' : Int) (cd : aCnd) : Option Bool := bif Nat.beq s s' then (bif anw E s c && anw E s c' then some (acmc cd c c') else (match cd with
  | .eq => bif ieq c c' then some true else (bif !ile (c - c') (-4294967296) && !ile 4294967296 (c - c') then some false else none)
  | .ne => bif ieq c c' then some false else (bif !ile (c - c') (-4294967296) && !ile 4294967296 (c - c') then some true else none)
  | _ => none)) else none
theorem ieq_f {a b : Int} (h : ieq a b = false) : a ≠ b := fun e => by rw [e, ieq_rf] at h; cases h
theorem acmc_ok {cd : aCnd} {x y : Int32} {z a b : Int} (hx : x.toInt = z + a) (hy : y.toInt = z + b) : zicmp cd x y = acmc cd a b := by
  have he : (x = y) ↔ a = b := by
    rw [← Int32.toInt_inj, hx, hy]
    omega
  have hq : ieq a b = decide (a = b) := by
    cases hb : ieq a b with
    | true => rw [decide_eq_true (ieq_ok hb)]
    | false => rw [decide_eq_false (ieq_f hb)]
  have hl : ∀ p q : Int, ile p q = decide (p ≤ q) := fun p q => by
    cases hb : ile p q with
    | true => rw [decide_eq_true (ile_iff.mp hb)]
    | false => rw [decide_eq_false (by have := ile_f hb; omega)]
  have h1 : (x < y) ↔ a < b := by rw [Int32.lt_iff_toInt_lt, hx, hy]; omega
  have h2 : (x ≤ y) ↔ a ≤ b := by rw [Int32.le_iff_toInt_le, hx, hy]; omega
  have h3 : (y < x) ↔ b < a := by rw [Int32.lt_iff_toInt_lt, hx, hy]; omega
  have h4 : (y ≤ x) ↔ b ≤ a := by rw [Int32.le_iff_toInt_le, hx, hy]; omega
  cases cd with
  | eq =>
    show decide (x = y) = ieq a b
    rw [hq]
    by_cases q : a = b
    · rw [decide_eq_true (he.mpr q), decide_eq_true q]
    · rw [decide_eq_false (fun w => q (he.mp w)), decide_eq_false q]
  | ne =>
    show (!decide (x = y)) = !ieq a b
    rw [hq]
    by_cases q : a = b
    · rw [decide_eq_true (he.mpr q), decide_eq_true q]
    · rw [decide_eq_false (fun w => q (he.mp w)), decide_eq_false q]
  | lt =>
    show decide (x < y) = !ile b a
    rw [hl]
    by_cases q : a < b
    · rw [decide_eq_true (h1.mpr q), decide_eq_false (p := b ≤ a) (by omega)]; rfl
    · rw [decide_eq_false (fun w => q (h1.mp w)), decide_eq_true (p := b ≤ a) (by omega)]; rfl
  | ge =>
    show decide (y ≤ x) = ile b a
    rw [hl]
    by_cases q : b ≤ a
    · rw [decide_eq_true (h4.mpr q), decide_eq_true q]
    · rw [decide_eq_false (fun w => q (h4.mp w)), decide_eq_false q]
  | gt =>
    show decide (y < x) = !ile a b
    rw [hl]
    by_cases q : b < a
    · rw [decide_eq_true (h3.mpr q), decide_eq_false (p := a ≤ b) (by omega)]; rfl
    · rw [decide_eq_false (fun w => q (h3.mp w)), decide_eq_true (p := a ≤ b) (by omega)]; rfl
  | le =>
    show decide (x ≤ y) = ile a b
    rw [hl]
    by_cases q : a ≤ b
    · rw [decide_eq_true (h2.mpr q), decide_eq_true q]
    · rw [decide_eq_false (fun w => q (h2.mp w)), decide_eq_false q]
theorem aofI {a b : Int} (h : Int32.ofInt a = Int32.ofInt b) : ∃ k : Int, a = b + 4294967296 * k := by
  have h1 := congrArg Int32.toInt h
  rw [Int32.toInt_ofInt, Int32.toInt_ofInt] at h1
  have h2 : a % 4294967296 = b % 4294967296 := by
    have h3 : a.bmod 4294967296 = b.bmod 4294967296 := h1
    have g1 : (a.bmod 4294967296) % ((4294967296 : Nat) : Int) = a % ((4294967296 : Nat) : Int) := Int.bmod_emod
    have g2 : (b.bmod 4294967296) % ((4294967296 : Nat) : Int) = b % ((4294967296 : Nat) : Int) := Int.bmod_emod
    rw [h3, g2] at g1
    exact g1.symm
  exact ⟨a / 4294967296 - b / 4294967296, by omega⟩
theorem asame_ok {W : aW} {E : List aY} {ρ : List Int} {s s' : Nat} {c c' : Int} {cd : aCnd} {x y : Int32} {b : Bool} (hE : aE W E ρ) (h : asame E s c s' c' cd = some b) (hx : ai ρ s c x) (hy : ai ρ s' c' y) : zicmp cd x y = b := by
  unfold asame at h
  cases hs : Nat.beq s s' with
  | false => rw [hs] at h; cases h
  | true =>
    rw [hs] at h
    have e := Nat.eq_of_beq_eq_true hs
    subst e
    cases hn : (anw E s c && anw E s c') with
    | true =>
      rw [hn] at h
      cases h
      rw [Bool.and_eq_true] at hn
      obtain ⟨z, g1, g2⟩ := anw_ok hE hn.1 hx
      obtain ⟨w, g3, g4⟩ := anw_ok hE hn.2 hy
      rw [g1] at g3
      cases g3
      exact acmc_ok g2 g4
    | false =>
      rw [hn] at h
      obtain ⟨z, g1, g2⟩ := hx
      obtain ⟨w, g3, g4⟩ := hy
      rw [g1] at g3
      cases g3
      have hne : ieq c c' = false → (!ile (c - c') (-4294967296) && !ile 4294967296 (c - c')) = true → x ≠ y := fun q1 q2 e => by
        rw [g2, g4] at e
        obtain ⟨k, hk⟩ := aofI e
        simp only [Bool.and_eq_true, Bool.not_eq_true'] at q2
        have q3 := ile_f q2.1
        have q4 := ile_f q2.2
        have q5 := ieq_f q1
        omega
      have heq : ieq c c' = true → x = y := fun q => by rw [g2, g4, ieq_ok q]
      cases cd with
      | eq =>
        show decide (x = y) = b
        cases hq : ieq c c' with
        | true =>
          dsimp only [cond_true, cond_false] at h
          rw [hq] at h
          cases h
          exact decide_eq_true (heq hq)
        | false =>
          dsimp only [cond_true, cond_false] at h
          rw [hq] at h
          cases hr : (!ile (c - c') (-4294967296) && !ile 4294967296 (c - c')) with
          | true =>
            dsimp only [cond_true, cond_false] at h
            rw [hr] at h
            cases h
            exact decide_eq_false (hne hq hr)
          | false =>
            dsimp only [cond_true, cond_false] at h
            rw [hr] at h
            cases h
      | ne =>
        show (!decide (x = y)) = b
        cases hq : ieq c c' with
        | true =>
          dsimp only [cond_true, cond_false] at h
          rw [hq] at h
          cases h
          rw [decide_eq_true (heq hq)]
          rfl
        | false =>
          dsimp only [cond_true, cond_false] at h
          rw [hq] at h
          cases hr : (!ile (c - c') (-4294967296) && !ile 4294967296 (c - c')) with
          | true =>
            dsimp only [cond_true, cond_false] at h
            rw [hr] at h
            cases h
            rw [decide_eq_false (hne hq hr)]
            rfl
          | false =>
            dsimp only [cond_true, cond_false] at h
            rw [hr] at h
            cases h
      | _ => cases h
/-- symbol b is symbol a plus d -/
def asv (b a : Nat) (d : Int) (v : aV) : aV := match v with
  | .inl (s, c) => bif Nat.beq s b then .inl (a, c + d) else .inl (s, c)
  | v => v
def ask (b a : Nat) (d : Int) (q : aK) : aK := bif Nat.beq q.2.1 b then (q.1, a, q.2.2 + d) else q
def asS (b a : Nat) (d : Int) (S : aS) : aS := (S.1, S.2.1.map (fun p => (p.1, asv b a d p.2)), S.2.2.1.map (asv b a d), S.2.2.2.map (fun e => (ask b a d e.1, asv b a d e.2)))
def asub (ρ : List Int) (b a : Nat) (d : Int) : Prop := ∀ (c : Int) (x : Int32), ai ρ b c x → ai ρ a (c + d) x
theorem asub_of {ρ : List Int} {a b : Nat} {ca cb : Int} {x : Int32} (ha : ai ρ a ca x) (hb : ai ρ b cb x) : asub ρ b a (ca - cb) := fun c y hy => by
  obtain ⟨za, a1, a2⟩ := ha
  obtain ⟨zb, b1, b2⟩ := hb
  obtain ⟨zy, y1, y2⟩ := hy
  rw [b1] at y1
  cases y1
  refine ⟨za, a1, ?_⟩
  rw [y2, show zb + c = (zb + cb) + (c - cb) by omega, Int32.ofInt_add, ← b2, a2, ← Int32.ofInt_add]
  congr 1
  omega
theorem asv_ok {ρ : List Int} {b a : Nat} {d : Int} (hs : asub ρ b a d) {v : aV} {w : Value} (h : av ρ v w) : av ρ (asv b a d v) w := by
  rcases v with ⟨s, c⟩ | s | s | k
  · show av ρ (bif Nat.beq s b then .inl (a, c + d) else .inl (s, c)) w
    cases hb : Nat.beq s b with
    | false => exact h
    | true =>
      have e := Nat.eq_of_beq_eq_true hb
      subst e
      obtain ⟨x, h1, h2⟩ := h
      exact ⟨x, hs _ _ h1, h2⟩
  · exact h
  · exact h
  · exact h
theorem ask_ok {ρ : List Int} {b a : Nat} {d : Int} (hs : asub ρ b a d) {q : aK} {i k : Nat} (h : aden ρ q i k) : aden ρ (ask b a d q) i k := by
  unfold ask
  cases hb : Nat.beq q.2.1 b with
  | false => exact h
  | true =>
    obtain ⟨h1, x, h2, h3⟩ := h
    rw [Nat.eq_of_beq_eq_true hb] at h2
    exact ⟨h1, x, hs _ _ h2, h3⟩
theorem asSt_ok {ρ : List Int} {b a : Nat} {d : Int} (hs : asub ρ b a d) : ∀ {st : List aV} {cst : List Value}, aSt ρ st cst → aSt ρ (st.map (asv b a d)) cst
  | [], _, h => h
  | _ :: _, _, ⟨w, ws, e, h1, h2⟩ => ⟨w, ws, e, asv_ok hs h1, asSt_ok hs h2⟩
theorem asS_ok {W : aW} {G : aG} {D : List aD} {h0 : zH} {ρ : List Int} {b a : Nat} {d : Int} (hs : asub ρ b a d) {S : aS} {cl : zL} {cst : List Value} {h : zH} (hR : aRel W G D h0 ρ S cl cst h) : aRel W G D h0 ρ (asS b a d S) cl cst h := by
  obtain ⟨r1, r2, r3, ⟨q1, q2, q3⟩, r5⟩ := hR
  refine ⟨r1, fun p hp => ?_, asSt_ok hs r3, ⟨q1, fun i k hi hk => ?_, fun e he => ?_⟩, r5⟩
  · obtain ⟨p', hp', rfl⟩ := List.mem_map.mp hp
    obtain ⟨v, g1, g2⟩ := r2 p' hp'
    exact ⟨v, g1, asv_ok hs g2⟩
  · obtain ⟨v, g1, g2⟩ := q2 i k hi hk
    refine ⟨v, g1, ?_⟩
    rcases g2 with g2 | ⟨e, he, g2⟩
    · exact Or.inl g2
    · exact Or.inr ⟨_, List.mem_map.mpr ⟨e, he, rfl⟩, ask_ok hs g2⟩
  · obtain ⟨e', he', rfl⟩ := List.mem_map.mp he
    obtain ⟨i, k, v, g1, g2, g3, g4, g5⟩ := q3 e' he'
    exact ⟨i, k, v, ask_ok hs g1, g2, g3, g4, asv_ok hs g5⟩
/-- one way, with its row, if it can be -/
def abr2 (E : List aY) (s : Nat) (c : Int) (s' : Nat) (c' : Int) (cd : aCnd) : List (List aY) := bif ainf E s c s' c' cd then [] else (abr1 E s c s' c' cd).map (arow s c s' c' cd)
theorem abr2_ok {W : aW} {E : List aY} {ρ : List Int} {s s' : Nat} {c c' : Int} {cd : aCnd} {x y : Int32} {p q : Int × Int} (hE : aE W E ρ) (hp : aiv E s c = some p) (hq : aiv E s' c' = some q) (hx : ai ρ s c x) (hy : ai ρ s' c' y) (h : zicmp cd x y = true) : ∃ E' ∈ abr2 E s c s' c' cd, ∃ ρ', aext ρ ρ' ∧ aE W E' ρ' := by
  obtain ⟨E', g1, g2⟩ := abr1_ok hE hp hq hx hy h
  obtain ⟨ρ', x1, x2⟩ := arow_ok g2 hx hy h
  refine ⟨_, ?_, ρ', x1, x2⟩
  unfold abr2
  rw [ainf_no hE hx hy h]
  exact List.mem_map.mpr ⟨E', g1, rfl⟩
/-- ways of a comparison that holds -/
def aeqS (s : Nat) (c : Int) (s' : Nat) (c' : Int) (S : aS) : aS := bif Nat.beq s 0 || (Nat.beq s' 0 || Nat.beq s s') then S else (bif Nat.ble s s' then asS s' s (c - c') S else asS s s' (c' - c) S)
def abrs (S : aS) (s : Nat) (c : Int) (s' : Nat) (c' : Int) (cd : aCnd) : List aS := match asame S.1 s c s' c' cd with
  | some true => [S]
  | some false => []
  | none => match cd with
    | .ne => (abr2 S.1 s c s' c' .lt ++ abr2 S.1 s c s' c' .gt).map (fun E => (E, S.2))
    | .eq => (abr2 S.1 s c s' c' .eq).map (fun E => aeqS s c s' c' (E, S.2))
    | cd => (abr2 S.1 s c s' c' cd).map (fun E => (E, S.2))
theorem abrs_ok {W : aW} {G : aG} {D : List aD} {h0 : zH} {ρ : List Int} {S : aS} {cl : zL} {cst : List Value} {h : zH} {s s' : Nat} {c c' : Int} {cd : aCnd} {x y : Int32} {p q : Int × Int} (hR : aRel W G D h0 ρ S cl cst h) (hp : aiv S.1 s c = some p) (hq : aiv S.1 s' c' = some q) (hx : ai ρ s c x) (hy : ai ρ s' c' y) (hc : zicmp cd x y = true) : ∃ S' ∈ abrs S s c s' c' cd, ∃ ρ', aext ρ ρ' ∧ aRel W G D h0 ρ' S' cl cst h := by
  have hE := hR.1
  have one : ∀ cd' : aCnd, zicmp cd' x y = true → ∃ E' ∈ abr2 S.1 s c s' c' cd', ∃ ρ', aext ρ ρ' ∧ aRel W G D h0 ρ' (E', S.2) cl cst h := fun cd' h' => by
    obtain ⟨E', g1, ρ', x1, g2⟩ := abr2_ok (cd := cd') hE hp hq hx hy h'
    exact ⟨E', g1, ρ', x1, g2, hR.2.1.ext x1, hR.2.2.1.ext x1, hR.2.2.2.1.ext x1, hR.2.2.2.2.ext x1⟩
  unfold abrs
  split
  · exact ⟨S, List.mem_cons_self, ρ, aext.rf, hR⟩
  · next hs => rw [asame_ok hE hs hx hy] at hc; cases hc
  · split
    · have h1 : (!decide (x = y)) = true := hc
      have h2 : ¬ x = y := by simpa using h1
      by_cases hlt : x < y
      · obtain ⟨E', m, g⟩ := one .lt (decide_eq_true hlt)
        exact ⟨_, List.mem_map.mpr ⟨E', List.mem_append_left _ m, rfl⟩, g⟩
      · have hgt : y < x := Int32.lt_iff_toInt_lt.mpr (by
          have h3 := mt Int32.lt_iff_toInt_lt.mpr hlt
          have h4 : x.toInt ≠ y.toInt := fun e => h2 (Int32.toInt_inj.mp e)
          omega)
        obtain ⟨E', m, g⟩ := one .gt (decide_eq_true hgt)
        exact ⟨_, List.mem_map.mpr ⟨E', List.mem_append_right _ m, rfl⟩, g⟩
    · obtain ⟨E', m, g⟩ := one .eq hc
      obtain ⟨ρ', x1, g⟩ := g
      refine ⟨_, List.mem_map.mpr ⟨E', m, rfl⟩, ρ', x1, ?_⟩
      have e : x = y := of_decide_eq_true hc
      subst e
      unfold aeqS
      cases Nat.beq s 0 || (Nat.beq s' 0 || Nat.beq s s') with
      | true => exact g
      | false =>
        dsimp only [cond_false]
        cases Nat.ble s s' with
        | true => exact asS_ok (asub_of (hx.ext x1) (hy.ext x1)) g
        | false => exact asS_ok (asub_of (hy.ext x1) (hx.ext x1)) g
    · obtain ⟨E', m, g⟩ := one _ hc
      exact ⟨_, List.mem_map.mpr ⟨E', m, rfl⟩, g⟩
