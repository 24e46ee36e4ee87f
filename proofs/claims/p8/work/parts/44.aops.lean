/-! Arithmetic on intervals. -/
def aFI : aY := (0, -2147483648, 2147483647)
def aFL : aY := (1, -9223372036854775808, 9223372036854775807)
def acl (l u : Int) : aY := bif iin l u aX then (0, l, u) else aFI
theorem aFI_ok {W : aW} (x : Int32) : asy W aFI x.toInt := ab x
theorem aFL_ok {W : aW} (x : Int64) : asy W aFL x.toInt := ⟨abl x, abl x⟩
/-- an int with this integer as its value modulo 2^32 lies in the clamped type -/
theorem acl_ok {W : aW} {l u z : Int} (h1 : l ≤ z) (h2 : z ≤ u) : asy W (acl l u) (Int32.ofInt z).toInt := by
  unfold acl
  cases hb : iin l u aX with
  | false => exact aFI_ok _
  | true =>
    have h := iin_ok hb
    have h3 : -2147483648 ≤ l := h.1
    have h4 : u ≤ 2147483647 := h.2
    show l ≤ _ ∧ _ ≤ u
    rw [ai32 (by omega) (by omega)]
    exact ⟨h1, h2⟩
/-- symbol and number for an int that is new -/
theorem anewi {W : aW} {E : List aY} {ρ : List Int} {t : aY} (hE : aE W E ρ) (x : Int32) (ht : asy W t x.toInt) : aE W (E ++ [t]) (ρ ++ [x.toInt]) ∧ ai (ρ ++ [x.toInt]) E.length 0 x := by
  refine ⟨hE.push ht, x.toInt, ?_, by rw [Int.add_zero, Int32.ofInt_toInt]⟩
  rw [← hE.1]
  exact anew_get _
theorem anewl {W : aW} {E : List aY} {ρ : List Int} {t : aY} (hE : aE W E ρ) (x : Int64) (ht : asy W t x.toInt) : aE W (E ++ [t]) (ρ ++ [x.toInt]) ∧ av (ρ ++ [x.toInt]) (.inr (.inl E.length)) (.long x) := by
  refine ⟨hE.push ht, x.toInt, ?_, by rw [Int64.ofInt_toInt]⟩
  rw [← hE.1]
  exact anew_get _
def imul4 (p q : Int × Int) : aY := acl (imn (imn (p.1 * q.1) (p.1 * q.2)) (imn (p.2 * q.1) (p.2 * q.2))) (imx (imx (p.1 * q.1) (p.1 * q.2)) (imx (p.2 * q.1) (p.2 * q.2)))
def aiand (p q : Int × Int) : aY := bif ile 0 q.1 then (0, 0, q.2) else (bif ile 0 p.1 then (0, 0, p.2) else aFI)
def aiop (i : Instr) (p q : Int × Int) : aY := match i with
  | .iadd => acl (p.1 + q.1) (p.2 + q.2)
  | .isub => acl (p.1 - q.2) (p.2 - q.1)
  | .imul => imul4 p q
  | .iand => aiand p q
  | _ => aFI
theorem amulb {l u m n x y : Int} (h1 : l ≤ x) (h2 : x ≤ u) (h3 : m ≤ y) (h4 : y ≤ n) : min (min (l * m) (l * n)) (min (u * m) (u * n)) ≤ x * y ∧ x * y ≤ max (max (l * m) (l * n)) (max (u * m) (u * n)) := by
  have key : ∀ {l u x y : Int}, l ≤ x → x ≤ u → (l * y ≤ x * y ∧ x * y ≤ u * y) ∨ (u * y ≤ x * y ∧ x * y ≤ l * y) := by
    intro l u x y h1 h2
    rcases Int.le_total 0 y with hy | hy
    · exact Or.inl ⟨Int.mul_le_mul_of_nonneg_right h1 hy, Int.mul_le_mul_of_nonneg_right h2 hy⟩
    · exact Or.inr ⟨Int.mul_le_mul_of_nonpos_right h2 hy, Int.mul_le_mul_of_nonpos_right h1 hy⟩
  have k1 := key (y := y) h1 h2
  have k2 := key (l := m) (u := n) (x := y) (y := l) h3 h4
  have k3 := key (l := m) (u := n) (x := y) (y := u) h3 h4
  rw [Int.mul_comm m l, Int.mul_comm y l, Int.mul_comm n l] at k2
  rw [Int.mul_comm m u, Int.mul_comm y u, Int.mul_comm n u] at k3
  omega
theorem aofadd (x y : Int32) : x + y = Int32.ofInt (x.toInt + y.toInt) := by rw [Int32.ofInt_add, Int32.ofInt_toInt, Int32.ofInt_toInt]
theorem aofsub (x y : Int32) : x - y = Int32.ofInt (x.toInt - y.toInt) := by rw [Int32.ofInt_sub, Int32.ofInt_toInt, Int32.ofInt_toInt]
theorem aofmul (x y : Int32) : x * y = Int32.ofInt (x.toInt * y.toInt) := by rw [Int32.ofInt_mul, Int32.ofInt_toInt, Int32.ofInt_toInt]
theorem aofneg (x : Int32) : -x = Int32.ofInt (-x.toInt) := by rw [Int32.ofInt_neg, Int32.ofInt_toInt]
theorem atonat {x : Int32} (h : 0 ≤ x.toInt) : x.toInt = (x.toBitVec.toNat : Int) := by
  have h1 : x.toInt = x.toBitVec.toInt := rfl
  rw [h1] at h ⊢
  rw [BitVec.toInt_eq_toNat_cond] at h ⊢
  split
  · rfl
  · next q =>
    rw [if_neg q] at h
    have := x.toBitVec.isLt
    omega
theorem aland {x y : Int32} (hy : 0 ≤ y.toInt) : 0 ≤ (x &&& y).toInt ∧ (x &&& y).toInt ≤ y.toInt ∧ (x &&& y).toInt = (Nat.land x.toBitVec.toNat y.toBitVec.toNat : Nat) := by
  have e : (x &&& y).toBitVec.toNat = Nat.land x.toBitVec.toNat y.toBitVec.toNat := by
    rw [Int32.toBitVec_and, BitVec.toNat_and]
    rfl
  have hl : Nat.land x.toBitVec.toNat y.toBitVec.toNat ≤ y.toBitVec.toNat := Nat.and_le_right
  have hy2 := atonat hy
  have hb : y.toBitVec.toNat < 2147483648 := by
    have := (ab y).2
    omega
  have h1 : (x &&& y).toInt = ((x &&& y).toBitVec.toNat : Int) := by
    have h2 : (x &&& y).toInt = (x &&& y).toBitVec.toInt := rfl
    rw [h2, BitVec.toInt_eq_toNat_cond, if_pos (by rw [e]; omega)]
  rw [h1, e]
  exact ⟨by omega, by omega, rfl⟩
theorem alandc (x y : Int32) : x &&& y = y &&& x := by
  apply Int32.toBitVec_inj.mp
  rw [Int32.toBitVec_and, Int32.toBitVec_and, BitVec.and_comm]
theorem aiand_ok {W : aW} {p q : Int × Int} {x y : Int32} (hx : p.1 ≤ x.toInt ∧ x.toInt ≤ p.2) (hy : q.1 ≤ y.toInt ∧ y.toInt ≤ q.2) : asy W (aiand p q) (x &&& y).toInt := by
  unfold aiand
  cases h1 : ile 0 q.1 with
  | true =>
    have h2 := ile_iff.mp h1
    have h3 := aland (x := x) (y := y) (by omega)
    exact ⟨h3.1, by omega⟩
  | false =>
    dsimp only [cond_false]
    cases h2 : ile 0 p.1 with
    | true =>
      have h2 := ile_iff.mp h2
      have h3 := aland (x := y) (y := x) (by omega)
      rw [alandc x y]
      exact ⟨h3.1, by omega⟩
    | false => exact aFI_ok _
def abn (i : Instr) (x y : Int32) : Int32 := match i with
  | .iadd => x + y
  | .isub => x - y
  | .imul => x * y
  | .iand => x &&& y
  | .ior => x ||| y
  | .ixor => x ^^^ y
  | .ishl => x <<< (y &&& 31)
  | .ishr => x >>> (y &&& 31)
  | _ => (x.toUInt32 >>> (y.toUInt32 &&& Int32.toUInt32 31)).toInt32
def aib (i : Instr) : Bool := match i with
  | .iadd | .isub | .imul | .iand | .ior | .ixor | .ishl | .ishr | .iushr => true
  | _ => false
theorem abn_st {X : zX} {i : Instr} (hb : aib i = true) (pc : Nat) (x y : Int32) (cl : zL) (cr : List Value) (ch : zH) : zstI X i pc cl (.int y :: .int x :: cr) ch = some (pc + 1, cl, .int (abn i x y) :: cr, ch) := by
  cases i with
  | iadd => rfl
  | isub => rfl
  | imul => rfl
  | iand => rfl
  | ior => rfl
  | ixor => rfl
  | ishl => rfl
  | ishr => rfl
  | iushr => rfl
  | _ => cases hb
theorem aiop_ok {W : aW} {i : Instr} {p q : Int × Int} {x y : Int32} (hx : p.1 ≤ x.toInt ∧ x.toInt ≤ p.2) (hy : q.1 ≤ y.toInt ∧ y.toInt ≤ q.2) : asy W (aiop i p q) (abn i x y).toInt := by
  cases i with
  | iadd =>
    show asy W (acl _ _) (x + y).toInt
    rw [aofadd]
    exact acl_ok (by omega) (by omega)
  | isub =>
    show asy W (acl _ _) (x - y).toInt
    rw [aofsub]
    exact acl_ok (by omega) (by omega)
  | imul =>
    show asy W (imul4 p q) (x * y).toInt
    rw [aofmul]
    have := amulb hx.1 hx.2 hy.1 hy.2
    unfold imul4
    rw [imn_eq, imn_eq, imn_eq, imx_eq, imx_eq, imx_eq]
    exact acl_ok this.1 this.2
  | iand => exact aiand_ok hx hy
  | _ => exact aFI_ok _
/-- a binary operation: types, and the value -/
def abin (i : Instr) (E : List aY) (s : Nat) (c : Int) (s' : Nat) (c' : Int) (p q : Int × Int) : List aY × aV :=
  bif ieq q.1 q.2 then (match i with
    | .iadd => (E, .inl (s, c + q.1))
    | .isub => (E, .inl (s, c - q.1))
    | .ishr => bif ieq q.1 0 then (E, .inl (s, c)) else (E ++ [aiop .ishr p q], .inl (E.length, 0))
    | .iand => bif ieq p.1 p.2 && (ile 0 p.1 && ile 0 q.1) then (E, .inl (0, Int.ofNat (Nat.land p.1.toNat q.1.toNat))) else (E ++ [aiop i p q], .inl (E.length, 0))
    | i => (E ++ [aiop i p q], .inl (E.length, 0)))
  else (bif ieq p.1 p.2 then (match i with
    | .iadd => (E, .inl (s', c' + p.1))
    | i => (E ++ [aiop i p q], .inl (E.length, 0)))
  else (E ++ [aiop i p q], .inl (E.length, 0)))
theorem ais {x : Int32} {q : Int × Int} (hq : ieq q.1 q.2 = true) (hx : q.1 ≤ x.toInt ∧ x.toInt ≤ q.2) : x = Int32.ofInt q.1 ∧ x.toInt = q.1 := by
  have e := ieq_ok hq
  have h : x.toInt = q.1 := by omega
  exact ⟨by rw [← h, Int32.ofInt_toInt], h⟩
theorem abin_ok {W : aW} {i : Instr} {E : List aY} {ρ : List Int} {s s' : Nat} {c c' : Int} {p q : Int × Int} {x y : Int32} (hE : aE W E ρ) (hp : aiv E s c = some p) (hq : aiv E s' c' = some q) (hx : ai ρ s c x) (hy : ai ρ s' c' y) : ∃ ρ', aext ρ ρ' ∧ aE W (abin i E s c s' c' p q).1 ρ' ∧ av ρ' (abin i E s c s' c' p q).2 (.int (abn i x y)) := by
  have ix := aiv_in hE hp hx
  have iy := aiv_in hE hq hy
  have fresh : ∃ ρ', aext ρ ρ' ∧ aE W (E ++ [aiop i p q]) ρ' ∧ av ρ' (.inl (E.length, 0)) (.int (abn i x y)) := by
    obtain ⟨g1, g2⟩ := anewi hE (abn i x y) (aiop_ok (i := i) ix iy)
    exact ⟨_, aext.one _, g1, _, g2, rfl⟩
  unfold abin
  cases h1 : ieq q.1 q.2 with
  | true =>
    obtain ⟨ey, ey2⟩ := ais h1 iy
    dsimp only [cond_true]
    split
    · exact ⟨ρ, aext.rf, hE, _, by rw [show abn .iadd x y = x + y from rfl, ey]; exact hx.add, rfl⟩
    · refine ⟨ρ, aext.rf, hE, _, ?_, rfl⟩
      rw [show abn .isub x y = x - y from rfl, ey, Int.sub_eq_add_neg]
      have h2 : x - Int32.ofInt q.1 = x + Int32.ofInt (-q.1) := by rw [Int32.ofInt_neg, Int32.sub_eq_add_neg]
      rw [h2]
      exact hx.add
    · cases h2 : ieq q.1 0 with
      | false => exact fresh
      | true =>
        refine ⟨ρ, aext.rf, hE, x, hx, ?_⟩
        rw [show abn .ishr x y = x >>> (y &&& 31) from rfl, ey, ieq_ok h2, show Int32.ofInt 0 &&& 31 = 0 by decide, Int32.shiftRight_zero]
    · cases h2 : (ieq p.1 p.2 && (ile 0 p.1 && ile 0 q.1)) with
      | false => exact fresh
      | true =>
        simp only [Bool.and_eq_true] at h2
        obtain ⟨h3, h4, h5⟩ := h2
        obtain ⟨ex, ex2⟩ := ais h3 ix
        have h4 := ile_iff.mp h4
        have h5 := ile_iff.mp h5
        refine ⟨ρ, aext.rf, hE, _, ?_, rfl⟩
        have h6 := (aland (x := x) (y := y) (by omega)).2.2
        have h7 := atonat (x := x) (by omega)
        have h8 := atonat (x := y) (by omega)
        have e1 : x.toBitVec.toNat = p.1.toNat := by omega
        have e2 : y.toBitVec.toNat = q.1.toNat := by omega
        rw [e1, e2] at h6
        have h9 : abn .iand x y = Int32.ofInt (Int.ofNat (Nat.land p.1.toNat q.1.toNat)) := by
          rw [show Int.ofNat (Nat.land p.1.toNat q.1.toNat) = (x &&& y).toInt from h6.symm, Int32.ofInt_toInt]
          rfl
        rw [h9]
        exact ai_c hE _
    · exact fresh
  | false =>
    dsimp only [cond_false]
    cases h2 : ieq p.1 p.2 with
    | true =>
      obtain ⟨ex, ex2⟩ := ais h2 ix
      dsimp only [cond_true]
      split
      · exact ⟨ρ, aext.rf, hE, _, by rw [show abn .iadd x y = x + y from rfl, ex, Int32.add_comm]; exact hy.add, rfl⟩
      · exact fresh
    | false => exact fresh
/-- the divisor isn't 0; what comes of it -/
def an0 (q : Int × Int) : Bool := !ile q.1 0 || !ile 0 q.2
theorem an0_ok {q : Int × Int} {y : Int32} (h : an0 q = true) (hy : q.1 ≤ y.toInt ∧ y.toInt ≤ q.2) : ¬ y = 0 := by
  intro e
  subst e
  have e0 : (0 : Int32).toInt = 0 := rfl
  rw [e0] at hy
  unfold an0 at h
  rw [Bool.or_eq_true] at h
  rcases h with h | h
  · have := ile_f (by simpa using h); omega
  · have := ile_f (by simpa using h); omega
def adv (p q : Int × Int) : aY := bif ieq q.1 q.2 && (ile 0 p.1 && !ile q.1 0) then (0, p.1 / q.1, p.2 / q.1) else aFI
def arm (p q : Int × Int) : aY := bif ile 0 p.1 && !ile q.1 0 then (0, 0, q.2 - 1) else aFI
theorem adiv_int {x y : Int32} (hx : 0 ≤ x.toInt) (hy : 0 < y.toInt) : (x / y).toInt = x.toInt / y.toInt := by
  have h1 := ab x
  have h2 : x.toInt / y.toInt ≤ x.toInt := Int.ediv_le_self _ hx
  have h3 : 0 ≤ x.toInt / y.toInt := Int.ediv_nonneg hx (by omega)
  rw [Int32.toInt_div, Int.tdiv_eq_ediv_of_nonneg hx]
  exact Int.bmod_eq_of_le (by omega) (by omega)
theorem adv_ok {W : aW} {p q : Int × Int} {x y : Int32} (hx : p.1 ≤ x.toInt ∧ x.toInt ≤ p.2) (hy : q.1 ≤ y.toInt ∧ y.toInt ≤ q.2) : asy W (adv p q) (x / y).toInt := by
  unfold adv
  cases hb : (ieq q.1 q.2 && (ile 0 p.1 && !ile q.1 0)) with
  | false => exact aFI_ok _
  | true =>
    simp only [Bool.and_eq_true, Bool.not_eq_true'] at hb
    obtain ⟨h1, h2, h3⟩ := hb
    obtain ⟨-, e⟩ := ais h1 hy
    have h2 := ile_iff.mp h2
    have h3 := ile_f h3
    rw [adiv_int (by omega) (by omega), e]
    exact ⟨Int.ediv_le_ediv h3 hx.1, Int.ediv_le_ediv h3 hx.2⟩
theorem arm_ok {W : aW} {p q : Int × Int} {x y : Int32} (hx : p.1 ≤ x.toInt ∧ x.toInt ≤ p.2) (hy : q.1 ≤ y.toInt ∧ y.toInt ≤ q.2) : asy W (arm p q) (x - x / y * y).toInt := by
  unfold arm
  cases hb : (ile 0 p.1 && !ile q.1 0) with
  | false => exact aFI_ok _
  | true =>
    simp only [Bool.and_eq_true, Bool.not_eq_true'] at hb
    have h2 := ile_iff.mp hb.1
    have h3 := ile_f hb.2
    have h4 := adiv_int (x := x) (y := y) (by omega) (by omega)
    rw [aofsub, aofmul, h4]
    have h5 := Int.emod_nonneg x.toInt (show y.toInt ≠ 0 by omega)
    have h6 := Int.emod_lt_of_pos x.toInt (show 0 < y.toInt by omega)
    have h7 : x.toInt - (Int32.ofInt (x.toInt / y.toInt * y.toInt)).toInt = x.toInt % y.toInt := by
      have h8 : x.toInt / y.toInt * y.toInt = x.toInt - x.toInt % y.toInt := by
        have := Int.mul_ediv_add_emod x.toInt y.toInt
        rw [Int.mul_comm] at this
        omega
      have h9 := ab x
      have h10 : 0 ≤ x.toInt / y.toInt * y.toInt := Int.mul_nonneg (Int.ediv_nonneg (by omega) (by omega)) (by omega)
      rw [h8] at h10
      rw [h8, ai32 (by omega) (by omega)]
      omega
    rw [h7, ai32 (by have := ab y; omega) (by have := ab y; omega)]
    exact ⟨h5, by omega⟩
