/-! Bits of a long counted byte by byte: what Long.bitCount answers. -/
def mk8 (v : Nat) : Nat → Nat
  | 0 => 0
  | n + 1 => v + 256 * mk8 v n
theorem and_cat {b h v m : Nat} (hb : b < 256) (hv : v < 256) : (b + 256 * h) &&& (v + 256 * m) = (b &&& v) + 256 * (h &&& m) := by
  have e1 : ((b + 256 * h) &&& (v + 256 * m)) % 2 ^ 8 = (b &&& v) := by
    rw [Nat.and_mod_two_pow, show (b + 256 * h) % 2 ^ 8 = b by omega, show (v + 256 * m) % 2 ^ 8 = v by omega]
  have e2 : ((b + 256 * h) &&& (v + 256 * m)) / 2 ^ 8 = (h &&& m) := by
    rw [Nat.and_div_two_pow, show (b + 256 * h) / 2 ^ 8 = h by omega, show (v + 256 * m) / 2 ^ 8 = m by omega]
  have e3 := Nat.div_add_mod ((b + 256 * h) &&& (v + 256 * m)) (2 ^ 8)
  rw [e1, e2] at e3
  rw [← e3, Nat.add_comm]
def A8 (n X : Nat) : Nat := X - ((X / 2) &&& mk8 85 n)
def B8 (n X : Nat) : Nat := (X &&& mk8 51 n) + ((X / 4) &&& mk8 51 n)
def C8 (n X : Nat) : Nat := (X + X / 16) &&& mk8 15 n
def A1 (b : Nat) : Nat := b - ((b / 2) &&& 85)
def B1 (l : Nat) : Nat := (l &&& 51) + ((l / 4) &&& 51)
def q8 (b : Nat) : Nat := (B1 (A1 b) + B1 (A1 b) / 16) &&& 15
theorem by1 : ∀ b : Nat, b < 256 → (∀ e : Nat, e < 2 → (b / 2 + 128 * e) &&& 85 = (b / 2) &&& 85) ∧ ((b / 2) &&& 85) ≤ b ∧ A1 b < 256 := by decide +kernel
theorem by2 : ∀ l : Nat, l < 256 → (∀ e : Nat, e < 4 → (l / 4 + 64 * e) &&& 51 = (l / 4) &&& 51) ∧ B1 l < 256 := by decide +kernel
theorem by3 : ∀ b : Nat, b < 256 → B1 (A1 b) ≤ 68 ∧ B1 (A1 b) % 16 ≤ 4 ∧ (∀ e : Nat, e < 5 → (B1 (A1 b) + B1 (A1 b) / 16 + 16 * e) &&& 15 = q8 b) ∧ q8 b ≤ 8 := by decide +kernel
theorem A_s {n b h : Nat} (hb : b < 256) : A8 (n + 1) (b + 256 * h) = A1 b + 256 * A8 n h := by
  obtain ⟨z1, z2, -⟩ := by1 b hb
  have e : (b + 256 * h) / 2 = (b / 2 + 128 * (h % 2)) + 256 * (h / 2) := by omega
  have hl : ((h / 2) &&& mk8 85 n) ≤ h := Nat.le_trans Nat.and_le_left (Nat.div_le_self h 2)
  have z3 := z1 (h % 2) (by omega)
  have e2 : ((b + 256 * h) / 2) &&& mk8 85 (n + 1) = ((b / 2) &&& 85) + 256 * ((h / 2) &&& mk8 85 n) := by
    rw [e, ← z3]
    exact and_cat (by omega) (by decide)
  unfold A8 A1
  rw [e2]
  omega
theorem B_s {n l h : Nat} (hl : l < 256) : B8 (n + 1) (l + 256 * h) = B1 l + 256 * B8 n h := by
  obtain ⟨z1, -⟩ := by2 l hl
  have e : (l + 256 * h) / 4 = (l / 4 + 64 * (h % 4)) + 256 * (h / 4) := by omega
  have z3 := z1 (h % 4) (by omega)
  have e1 : (l + 256 * h) &&& mk8 51 (n + 1) = (l &&& 51) + 256 * (h &&& mk8 51 n) := and_cat hl (by decide)
  have e2 : ((l + 256 * h) / 4) &&& mk8 51 (n + 1) = ((l / 4) &&& 51) + 256 * ((h / 4) &&& mk8 51 n) := by
    rw [e, ← z3]
    exact and_cat (by omega) (by decide)
  unfold B8 B1
  rw [e1, e2]
  omega
theorem C_s {n b h : Nat} (hb : b < 256) (hh : h % 16 ≤ 4) : C8 (n + 1) (B1 (A1 b) + 256 * h) = q8 b + 256 * C8 n h := by
  obtain ⟨z1, z2, z3, -⟩ := by3 b hb
  have e : B1 (A1 b) + 256 * h + (B1 (A1 b) + 256 * h) / 16 = (B1 (A1 b) + B1 (A1 b) / 16 + 16 * (h % 16)) + 256 * (h + h / 16) := by omega
  have z4 := z3 (h % 16) (by omega)
  unfold C8
  rw [e, ← z4]
  exact and_cat (by omega) (by decide)
def S8 : Nat → Nat → Nat
  | 0, _ => 0
  | n + 1, X => q8 (X % 256) + 256 * S8 n (X / 256)
theorem T_s : ∀ (n X : Nat), X < 256 ^ n → C8 n (B8 n (A8 n X)) = S8 n X ∧ B8 n (A8 n X) % 16 ≤ 4 := by
  intro n
  induction n with
  | zero =>
    intro X h
    have h1 : X < 1 := h
    have h0 : X = 0 := by omega
    rw [h0]
    decide +kernel
  | succ n ih =>
    intro X h
    rw [Nat.pow_succ, Nat.mul_comm] at h
    obtain ⟨i1, i2⟩ := ih (X / 256) (Nat.div_lt_of_lt_mul h)
    have e : X % 256 + 256 * (X / 256) = X := by omega
    have hb : X % 256 < 256 := by omega
    have e1 := A_s (n := n) (b := X % 256) (h := X / 256) hb
    rw [e] at e1
    have e2 := B_s (n := n) (l := A1 (X % 256)) (h := A8 n (X / 256)) (by1 _ hb).2.2
    rw [← e1] at e2
    have e3 := C_s (n := n) (b := X % 256) (h := B8 n (A8 n (X / 256))) hb i2
    rw [← e2, i1] at e3
    refine ⟨e3, ?_⟩
    rw [e2]
    have := (by3 _ hb).2.1
    omega
theorem f8_T {a T b B : Nat} (h : a ≤ 8) (hT : T = a + 256 * b) (hb : b ≤ B) : T ≤ 8 + 256 * B := by omega
theorem f8_U {a b T S R U V : Nat} (hT : T = a + 256 * S) (hS : S = b + 256 * R) (hU : U = T + S) (hV : V = S + R) : U = (a + b) + 256 * V := by omega
theorem f8_d {c T a : Nat} (h : a ≤ 8) (hc : c = a + 256 * T) : c / 256 = T := by omega
theorem f8_e {U0 U1 U2 p0 p1 : Nat} (h0 : U0 = p0 + 256 * U1) (h1 : U1 = p1 + 256 * U2) (b0 : p0 ≤ 16) (b1 : p1 ≤ 16) : U0 / 65536 = U2 := by omega
theorem f8_V {p q U W U2 W2 V Y : Nat} (h1 : U = p + 256 * W) (h2 : U2 = q + 256 * W2) (hV : V = U + U2) (hY : Y = W + W2) : V = (p + q) + 256 * Y := by omega
theorem f8_f {V0 V1 V2 V3 V4 s0 s1 s2 s3 : Nat} (h0 : V0 = s0 + 256 * V1) (h1 : V1 = s1 + 256 * V2) (h2 : V2 = s2 + 256 * V3) (h3 : V3 = s3 + 256 * V4) (b0 : s0 ≤ 32) (b1 : s1 ≤ 32) (b2 : s2 ≤ 32) (b3 : s3 ≤ 32) : V0 / 4294967296 = V4 := by omega
theorem f8_b {T0 T1 T2 T3 T4 T5 T6 T7 U0 U2 U4 U6 V0 V4 : Nat} (b0 : T0 ≤ 578721382704613384) (b1 : T1 ≤ 2260630401189896) (b2 : T2 ≤ 8830587504648) (b3 : T3 ≤ 34494482440) (b4 : T4 ≤ 134744072) (b5 : T5 ≤ 526344) (b6 : T6 ≤ 2056) (b7 : T7 ≤ 8) (u0 : U0 = T0 + T1) (u2 : U2 = T2 + T3) (u4 : U4 = T4 + T5) (u6 : U6 = T6 + T7) (v0 : V0 = U0 + U2) (v4 : V4 = U4 + U6) : V0 + V4 < 18446744073709551616 := by omega
theorem f8_m {V0 V4 V1 V5 s0 s4 S : Nat} (h0 : V0 = s0 + 256 * V1) (h4 : V4 = s4 + 256 * V5) (hS : S = s0 + s4) (b : S ≤ 64) : (V0 + V4) % 128 = S := by omega
theorem f8_p {a b : Nat} (h : a ≤ 8) (h2 : b ≤ 8) : a + b ≤ 16 := by omega
theorem f8_q {a b : Nat} (h : a ≤ 16) (h2 : b ≤ 16) : a + b ≤ 32 := by omega
theorem f8_s {a0 a1 a2 a3 a4 a5 a6 a7 : Nat} (h0 : a0 ≤ 8) (h1 : a1 ≤ 8) (h2 : a2 ≤ 8) (h3 : a3 ≤ 8) (h4 : a4 ≤ 8) (h5 : a5 ≤ 8) (h6 : a6 ≤ 8) (h7 : a7 ≤ 8) : a0 + a1 + a2 + a3 + a4 + a5 + a6 + a7 = (a0 + a1 + (a2 + a3)) + (a4 + a5 + (a6 + a7)) ∧ a0 + a1 + a2 + a3 + a4 + a5 + a6 + a7 ≤ 64 := by omega
theorem fold8 {a0 a1 a2 a3 a4 a5 a6 a7 c d e f : Nat} (h0 : a0 ≤ 8) (h1 : a1 ≤ 8) (h2 : a2 ≤ 8) (h3 : a3 ≤ 8) (h4 : a4 ≤ 8) (h5 : a5 ≤ 8) (h6 : a6 ≤ 8) (h7 : a7 ≤ 8) (hc : c = a0 + 256 * (a1 + 256 * (a2 + 256 * (a3 + 256 * (a4 + 256 * (a5 + 256 * (a6 + 256 * (a7 + 256 * 0)))))))) (hd : d = c + c / 256) (he : e = d + d / 65536) (hf : f = e + e / 4294967296) : f < 18446744073709551616 ∧ f % 128 = a0 + a1 + a2 + a3 + a4 + a5 + a6 + a7 := by
  obtain ⟨T7, t7⟩ : ∃ T : Nat, T = a7 + 256 * 0 := ⟨_, rfl⟩
  obtain ⟨T6, t6⟩ : ∃ T : Nat, T = a6 + 256 * T7 := ⟨_, rfl⟩
  obtain ⟨T5, t5⟩ : ∃ T : Nat, T = a5 + 256 * T6 := ⟨_, rfl⟩
  obtain ⟨T4, t4⟩ : ∃ T : Nat, T = a4 + 256 * T5 := ⟨_, rfl⟩
  obtain ⟨T3, t3⟩ : ∃ T : Nat, T = a3 + 256 * T4 := ⟨_, rfl⟩
  obtain ⟨T2, t2⟩ : ∃ T : Nat, T = a2 + 256 * T3 := ⟨_, rfl⟩
  obtain ⟨T1, t1⟩ : ∃ T : Nat, T = a1 + 256 * T2 := ⟨_, rfl⟩
  have t0 : c = a0 + 256 * T1 := by rw [hc, t1, t2, t3, t4, t5, t6, t7]
  have b7 : T7 ≤ 8 := by rw [t7]; exact h7
  have b6 : T6 ≤ 2056 := f8_T h6 t6 b7
  have b5 : T5 ≤ 526344 := f8_T h5 t5 b6
  have b4 : T4 ≤ 134744072 := f8_T h4 t4 b5
  have b3 : T3 ≤ 34494482440 := f8_T h3 t3 b4
  have b2 : T2 ≤ 8830587504648 := f8_T h2 t2 b3
  have b1 : T1 ≤ 2260630401189896 := f8_T h1 t1 b2
  have b0 : c ≤ 578721382704613384 := f8_T h0 t0 b1
  obtain ⟨U0, u0⟩ : ∃ U : Nat, U = c + T1 := ⟨_, rfl⟩
  obtain ⟨U1, u1⟩ : ∃ U : Nat, U = T1 + T2 := ⟨_, rfl⟩
  obtain ⟨U2, u2⟩ : ∃ U : Nat, U = T2 + T3 := ⟨_, rfl⟩
  obtain ⟨U3, u3⟩ : ∃ U : Nat, U = T3 + T4 := ⟨_, rfl⟩
  obtain ⟨U4, u4⟩ : ∃ U : Nat, U = T4 + T5 := ⟨_, rfl⟩
  obtain ⟨U5, u5⟩ : ∃ U : Nat, U = T5 + T6 := ⟨_, rfl⟩
  obtain ⟨U6, u6⟩ : ∃ U : Nat, U = T6 + T7 := ⟨_, rfl⟩
  obtain ⟨U7, u7⟩ : ∃ U : Nat, U = T7 + 0 := ⟨_, rfl⟩
  have x0 : U0 = (a0 + a1) + 256 * U1 := f8_U t0 t1 u0 u1
  have x1 : U1 = (a1 + a2) + 256 * U2 := f8_U t1 t2 u1 u2
  have x2 : U2 = (a2 + a3) + 256 * U3 := f8_U t2 t3 u2 u3
  have x3 : U3 = (a3 + a4) + 256 * U4 := f8_U t3 t4 u3 u4
  have x4 : U4 = (a4 + a5) + 256 * U5 := f8_U t4 t5 u4 u5
  have x5 : U5 = (a5 + a6) + 256 * U6 := f8_U t5 t6 u5 u6
  have x6 : U6 = (a6 + a7) + 256 * U7 := f8_U t6 t7 u6 u7
  obtain ⟨V0, v0⟩ : ∃ V : Nat, V = U0 + U2 := ⟨_, rfl⟩
  obtain ⟨V1, v1⟩ : ∃ V : Nat, V = U1 + U3 := ⟨_, rfl⟩
  obtain ⟨V2, v2⟩ : ∃ V : Nat, V = U2 + U4 := ⟨_, rfl⟩
  obtain ⟨V3, v3⟩ : ∃ V : Nat, V = U3 + U5 := ⟨_, rfl⟩
  obtain ⟨V4, v4⟩ : ∃ V : Nat, V = U4 + U6 := ⟨_, rfl⟩
  obtain ⟨V5, v5⟩ : ∃ V : Nat, V = U5 + U7 := ⟨_, rfl⟩
  have y0 : V0 = ((a0 + a1) + (a2 + a3)) + 256 * V1 := f8_V x0 x2 v0 v1
  have y1 : V1 = ((a1 + a2) + (a3 + a4)) + 256 * V2 := f8_V x1 x3 v1 v2
  have y2 : V2 = ((a2 + a3) + (a4 + a5)) + 256 * V3 := f8_V x2 x4 v2 v3
  have y3 : V3 = ((a3 + a4) + (a5 + a6)) + 256 * V4 := f8_V x3 x5 v3 v4
  have y4 : V4 = ((a4 + a5) + (a6 + a7)) + 256 * V5 := f8_V x4 x6 v4 v5
  have ed : d = U0 := by rw [hd, f8_d h0 t0, u0]
  have ee : e = V0 := by rw [he, ed, f8_e x0 x1 (f8_p h0 h1) (f8_p h1 h2), v0]
  have ef : f = V0 + V4 := by rw [hf, ee, f8_f y0 y1 y2 y3 (f8_q (f8_p h0 h1) (f8_p h2 h3)) (f8_q (f8_p h1 h2) (f8_p h3 h4)) (f8_q (f8_p h2 h3) (f8_p h4 h5)) (f8_q (f8_p h3 h4) (f8_p h5 h6))]
  obtain ⟨s1, s2⟩ := f8_s h0 h1 h2 h3 h4 h5 h6 h7
  rw [ef]
  exact ⟨f8_b b0 b1 b2 b3 b4 b5 b6 b7 u0 u2 u4 u6 v0 v4, f8_m y0 y4 s1 s2⟩
/-- a long as a number of its own -/
abbrev uN (x : Int64) : Nat := x.toBitVec.toNat
theorem uN_lt (x : Int64) : uN x < 18446744073709551616 := x.toBitVec.isLt
theorem uN_and (x y : Int64) : uN (x &&& y) = uN x &&& uN y := by
  show (x.toBitVec &&& y.toBitVec).toNat = _
  rw [BitVec.toNat_and]
theorem uN_add {x y : Int64} (h : uN x + uN y < 18446744073709551616) : uN (x + y) = uN x + uN y := by
  show (x.toBitVec + y.toBitVec).toNat = _
  rw [BitVec.toNat_add]
  exact Nat.mod_eq_of_lt h
theorem uN_sub {x y : Int64} (h : uN y ≤ uN x) : uN (x - y) = uN x - uN y := by
  show (x.toBitVec - y.toBitVec).toNat = _
  rw [BitVec.toNat_sub]
  have h1 : x.toBitVec.toNat < 18446744073709551616 := x.toBitVec.isLt
  have h2 : y.toBitVec.toNat ≤ x.toBitVec.toNat := h
  show (18446744073709551616 - y.toBitVec.toNat + x.toBitVec.toNat) % 18446744073709551616 = x.toBitVec.toNat - y.toBitVec.toNat
  omega
def shU (x : Int64) (k : Int32) : Int64 := (x.toUInt64 >>> (k.toInt64.toUInt64 &&& Int64.toUInt64 63)).toInt64
theorem uN_sh (k : Nat) (hk : k < 64) (x : Int64) : uN (shU x (Int32.ofNat k)) = uN x / 2 ^ k := by
  show (x.toUInt64 >>> ((Int32.ofNat k).toInt64.toUInt64 &&& Int64.toUInt64 63)).toBitVec.toNat = _
  rw [UInt64.toBitVec_shiftRight]
  show (x.toUInt64.toBitVec >>> (((Int32.ofNat k).toInt64.toUInt64 &&& Int64.toUInt64 63).toBitVec % 64).toNat).toNat = _
  rw [sl_4 k hk, BitVec.toNat_ushiftRight, Nat.shiftRight_eq_div_pow]
  rfl
def sw1 (x : Int64) : Int64 := x - (shU x 1 &&& 6148914691236517205)
def sw2 (x : Int64) : Int64 := (x &&& 3689348814741910323) + (shU x 2 &&& 3689348814741910323)
def sw3 (x : Int64) : Int64 := (x + shU x 4) &&& 1085102592571150095
def sw4 (x : Int64) : Int64 := x + shU x 8
def sw5 (x : Int64) : Int64 := x + shU x 16
def sw6 (x : Int64) : Int64 := x + shU x 32
def SW (x : Int64) : Int32 := (sw6 (sw5 (sw4 (sw3 (sw2 (sw1 x)))))).toInt32 &&& 127
theorem mk8_8 : mk8 85 8 = 6148914691236517205 ∧ mk8 51 8 = 3689348814741910323 ∧ mk8 15 8 = 1085102592571150095 := by decide +kernel
theorem uN_k : uN 6148914691236517205 = mk8 85 8 ∧ uN 3689348814741910323 = mk8 51 8 ∧ uN 1085102592571150095 = mk8 15 8 := by decide +kernel
theorem sw1_u (x : Int64) : uN (sw1 x) = A8 8 (uN x) := by
  have e : uN (shU x 1 &&& 6148914691236517205) = (uN x / 2) &&& mk8 85 8 := by
    rw [uN_and, uN_k.1, show uN (shU x 1) = uN x / 2 ^ 1 from uN_sh 1 (by decide) x]
  have h : uN (shU x 1 &&& 6148914691236517205) ≤ uN x := by
    rw [e]
    exact Nat.le_trans Nat.and_le_left (Nat.div_le_self _ 2)
  unfold sw1 A8
  rw [uN_sub h, e]
theorem sw2_u (x : Int64) : uN (sw2 x) = B8 8 (uN x) := by
  have e1 : uN (x &&& 3689348814741910323) = uN x &&& mk8 51 8 := by rw [uN_and, uN_k.2.1]
  have e2 : uN (shU x 2 &&& 3689348814741910323) = (uN x / 4) &&& mk8 51 8 := by
    rw [uN_and, uN_k.2.1, show uN (shU x 2) = uN x / 2 ^ 2 from uN_sh 2 (by decide) x]
  have h1 : uN x &&& mk8 51 8 ≤ 3689348814741910323 := Nat.le_trans Nat.and_le_right (Nat.le_of_eq mk8_8.2.1)
  have h2 : (uN x / 4) &&& mk8 51 8 ≤ 3689348814741910323 := Nat.le_trans Nat.and_le_right (Nat.le_of_eq mk8_8.2.1)
  unfold sw2 B8
  rw [uN_add (by rw [e1, e2]; omega), e1, e2]
theorem sw3_u {x : Int64} (h : uN x + uN x / 16 < 18446744073709551616) : uN (sw3 x) = C8 8 (uN x) := by
  have e1 : uN (shU x 4) = uN x / 16 := uN_sh 4 (by decide) x
  unfold sw3 C8
  rw [uN_and, uN_k.2.2, uN_add (by rw [e1]; exact h), e1]
theorem i127 (x : Int64) : x.toInt32 &&& 127 = Int32.ofNat (uN x % 128) := by
  refine Int32.toBitVec_inj.mp (BitVec.eq_of_toNat_eq ?_)
  show (x.toInt32.toBitVec &&& (127 : Int32).toBitVec).toNat = (BitVec.ofNat 32 (uN x % 128)).toNat
  rw [BitVec.toNat_and, show (127 : Int32).toBitVec.toNat = 2 ^ 7 - 1 from rfl, Nat.and_two_pow_sub_one_eq_mod, BitVec.toNat_ofNat]
  have e : x.toInt32.toBitVec.toNat = uN x % 4294967296 := by
    show (x.toBitVec.signExtend 32).toNat = _
    rw [BitVec.signExtend_eq_setWidth_of_le _ (by decide), BitVec.toNat_setWidth] <;> rfl
  rw [e]
  omega
/-- how many of the first n bits of a number are set -/
def ctN (X : Nat) : Nat → Nat
  | 0 => 0
  | n + 1 => ctN X n + (if X.testBit n then 1 else 0)
theorem q8_ct : ∀ b : Nat, b < 256 → q8 b = ctN b 8 := by decide +kernel
theorem ct_sp (X n : Nat) : ∀ k : Nat, ctN X (n + k) = ctN X n + ctN (X / 2 ^ n) k := by
  intro k
  induction k with
  | zero => rfl
  | succ k ih =>
    show ctN X (n + k) + (if X.testBit (n + k) then 1 else 0) = ctN X n + (ctN (X / 2 ^ n) k + (if (X / 2 ^ n).testBit k then 1 else 0))
    rw [ih, Nat.testBit_div_two_pow, Nat.add_comm k n, Nat.add_assoc]
theorem ct_mod (X : Nat) : ∀ k : Nat, k ≤ 8 → ctN (X % 256) k = ctN X k := by
  intro k
  induction k with
  | zero => intro _; rfl
  | succ k ih =>
    intro hk
    show ctN (X % 256) k + (if (X % 256).testBit k then 1 else 0) = ctN X k + (if X.testBit k then 1 else 0)
    rw [ih (by omega), show X % 256 = X % 2 ^ 8 from rfl, Nat.testBit_mod_two_pow, decide_eq_true (show k < 8 by omega), Bool.true_and]
theorem q8_c (X : Nat) : q8 (X % 256) = ctN X 8 := by rw [q8_ct _ (Nat.mod_lt _ (by decide)), ct_mod X 8 (by decide)]
theorem SW_fin {x : Int64} {X : Nat} (c1 : uN (sw3 (sw2 (sw1 x))) = S8 8 X) : SW x = Int32.ofNat (ctN X 64) := by
  have k : ∀ Y : Nat, q8 (Y % 256) ≤ 8 := fun Y => (by3 _ (Nat.mod_lt _ (by decide))).2.2.2
  have c2 : S8 8 X = q8 (X % 256) + 256 * (q8 (X / 256 % 256) + 256 * (q8 (X / 256 / 256 % 256) + 256 * (q8 (X / 256 / 256 / 256 % 256) + 256 * (q8 (X / 256 / 256 / 256 / 256 % 256) + 256 * (q8 (X / 256 / 256 / 256 / 256 / 256 % 256) + 256 * (q8 (X / 256 / 256 / 256 / 256 / 256 / 256 % 256) + 256 * (q8 (X / 256 / 256 / 256 / 256 / 256 / 256 / 256 % 256) + 256 * 0))))))) := rfl
  obtain ⟨f1, f2⟩ := fold8 (k _) (k _) (k _) (k _) (k _) (k _) (k _) (k _) c2 rfl rfl rfl
  have e4 : uN (sw4 (sw3 (sw2 (sw1 x)))) = S8 8 X + S8 8 X / 256 := by
    have e : uN (shU (sw3 (sw2 (sw1 x))) 8) = S8 8 X / 256 := by rw [← c1]; exact uN_sh 8 (by decide) _
    unfold sw4
    rw [uN_add (by rw [e, c1]; omega), e, c1]
  have e5 : uN (sw5 (sw4 (sw3 (sw2 (sw1 x))))) = S8 8 X + S8 8 X / 256 + (S8 8 X + S8 8 X / 256) / 65536 := by
    have e : uN (shU (sw4 (sw3 (sw2 (sw1 x)))) 16) = (S8 8 X + S8 8 X / 256) / 65536 := by rw [← e4]; exact uN_sh 16 (by decide) _
    unfold sw5
    rw [uN_add (by rw [e, e4]; omega), e, e4]
  have e6 : uN (sw6 (sw5 (sw4 (sw3 (sw2 (sw1 x)))))) = S8 8 X + S8 8 X / 256 + (S8 8 X + S8 8 X / 256) / 65536 + (S8 8 X + S8 8 X / 256 + (S8 8 X + S8 8 X / 256) / 65536) / 4294967296 := by
    have e : uN (shU (sw5 (sw4 (sw3 (sw2 (sw1 x))))) 32) = (S8 8 X + S8 8 X / 256 + (S8 8 X + S8 8 X / 256) / 65536) / 4294967296 := by rw [← e5]; exact uN_sh 32 (by decide) _
    unfold sw6
    rw [uN_add (by rw [e, e5]; omega), e, e5]
  have s0 : q8 (X % 256) + q8 (X / 256 % 256) + q8 (X / 256 / 256 % 256) + q8 (X / 256 / 256 / 256 % 256) + q8 (X / 256 / 256 / 256 / 256 % 256) + q8 (X / 256 / 256 / 256 / 256 / 256 % 256) + q8 (X / 256 / 256 / 256 / 256 / 256 / 256 % 256) + q8 (X / 256 / 256 / 256 / 256 / 256 / 256 / 256 % 256) = ctN X 64 := by
    rw [q8_c, q8_c, q8_c, q8_c, q8_c, q8_c, q8_c, q8_c]
    have s1 : ctN X 64 = ctN X 8 + ctN (X / 256) 56 := ct_sp X 8 56
    have s2 : ctN (X / 256) 56 = ctN (X / 256) 8 + ctN (X / 256 / 256) 48 := ct_sp (X / 256) 8 48
    have s3 : ctN (X / 256 / 256) 48 = ctN (X / 256 / 256) 8 + ctN (X / 256 / 256 / 256) 40 := ct_sp (X / 256 / 256) 8 40
    have s4 : ctN (X / 256 / 256 / 256) 40 = ctN (X / 256 / 256 / 256) 8 + ctN (X / 256 / 256 / 256 / 256) 32 := ct_sp (X / 256 / 256 / 256) 8 32
    have s5 : ctN (X / 256 / 256 / 256 / 256) 32 = ctN (X / 256 / 256 / 256 / 256) 8 + ctN (X / 256 / 256 / 256 / 256 / 256) 24 := ct_sp (X / 256 / 256 / 256 / 256) 8 24
    have s6 : ctN (X / 256 / 256 / 256 / 256 / 256) 24 = ctN (X / 256 / 256 / 256 / 256 / 256) 8 + ctN (X / 256 / 256 / 256 / 256 / 256 / 256) 16 := ct_sp (X / 256 / 256 / 256 / 256 / 256) 8 16
    have s7 : ctN (X / 256 / 256 / 256 / 256 / 256 / 256) 16 = ctN (X / 256 / 256 / 256 / 256 / 256 / 256) 8 + ctN (X / 256 / 256 / 256 / 256 / 256 / 256 / 256) 8 := ct_sp (X / 256 / 256 / 256 / 256 / 256 / 256) 8 8
    rw [s1, s2, s3, s4, s5, s6, s7]
    simp only [Nat.add_assoc]
  unfold SW
  rw [i127, e6, f2, s0]
theorem SW_ok (x : Int64) : SW x = Int32.ofNat (ctN (uN x) 64) := by
  have hx := uN_lt x
  obtain ⟨t1, -⟩ := T_s 8 (uN x) (by rw [show (256 : Nat) ^ 8 = 18446744073709551616 from rfl]; exact hx)
  have b1 : uN (sw2 (sw1 x)) = B8 8 (A8 8 (uN x)) := by rw [sw2_u, sw1_u]
  have bb : B8 8 (A8 8 (uN x)) ≤ 7378697629483820646 := by
    have h1 : A8 8 (uN x) &&& mk8 51 8 ≤ 3689348814741910323 := Nat.le_trans Nat.and_le_right (Nat.le_of_eq mk8_8.2.1)
    have h2 : (A8 8 (uN x) / 4) &&& mk8 51 8 ≤ 3689348814741910323 := Nat.le_trans Nat.and_le_right (Nat.le_of_eq mk8_8.2.1)
    exact Nat.add_le_add h1 h2
  have bd : B8 8 (A8 8 (uN x)) / 16 ≤ 7378697629483820646 := Nat.le_trans (Nat.div_le_self _ 16) bb
  refine SW_fin ?_
  rw [sw3_u (by rw [b1]; omega), b1]
  exact t1
/-- with the last three bits away: as 62 bits are -/
theorem ct_62 {x : Int64} (h : ∀ v : Nat, 61 ≤ v → v < 64 → bl x v = false) : ctN (uN x) 64 = ctN (uN x) 62 := by
  have e : ∀ v : Nat, (uN x).testBit v = bl x v := fun v => rfl
  show ctN (uN x) 62 + (if (uN x).testBit 62 then 1 else 0) + (if (uN x).testBit 63 then 1 else 0) = _
  rw [e, e, h 62 (by decide) (by decide), h 63 (by decide) (by decide)]
  rfl
