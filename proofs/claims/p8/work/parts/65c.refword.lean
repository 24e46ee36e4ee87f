/-! The reference: names, words. -/
def nmv (b : Nat → Int32) (s e : Nat) : Nat → Nat → Int32 → Int32
  | 0, _, v => v
  | f + 1, k, v => nmv b s e f (k + 1) (v <<< (5 &&& 31) ||| (if s + k < e then b (s + k) - 97 + 1 else 0))

theorem lp157 {nf : Bool} {xs : List Int32} {d : Nat} {g : xL} {G : xG} {r : Option Value} {h' : zH} {b : Nat → Int32} {s e : Nat} (hG : GM G) (he : e ≤ 700) (hse : s ≤ e) : ∀ (N : Nat) (k : Nat) (m : xM), m 129 = b → m 128 25 = Int32.ofNat s → m 128 24 = Int32.ofNat e → k ≤ 6 → RR nf xs d 11 false 2 (none) zt157 G r h' N (7, [(1, .int (Int32.ofNat k)), (0, .ref 128)], [], m, g) → RR nf xs d 11 false 2 (none) zt157 G r h' N (63, [(1, .int (Int32.ofNat 6)), (0, .ref 128)], [], xu m 128 27 (nmv b s e (6 - k) k (m 128 27)), g) := by
  have k1 : (1 : Int32).toInt = 1 := rfl
  have k5 : (5 : Int32).toInt = 5 := rfl
  have k6 : (6 : Int32).toInt = 6 := rfl
  have k97 : (97 : Int32).toInt = 97 := rfl
  intro N
  induction N with
  | zero => intro k m h1 h2 h3 h4 hr; exact hr.no.elim
  | succ N ih =>
    intro k m h1 h2 h3 h4 hr
    replace hr := hr.go1 (s_iload_n t157_7 rfl)
    replace hr := hr.go (s_k t157_8)
    rcases hr.bGe t157_10 with ⟨c1, hr⟩ | ⟨c1, hr⟩
    · have hk : k = 6 := by rw [k6, xn_int (by omega)] at c1; omega
      subst hk
      refine (hr.mono (by omega)).to ?_
      exact (xu_id rfl).symm
    · have hk : k + 1 ≤ 6 := by rw [k6, xn_int (by omega)] at c1; omega
      replace hr := hr.go (s_aload_n t157_13 rfl)
      replace hr := hr.go (s_aload_n t157_14 rfl)
      replace hr := hr.go (s_getf t157_15)
      replace hr := hr.go (s_k t157_18)
      replace hr := hr.go (s_ishl t157_19)
      replace hr := hr.go (s_aload_n t157_20 rfl)
      replace hr := hr.go (s_getf t157_21)
      replace hr := hr.go (s_iload_n t157_24 rfl)
      replace hr := hr.go (s_iadd t157_25)
      rw [h2, xn_add] at hr
      replace hr := hr.go (s_aload_n t157_26 rfl)
      replace hr := hr.go (s_getf t157_27)
      rcases hr.bGe t157_30 with ⟨c2, hr⟩ | ⟨c2, hr⟩
      · rw [h3, xn_int (by omega), xn_int (by omega)] at c2
        replace hr := hr.go (s_k t157_52)
        replace hr := hr.go (s_ior t157_53)
        replace hr := hr.go (s_putf t157_54)
        replace hr := hr.go (s_iinc (ls' := [(1, _), (0, _)]) t157_57 rfl rfl)
        replace hr := hr.go (s_goto t157_60)
        rw [show 6 - k = (6 - (k + 1)) + 1 by omega]
        show RR _ _ _ _ _ _ _ _ _ _ _ (N + 1) (_, _, _, xu m 128 27 (nmv b s e (6 - (k + 1)) (k + 1) (m 128 27 <<< (5 &&& 31) ||| (if s + k < e then b (s + k) - 97 + 1 else 0))), g)
        rw [if_neg (by omega)]
        refine ((ih (k + 1) _ ?_ ?_ ?_ hk (xn_1 ▸ hr)).mono (by omega)).to ?_
        · rw [xu_row (by decide)]; exact h1
        · rw [xu_oth (by decide)]; exact h2
        · rw [xu_oth (by decide)]; exact h3
        · rw [xu_xu, xu_same]
      · rw [h3, xn_int (by omega), xn_int (by omega)] at c2
        replace hr := hr.go (s_aload_n t157_33 rfl)
        replace hr := hr.go (s_getr t157_34 (hG.1))
        replace hr := hr.go (s_aload_n t157_37 rfl)
        replace hr := hr.go (s_getf t157_38)
        replace hr := hr.go (s_iload_n t157_41 rfl)
        replace hr := hr.go (s_iadd t157_42)
        rw [h2, xn_add] at hr
        replace hr := hr.go (s_iaload t157_43 (hG.2))
        rw [xn_nat (by omega), h1] at hr
        replace hr := hr.go (s_k t157_44)
        replace hr := hr.go (s_isub t157_46)
        replace hr := hr.go (s_k t157_47)
        replace hr := hr.go (s_iadd t157_48)
        replace hr := hr.go (s_goto t157_49)
        replace hr := hr.go (s_ior t157_53)
        replace hr := hr.go (s_putf t157_54)
        replace hr := hr.go (s_iinc (ls' := [(1, _), (0, _)]) t157_57 rfl rfl)
        replace hr := hr.go (s_goto t157_60)
        rw [show 6 - k = (6 - (k + 1)) + 1 by omega]
        show RR _ _ _ _ _ _ _ _ _ _ _ (N + 1) (_, _, _, xu m 128 27 (nmv b s e (6 - (k + 1)) (k + 1) (m 128 27 <<< (5 &&& 31) ||| (if s + k < e then b (s + k) - 97 + 1 else 0))), g)
        rw [if_pos (by omega)]
        refine ((ih (k + 1) _ ?_ ?_ ?_ hk (xn_1 ▸ hr)).mono (by omega)).to ?_
        · rw [xu_row (by decide)]; exact h1
        · rw [xu_oth (by decide)]; exact h2
        · rw [xu_oth (by decide)]; exact h3
        · rw [xu_xu, xu_same]

theorem ct_name {nf : Bool} {xs : List Int32} {d : Nat} {m : xM} {g : xL} {G : xG} {b : Nat → Int32} {s e : Nat} (hG : GM G) (he : e ≤ 700) (hse : s ≤ e) (h1 : m 129 = b) (h2 : m 128 25 = Int32.ofNat s) (h3 : m 128 24 = Int32.ofNat e) : CT nf xs d 157 [.ref 128] m g G (PE none (xu m 128 27 (nmv b s e 6 0 0)) g) := by
  refine CT.of (c := 11) (ini := false) (nL := 2) (rt := none) (tab := zt157) rfl (fun d' r h' N hd hr => ?_)
  replace hr : RR nf xs d' 11 false 2 none zt157 G r h' N (0, [(0, .ref 128)], [], m, g) := hr
  replace hr := hr.go (s_aload_n t157_0 rfl)
  replace hr := hr.go (s_k t157_1)
  replace hr := hr.go (s_putf t157_2)
  replace hr := hr.go (s_k t157_5)
  replace hr := hr.go (s_istore_n (ls' := [(1, _), (0, _)]) t157_6 rfl)
  replace hr := lp157 (b := b) hG he hse N 0 _ (by rw [xu_row (by decide)]; exact h1) (by rw [xu_oth (by decide)]; exact h2) (by rw [xu_oth (by decide)]; exact h3) (by omega) hr
  obtain ⟨rfl, hs⟩ := hr.ret t157_63
  exact ⟨_, _, hs, rfl, by rw [xu_xu, xu_same], rfl⟩
def lcp (b : Nat → Int32) (s e k : Nat) : Nat → Nat → Nat
  | 0, i => i
  | f + 1, i => if s + i < e ∧ ¬ chW (k + i) = 32 ∧ b (s + i) = chW (k + i) then lcp b s e k f (i + 1) else i
theorem lcp_t {b : Nat → Int32} {s e k i : Nat} (h1 : s + i < e) (h2 : ¬ chW (k + i) = 32) (h3 : b (s + i) = chW (k + i)) : lcp b s e k (e - (s + i)) i = lcp b s e k (e - (s + (i + 1))) (i + 1) := by
  rw [show e - (s + i) = (e - (s + (i + 1))) + 1 by omega]
  show (if _ then _ else _) = _
  rw [if_pos ⟨h1, h2, h3⟩]
theorem lcp_f {b : Nat → Int32} {s e k i : Nat} (h : ¬ (s + i < e ∧ ¬ chW (k + i) = 32 ∧ b (s + i) = chW (k + i))) : lcp b s e k (e - (s + i)) i = i := by
  cases hf : e - (s + i) with
  | zero => rfl
  | succ f =>
    show (if _ then _ else _) = _
    rw [if_neg h]
/-- the next blank of WORDS -/
def spc : Nat → Nat → Nat
  | 0, k => k
  | f + 1, k => if chW k = 32 then k else spc f (k + 1)

theorem li156A {nf : Bool} {xs : List Int32} {d : Nat} {g : xL} {G : xG} {r : Option Value} {h' : zH} {m : xM} {b : Nat → Int32} {s e k : Nat} {w : Int32} (hG : GM G) (he : e ≤ 700) (hk : k ≤ 113) : ∀ (N : Nat) (i : Nat), m 129 = b → m 128 25 = Int32.ofNat s → m 128 24 = Int32.ofNat e → s + i ≤ e → RR nf xs d 11 false 4 (some .int) zt156 G r h' N (15, [(3, .int (Int32.ofNat i)), (2, .int (Int32.ofNat k)), (1, .int w), (0, .ref 128)], [], m, g) → RR nf xs d 11 false 4 (some .int) zt156 G r h' N (69, [(3, .int (Int32.ofNat (lcp b s e k (e - (s + i)) i))), (2, .int (Int32.ofNat k)), (1, .int w), (0, .ref 128)], [], m, g) := by
  have km1 : (-1 : Int32).toInt = -1 := rfl
  have k32 : (32 : Int32).toInt = 32 := rfl
  intro N
  induction N with
  | zero => intro i h1 h2 h3 h4 hr; exact hr.no.elim
  | succ N ih =>
    intro i h1 h2 h3 h4 hr
    replace hr := hr.go1 (s_ldcX t156_15 rfl)
    replace hr := hr.go (s_iload_n t156_17 rfl)
    replace hr := hr.go (s_iload_n t156_18 rfl)
    replace hr := hr.go (s_iadd t156_19)
    rw [xn_add] at hr
    replace hr := hr.cXI t156_20 rfl rfl (ct_char)
    rw [xn_nat (by omega)] at hr
    replace hr := hr.go (s_k t156_23)
    rcases hr.bEq t156_25 with ⟨c1, hr⟩ | ⟨c1, hr⟩
    · rw [lcp_f (fun q => q.2.1 c1)]
      exact hr.mono (by omega)
    · replace hr := hr.go (s_aload_n t156_28 rfl)
      replace hr := hr.go (s_getf t156_29)
      replace hr := hr.go (s_iload_n t156_32 rfl)
      replace hr := hr.go (s_iadd t156_33)
      rw [h2, xn_add] at hr
      replace hr := hr.go (s_aload_n t156_34 rfl)
      replace hr := hr.go (s_getf t156_35)
      rcases hr.bGe t156_38 with ⟨c2, hr⟩ | ⟨c2, hr⟩
      · rw [lcp_f (fun q => by rw [h3, xn_int (by omega), xn_int (by omega)] at c2; omega)]
        exact hr.mono (by omega)
      · have hlt : s + i < e := by rw [h3, xn_int (by omega), xn_int (by omega)] at c2; omega
        replace hr := hr.go (s_aload_n t156_41 rfl)
        replace hr := hr.go (s_getr t156_42 (hG.1))
        replace hr := hr.go (s_aload_n t156_45 rfl)
        replace hr := hr.go (s_getf t156_46)
        replace hr := hr.go (s_iload_n t156_49 rfl)
        replace hr := hr.go (s_iadd t156_50)
        rw [h2, xn_add] at hr
        replace hr := hr.go (s_iaload t156_51 (hG.2))
        rw [xn_nat (by omega), h1] at hr
        replace hr := hr.go (s_ldcX t156_52 rfl)
        replace hr := hr.go (s_iload_n t156_54 rfl)
        replace hr := hr.go (s_iload_n t156_55 rfl)
        replace hr := hr.go (s_iadd t156_56)
        rw [xn_add] at hr
        replace hr := hr.cXI t156_57 rfl rfl (ct_char)
        rw [xn_nat (by omega)] at hr
        rcases hr.bNe t156_60 with ⟨c3, hr⟩ | ⟨c3, hr⟩
        · rw [lcp_f (fun q => c3 q.2.2)]
          exact hr.mono (by omega)
        · replace hr := hr.go (s_iinc (ls' := [(3, _), (2, _), (1, _), (0, _)]) t156_63 rfl rfl)
          replace hr := hr.go (s_goto t156_66)
          rw [lcp_t hlt c1 c3]
          exact (ih (i + 1) h1 h2 h3 (by omega) (xn_1 ▸ hr)).mono (by omega)

theorem li156B {nf : Bool} {xs : List Int32} {d : Nat} {g : xL} {G : xG} {r : Option Value} {h' : zH} {m : xM} {b : Nat → Int32} {s e k : Nat} {w : Int32} (hG : GM G) (he : e ≤ 700) (hk : k ≤ 113) : ∀ (N : Nat) (i : Nat), m 129 = b → m 128 25 = Int32.ofNat s → m 128 24 = Int32.ofNat e → s + i ≤ e → RR nf xs d 11 false 4 (some .int) zt156 G r h' N (15, [(3, .int (Int32.ofNat i)), (1, .int w), (2, .int (Int32.ofNat k)), (0, .ref 128)], [], m, g) → RR nf xs d 11 false 4 (some .int) zt156 G r h' N (69, [(3, .int (Int32.ofNat (lcp b s e k (e - (s + i)) i))), (1, .int w), (2, .int (Int32.ofNat k)), (0, .ref 128)], [], m, g) := by
  have km1 : (-1 : Int32).toInt = -1 := rfl
  have k32 : (32 : Int32).toInt = 32 := rfl
  intro N
  induction N with
  | zero => intro i h1 h2 h3 h4 hr; exact hr.no.elim
  | succ N ih =>
    intro i h1 h2 h3 h4 hr
    replace hr := hr.go1 (s_ldcX t156_15 rfl)
    replace hr := hr.go (s_iload_n t156_17 rfl)
    replace hr := hr.go (s_iload_n t156_18 rfl)
    replace hr := hr.go (s_iadd t156_19)
    rw [xn_add] at hr
    replace hr := hr.cXI t156_20 rfl rfl (ct_char)
    rw [xn_nat (by omega)] at hr
    replace hr := hr.go (s_k t156_23)
    rcases hr.bEq t156_25 with ⟨c1, hr⟩ | ⟨c1, hr⟩
    · rw [lcp_f (fun q => q.2.1 c1)]
      exact hr.mono (by omega)
    · replace hr := hr.go (s_aload_n t156_28 rfl)
      replace hr := hr.go (s_getf t156_29)
      replace hr := hr.go (s_iload_n t156_32 rfl)
      replace hr := hr.go (s_iadd t156_33)
      rw [h2, xn_add] at hr
      replace hr := hr.go (s_aload_n t156_34 rfl)
      replace hr := hr.go (s_getf t156_35)
      rcases hr.bGe t156_38 with ⟨c2, hr⟩ | ⟨c2, hr⟩
      · rw [lcp_f (fun q => by rw [h3, xn_int (by omega), xn_int (by omega)] at c2; omega)]
        exact hr.mono (by omega)
      · have hlt : s + i < e := by rw [h3, xn_int (by omega), xn_int (by omega)] at c2; omega
        replace hr := hr.go (s_aload_n t156_41 rfl)
        replace hr := hr.go (s_getr t156_42 (hG.1))
        replace hr := hr.go (s_aload_n t156_45 rfl)
        replace hr := hr.go (s_getf t156_46)
        replace hr := hr.go (s_iload_n t156_49 rfl)
        replace hr := hr.go (s_iadd t156_50)
        rw [h2, xn_add] at hr
        replace hr := hr.go (s_iaload t156_51 (hG.2))
        rw [xn_nat (by omega), h1] at hr
        replace hr := hr.go (s_ldcX t156_52 rfl)
        replace hr := hr.go (s_iload_n t156_54 rfl)
        replace hr := hr.go (s_iload_n t156_55 rfl)
        replace hr := hr.go (s_iadd t156_56)
        rw [xn_add] at hr
        replace hr := hr.cXI t156_57 rfl rfl (ct_char)
        rw [xn_nat (by omega)] at hr
        rcases hr.bNe t156_60 with ⟨c3, hr⟩ | ⟨c3, hr⟩
        · rw [lcp_f (fun q => c3 q.2.2)]
          exact hr.mono (by omega)
        · replace hr := hr.go (s_iinc (ls' := [(3, _), (1, _), (2, _), (0, _)]) t156_63 rfl rfl)
          replace hr := hr.go (s_goto t156_66)
          rw [lcp_t hlt c1 c3]
          exact (ih (i + 1) h1 h2 h3 (by omega) (xn_1 ▸ hr)).mono (by omega)

theorem ch112 : chW 112 = 32 := by decide +kernel
theorem spc_t {k : Nat} (h : k ≤ 112) (hc : chW k = 32) : spc (113 - k) k = k := by
  rw [show 113 - k = (113 - (k + 1)) + 1 by omega]
  show (if _ then _ else _) = _
  rw [if_pos hc]
theorem spc_f {k : Nat} (h : k ≤ 112) (hc : ¬ chW k = 32) : spc (113 - k) k = spc (113 - (k + 1)) (k + 1) := by
  rw [show 113 - k = (113 - (k + 1)) + 1 by omega]
  show (if _ then _ else _) = _
  rw [if_neg hc]
theorem spc_le : ∀ (f k : Nat), 113 - k = f → k ≤ 112 → k ≤ spc (113 - k) k ∧ spc (113 - k) k ≤ 112 := by
  intro f
  induction f with
  | zero => intro k h1 h2; omega
  | succ f ih =>
    intro k h1 h2
    by_cases hc : chW k = 32
    · rw [spc_t h2 hc]; omega
    · have : ¬ k = 112 := fun q => by rw [q] at hc; exact hc ch112
      rw [spc_f h2 hc]
      have := ih (k + 1) (by omega) (by omega)
      omega
theorem lcp_le {b : Nat → Int32} {s e k : Nat} : ∀ (f i : Nat), e - (s + i) = f → s + i ≤ e → s + lcp b s e k (e - (s + i)) i ≤ e := by
  intro f
  induction f with
  | zero =>
    intro i h1 h2
    rw [h1]
    exact h2
  | succ f ih =>
    intro i h1 h2
    by_cases hc : s + i < e ∧ ¬ chW (k + i) = 32 ∧ b (s + i) = chW (k + i)
    · rw [lcp_t hc.1 hc.2.1 hc.2.2]
      exact ih (i + 1) (by omega) (by omega)
    · rw [lcp_f hc]
      exact h2
theorem xn_inj {a b : Nat} (ha : a < 2147483648) (hb : b < 2147483648) (h : Int32.ofNat a = Int32.ofNat b) : a = b := by
  have := congrArg Int32.toInt h
  rw [xn_int ha, xn_int hb] at this
  omega
theorem xn_1i {p : Nat} : Int32.ofNat p + Int32.ofInt 1 = Int32.ofNat (p + 1) := xn_1
def wdM (b : Nat → Int32) (s e : Nat) : Nat → Nat → Nat → Int32
  | 0, _, _ => -1
  | f + 1, k, w => if 113 ≤ k then -1 else if chW (k + lcp b s e k (e - s) 0) = 32 ∧ s + lcp b s e k (e - s) 0 = e then Int32.ofNat w else wdM b s e f (spc (113 - k) k + 1) (w + 1)
theorem wdM_up {b : Nat → Int32} {s e : Nat} : ∀ (f f' k w : Nat), 114 - k ≤ f → 114 - k ≤ f' → k ≤ 113 → wdM b s e f k w = wdM b s e f' k w := by
  intro f
  induction f with
  | zero => intro f' k w h1 h2 h3; omega
  | succ f ih =>
    intro f' k w h1 h2 h3
    cases f' with
    | zero => omega
    | succ f' =>
      unfold wdM
      by_cases hk : 113 ≤ k
      · rw [if_pos hk, if_pos hk]
      · rw [if_neg hk, if_neg hk]
        have := spc_le _ k rfl (by omega)
        rw [ih f' _ _ (by omega) (by omega) (by omega)]
theorem lk156 {nf : Bool} {xs : List Int32} {d : Nat} {g : xL} {G : xG} {r : Option Value} {h' : zH} {m : xM} {i w : Int32} : ∀ (N : Nat) (k : Nat), k ≤ 112 → RR nf xs d 11 false 4 (some .int) zt156 G r h' N (97, [(2, .int (Int32.ofNat k)), (3, .int i), (1, .int w), (0, .ref 128)], [], m, g) → RR nf xs d 11 false 4 (some .int) zt156 G r h' N (114, [(2, .int (Int32.ofNat (spc (113 - k) k))), (3, .int i), (1, .int w), (0, .ref 128)], [], m, g) := by
  have km1 : (-1 : Int32).toInt = -1 := rfl
  have k32 : (32 : Int32).toInt = 32 := rfl
  intro N
  induction N with
  | zero => intro k h1 hr; exact hr.no.elim
  | succ N ih =>
    intro k h1 hr
    replace hr := hr.go1 (s_ldcX t156_97 rfl)
    replace hr := hr.go (s_iload_n t156_99 rfl)
    replace hr := hr.cXI t156_100 rfl rfl (ct_char)
    rw [xn_nat (by omega)] at hr
    replace hr := hr.go (s_k t156_103)
    rcases hr.bEq t156_105 with ⟨c1, hr⟩ | ⟨c1, hr⟩
    · rw [spc_t h1 c1]
      exact hr.mono (by omega)
    · replace hr := hr.go (s_iinc (ls' := [(2, _), (3, _), (1, _), (0, _)]) t156_108 rfl rfl)
      replace hr := hr.go (s_goto t156_111)
      have hne : ¬ k = 112 := fun q => by rw [q] at c1; exact c1 ch112
      rw [spc_f h1 c1]
      exact (ih (k + 1) (by omega) (xn_1 ▸ hr)).mono (by omega)

theorem le156A {nf : Bool} {xs : List Int32} {d : Nat} {g : xL} {G : xG} {r : Option Value} {h' : zH} {N k : Nat} {m : xM} {i w : Int32} (h1 : k ≤ 112) (hr : RR nf xs d 11 false 4 (some .int) zt156 G r h' N (97, [(3, .int i), (2, .int (Int32.ofNat k)), (1, .int w), (0, .ref 128)], [], m, g)) : RR nf xs d 11 false 4 (some .int) zt156 G r h' N (117, [(2, .int (Int32.ofNat ((spc (113 - k) k) + 1))), (3, .int i), (1, .int w), (0, .ref 128)], [], m, g) := by
  replace hr := hr.go (s_ldcX t156_97 rfl)
  replace hr := hr.go (s_iload_n t156_99 rfl)
  replace hr := hr.cXI t156_100 rfl rfl (ct_char)
  rw [xn_nat (by omega)] at hr
  replace hr := hr.go (s_k t156_103)
  rcases hr.bEq t156_105 with ⟨c1, hr⟩ | ⟨c1, hr⟩
  · replace hr := hr.go (s_iinc (ls' := [(2, _), (3, _), (1, _), (0, _)]) t156_114 rfl rfl)
    rw [spc_t h1 c1]
    exact xn_1 ▸ hr
  · replace hr := hr.go (s_iinc (ls' := [(2, _), (3, _), (1, _), (0, _)]) t156_108 rfl rfl)
    replace hr := hr.go (s_goto t156_111)
    have hne : ¬ k = 112 := fun q => by rw [q] at c1; exact c1 ch112
    rw [spc_f h1 c1]
    replace hr := lk156 N (k + 1) (by omega) (xn_1 ▸ hr)
    replace hr := hr.go (s_iinc (ls' := [(2, _), (3, _), (1, _), (0, _)]) t156_114 rfl rfl)
    exact xn_1 ▸ hr
theorem le156B {nf : Bool} {xs : List Int32} {d : Nat} {g : xL} {G : xG} {r : Option Value} {h' : zH} {N k : Nat} {m : xM} {i w : Int32} (h1 : k ≤ 112) (hr : RR nf xs d 11 false 4 (some .int) zt156 G r h' N (97, [(3, .int i), (1, .int w), (2, .int (Int32.ofNat k)), (0, .ref 128)], [], m, g)) : RR nf xs d 11 false 4 (some .int) zt156 G r h' N (117, [(2, .int (Int32.ofNat ((spc (113 - k) k) + 1))), (3, .int i), (1, .int w), (0, .ref 128)], [], m, g) := by
  replace hr := hr.go (s_ldcX t156_97 rfl)
  replace hr := hr.go (s_iload_n t156_99 rfl)
  replace hr := hr.cXI t156_100 rfl rfl (ct_char)
  rw [xn_nat (by omega)] at hr
  replace hr := hr.go (s_k t156_103)
  rcases hr.bEq t156_105 with ⟨c1, hr⟩ | ⟨c1, hr⟩
  · replace hr := hr.go (s_iinc (ls' := [(2, _), (3, _), (1, _), (0, _)]) t156_114 rfl rfl)
    rw [spc_t h1 c1]
    exact xn_1 ▸ hr
  · replace hr := hr.go (s_iinc (ls' := [(2, _), (3, _), (1, _), (0, _)]) t156_108 rfl rfl)
    replace hr := hr.go (s_goto t156_111)
    have hne : ¬ k = 112 := fun q => by rw [q] at c1; exact c1 ch112
    rw [spc_f h1 c1]
    replace hr := lk156 N (k + 1) (by omega) (xn_1 ▸ hr)
    replace hr := hr.go (s_iinc (ls' := [(2, _), (3, _), (1, _), (0, _)]) t156_114 rfl rfl)
    exact xn_1 ▸ hr
theorem lo156 {nf : Bool} {xs : List Int32} {d : Nat} {g : xL} {G : xG} {r : Option Value} {h' : zH} {m : xM} {b : Nat → Int32} {s e : Nat} (hG : GM G) (he : e ≤ 700) (hse : s ≤ e) (h1 : m 129 = b) (h2 : m 128 25 = Int32.ofNat s) (h3 : m 128 24 = Int32.ofNat e) : ∀ (N k w : Nat) (i : Int32), k ≤ 113 → RR nf xs d 11 false 4 (some .int) zt156 G r h' N (4, [(1, .int (Int32.ofNat w)), (2, .int (Int32.ofNat k)), (3, .int i), (0, .ref 128)], [], m, g) → ∃ (m' : xM) (g' : xL), HS h' m' g' G ∧ PE (some (.int (wdM b s e (114 - k) k w))) m g r m' g' := by
  intro N
  induction N with
  | zero => intro k w i hk0 hr; exact hr.no.elim
  | succ N ih =>
    intro k w i hk0 hr
    replace hr := hr.go1 (s_iload_n t156_4 rfl)
    replace hr := hr.go (s_ldcX t156_5 rfl)
    replace hr := hr.cXI t156_7 rfl rfl (ct_len)
    have k113 : (Int32.ofNat zwords.length >>> (0 &&& 31)).toInt = 113 := by decide +kernel
    rcases hr.bGe t156_10 with ⟨c1, hr⟩ | ⟨c1, hr⟩
    · replace hr := hr.go (s_k t156_123)
      obtain ⟨rfl, hs⟩ := hr.iret t156_124
      refine ⟨_, _, hs, congrArg (fun z => some (Value.int z)) ?_, rfl, rfl⟩
      have hk : k = 113 := by rw [k113, xn_int (by omega)] at c1; omega
      subst hk
      rfl
    · have hk : k ≤ 112 := by rw [k113, xn_int (by omega)] at c1; omega
      replace hr := hr.go (s_k t156_13)
      replace hr := hr.go (s_istore_n (ls' := [(3, _), (1, _), (2, _), (0, _)]) t156_14 rfl)
      replace hr := li156B hG he (by omega) N 0 h1 h2 h3 (by omega) hr
      rw [Nat.add_zero] at hr
      have hlc := lcp_le (b := b) (s := s) (e := e) (k := k) _ 0 rfl (by omega)
      rw [Nat.add_zero] at hlc
      replace hr := hr.go (s_ldcX t156_69 rfl)
      replace hr := hr.go (s_iload_n t156_71 rfl)
      replace hr := hr.go (s_iload_n t156_72 rfl)
      replace hr := hr.go (s_iadd t156_73)
      rw [xn_add] at hr
      replace hr := hr.cXI t156_74 rfl rfl (ct_char)
      rw [xn_nat (by omega)] at hr
      replace hr := hr.go (s_k t156_77)
      rcases hr.bNe t156_79 with ⟨c21, hr⟩ | ⟨c21, hr⟩
      · replace hr := le156B hk hr
        have hsp := spc_le _ k rfl hk
        replace hr := hr.go (s_iinc (ls' := [(1, _), (2, _), (3, _), (0, _)]) t156_117 rfl rfl)
        replace hr := hr.go (s_goto t156_120)
        rw [xn_1i] at hr
        have e : wdM b s e (114 - k) k w = wdM b s e (114 - (spc (113 - k) k + 1)) (spc (113 - k) k + 1) (w + 1) := by
          rw [show 114 - k = (113 - k) + 1 by omega]
          show (if _ then _ else _) = _
          rw [if_neg (by omega), if_neg (fun q => c21 q.1)]
          exact wdM_up _ _ _ _ (by omega) (by omega) (by omega)
        rw [e]
        exact ih _ _ _ (by omega) hr
      · replace hr := hr.go (s_aload_n t156_82 rfl)
        replace hr := hr.go (s_getf t156_83)
        replace hr := hr.go (s_iload_n t156_86 rfl)
        replace hr := hr.go (s_iadd t156_87)
        rw [h2, xn_add] at hr
        replace hr := hr.go (s_aload_n t156_88 rfl)
        replace hr := hr.go (s_getf t156_89)
        rcases hr.bNe t156_92 with ⟨c22, hr⟩ | ⟨c22, hr⟩
        · replace hr := le156B hk hr
          have hsp := spc_le _ k rfl hk
          replace hr := hr.go (s_iinc (ls' := [(1, _), (2, _), (3, _), (0, _)]) t156_117 rfl rfl)
          replace hr := hr.go (s_goto t156_120)
          rw [xn_1i] at hr
          have e : wdM b s e (114 - k) k w = wdM b s e (114 - (spc (113 - k) k + 1)) (spc (113 - k) k + 1) (w + 1) := by
            rw [show 114 - k = (113 - k) + 1 by omega]
            show (if _ then _ else _) = _
            rw [if_neg (by omega), if_neg (fun q => c22 (by rw [h3, q.2]))]
            exact wdM_up _ _ _ _ (by omega) (by omega) (by omega)
          rw [e]
          exact ih _ _ _ (by omega) hr
        · replace hr := hr.go (s_iload_n t156_95 rfl)
          obtain ⟨rfl, hs⟩ := hr.iret t156_96
          refine ⟨_, _, hs, congrArg (fun z => some (Value.int z)) ?_, rfl, rfl⟩
          rw [show 114 - k = (113 - k) + 1 by omega]
          show _ = if _ then _ else _
          rw [if_neg (by omega), if_pos ⟨c21, xn_inj (by omega) (by omega) (c22.trans h3)⟩]
theorem ct_wordM {nf : Bool} {xs : List Int32} {d : Nat} {m : xM} {g : xL} {G : xG} {b : Nat → Int32} {s e : Nat} (hG : GM G) (he : e ≤ 700) (hse : s ≤ e) (h1 : m 129 = b) (h2 : m 128 25 = Int32.ofNat s) (h3 : m 128 24 = Int32.ofNat e) : CT nf xs d 156 [.ref 128] m g G (PE (some (.int (wdM b s e 114 0 0))) m g) := by
  refine CT.of (c := 11) (ini := false) (nL := 4) (rt := some .int) (tab := zt156) rfl (fun d' r h' N hd hr => ?_)
  replace hr : RR nf xs d' 11 false 4 (some .int) zt156 G r h' N (0, [(0, .ref 128)], [], m, g) := hr
  replace hr := hr.go (s_k t156_0)
  replace hr := hr.go (s_istore_n (ls' := [(1, _), (0, _)]) t156_1 rfl)
  replace hr := hr.go (s_k t156_2)
  replace hr := hr.go (s_istore_n (ls' := [(2, _), (1, _), (0, _)]) t156_3 rfl)
  have hk0 : (0 : Nat) ≤ 113 := by omega
  obtain ⟨k, ek⟩ : ∃ k : Nat, k = 0 := ⟨0, rfl⟩
  obtain ⟨w, ew⟩ : ∃ w : Nat, w = 0 := ⟨0, rfl⟩
  have e0 : wdM b s e 114 0 0 = wdM b s e (114 - k) k w := by rw [ek, ew]
  rw [e0]
  replace hr : RR nf xs d' 11 false 4 (some .int) zt156 G r h' N (4, [(2, .int (Int32.ofNat k)), (1, .int (Int32.ofNat w)), (0, .ref 128)], [], m, g) := by rw [ek, ew]; exact hr
  rw [← ek] at hk0
  clear ek ew e0
  replace hr := hr.go (s_iload_n t156_4 rfl)
  replace hr := hr.go (s_ldcX t156_5 rfl)
  replace hr := hr.cXI t156_7 rfl rfl (ct_len)
  have k113 : (Int32.ofNat zwords.length >>> (0 &&& 31)).toInt = 113 := by decide +kernel
  rcases hr.bGe t156_10 with ⟨c1, hr⟩ | ⟨c1, hr⟩
  · replace hr := hr.go (s_k t156_123)
    obtain ⟨rfl, hs⟩ := hr.iret t156_124
    refine ⟨_, _, hs, congrArg (fun z => some (Value.int z)) ?_, rfl, rfl⟩
    have hk : k = 113 := by rw [k113, xn_int (by omega)] at c1; omega
    subst hk
    rfl
  · have hk : k ≤ 112 := by rw [k113, xn_int (by omega)] at c1; omega
    replace hr := hr.go (s_k t156_13)
    replace hr := hr.go (s_istore_n (ls' := [(3, _), (2, _), (1, _), (0, _)]) t156_14 rfl)
    replace hr := li156A hG he (by omega) N 0 h1 h2 h3 (by omega) hr
    rw [Nat.add_zero] at hr
    have hlc := lcp_le (b := b) (s := s) (e := e) (k := k) _ 0 rfl (by omega)
    rw [Nat.add_zero] at hlc
    replace hr := hr.go (s_ldcX t156_69 rfl)
    replace hr := hr.go (s_iload_n t156_71 rfl)
    replace hr := hr.go (s_iload_n t156_72 rfl)
    replace hr := hr.go (s_iadd t156_73)
    rw [xn_add] at hr
    replace hr := hr.cXI t156_74 rfl rfl (ct_char)
    rw [xn_nat (by omega)] at hr
    replace hr := hr.go (s_k t156_77)
    rcases hr.bNe t156_79 with ⟨c21, hr⟩ | ⟨c21, hr⟩
    · replace hr := le156A hk hr
      have hsp := spc_le _ k rfl hk
      replace hr := hr.go (s_iinc (ls' := [(1, _), (2, _), (3, _), (0, _)]) t156_117 rfl rfl)
      replace hr := hr.go (s_goto t156_120)
      rw [xn_1i] at hr
      have e : wdM b s e (114 - k) k w = wdM b s e (114 - (spc (113 - k) k + 1)) (spc (113 - k) k + 1) (w + 1) := by
        rw [show 114 - k = (113 - k) + 1 by omega]
        show (if _ then _ else _) = _
        rw [if_neg (by omega), if_neg (fun q => c21 q.1)]
        exact wdM_up _ _ _ _ (by omega) (by omega) (by omega)
      rw [e]
      exact lo156 hG he hse h1 h2 h3 N _ _ _ (by omega) hr
    · replace hr := hr.go (s_aload_n t156_82 rfl)
      replace hr := hr.go (s_getf t156_83)
      replace hr := hr.go (s_iload_n t156_86 rfl)
      replace hr := hr.go (s_iadd t156_87)
      rw [h2, xn_add] at hr
      replace hr := hr.go (s_aload_n t156_88 rfl)
      replace hr := hr.go (s_getf t156_89)
      rcases hr.bNe t156_92 with ⟨c22, hr⟩ | ⟨c22, hr⟩
      · replace hr := le156A hk hr
        have hsp := spc_le _ k rfl hk
        replace hr := hr.go (s_iinc (ls' := [(1, _), (2, _), (3, _), (0, _)]) t156_117 rfl rfl)
        replace hr := hr.go (s_goto t156_120)
        rw [xn_1i] at hr
        have e : wdM b s e (114 - k) k w = wdM b s e (114 - (spc (113 - k) k + 1)) (spc (113 - k) k + 1) (w + 1) := by
          rw [show 114 - k = (113 - k) + 1 by omega]
          show (if _ then _ else _) = _
          rw [if_neg (by omega), if_neg (fun q => c22 (by rw [h3, q.2]))]
          exact wdM_up _ _ _ _ (by omega) (by omega) (by omega)
        rw [e]
        exact lo156 hG he hse h1 h2 h3 N _ _ _ (by omega) hr
      · replace hr := hr.go (s_iload_n t156_95 rfl)
        obtain ⟨rfl, hs⟩ := hr.iret t156_96
        refine ⟨_, _, hs, congrArg (fun z => some (Value.int z)) ?_, rfl, rfl⟩
        rw [show 114 - k = (113 - k) + 1 by omega]
        show _ = if _ then _ else _
        rw [if_neg (by omega), if_pos ⟨c21, xn_inj (by omega) (by omega) (c22.trans h3)⟩]
