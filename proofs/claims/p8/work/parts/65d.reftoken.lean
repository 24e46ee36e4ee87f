/-! The reference: the next token. -/
def fR (v c : Int32) : Int32 := if 99999 < v.toInt then v else 10 * v + c - 48
theorem byt_in {b : Nat → Int32} {n p : Nat} {x : Int32} (h : byt b n p = x) (hx : ¬ x = -1) : p < n ∧ b p = x := by
  unfold byt at h
  by_cases hp : p < n
  · rw [if_pos hp] at h; exact ⟨hp, h⟩
  · rw [if_neg hp] at h; exact absurd h.symm hx
theorem byt_lt {b : Nat → Int32} {n p : Nat} (h : p < n) : byt b n p = b p := by unfold byt; rw [if_pos h]
theorem byt_ge {b : Nat → Int32} {n p : Nat} (h : n ≤ p) : byt b n p = -1 := by unfold byt; rw [if_neg (by omega)]
theorem xn_sub {s e : Nat} (h : s ≤ e) : Int32.ofNat e - Int32.ofNat s = Int32.ofNat (e - s) := by
  have := xn_add (p := e - s) (k := s)
  rw [show e - s + s = e by omega] at this
  rw [← this, Int32.add_sub_cancel]
theorem xextN {m1 m2 : xM} (h3 : m1 128 24 = m2 128 24) (h6 : m1 128 25 = m2 128 25) (h4 : m1 128 26 = m2 128 26) (h5 : m1 128 27 = m2 128 27) (ho : ∀ a k : Nat, ¬ (a = 128 ∧ 24 ≤ k ∧ k ≤ 27) → m1 a k = m2 a k) : m1 = m2 := by
  funext a k
  by_cases h : a = 128 ∧ 24 ≤ k ∧ k ≤ 27
  · obtain ⟨rfl, q1, q2⟩ := h
    rcases (show k = 24 ∨ k = 25 ∨ k = 26 ∨ k = 27 by omega) with rfl | rfl | rfl | rfl
    · exact h3
    · exact h6
    · exact h4
    · exact h5
  · exact ho a k h
def tokM (b : Nat → Int32) (n p : Nat) (old : Int32) : Int32 × Int32 × Nat × Nat :=
  if n ≤ (scn blk fU b n p ()).1 then (4, old, (scn blk fU b n p ()).1, (scn blk fU b n p ()).1)
  else if ltr (b (scn blk fU b n p ()).1) = true then
    (if ¬ wdM b (scn blk fU b n p ()).1 (scn ltr fU b n (scn blk fU b n p ()).1 ()).1 114 0 0 = -1 then (0, wdM b (scn blk fU b n p ()).1 (scn ltr fU b n (scn blk fU b n p ()).1 ()).1 114 0 0, (scn blk fU b n p ()).1, (scn ltr fU b n (scn blk fU b n p ()).1 ()).1)
     else if 6 < (scn ltr fU b n (scn blk fU b n p ()).1 ()).1 - (scn blk fU b n p ()).1 then (5, -1, (scn blk fU b n p ()).1, (scn ltr fU b n (scn blk fU b n p ()).1 ()).1)
     else (1, nmv b (scn blk fU b n p ()).1 (scn ltr fU b n (scn blk fU b n p ()).1 ()).1 6 0 0, (scn blk fU b n p ()).1, (scn ltr fU b n (scn blk fU b n p ()).1 ()).1))
  else if dgt (b (scn blk fU b n p ()).1) = true then (2, (scn dgt fR b n (scn blk fU b n p ()).1 0).2, (scn blk fU b n p ()).1, (scn dgt fR b n (scn blk fU b n p ()).1 0).1)
  else (bif isg (b (scn blk fU b n p ()).1) then 3 else 5, (sgV (b (scn blk fU b n p ()).1) (byt b n ((scn blk fU b n p ()).1 + 1))).1, (scn blk fU b n p ()).1, (scn blk fU b n p ()).1 + (sgV (b (scn blk fU b n p ()).1) (byt b n ((scn blk fU b n p ()).1 + 1))).2)
def tkR (m : xM) (t : Int32 × Int32 × Nat × Nat) : xM := xu (xu (xu (xu m 128 25 (Int32.ofNat t.2.2.1)) 128 26 t.1) 128 27 t.2.1) 128 24 (Int32.ofNat t.2.2.2)

theorem lp154a {nf : Bool} {xs : List Int32} {d : Nat} {g : xL} {G : xG} {r : Option Value} {h' : zH} {b : Nat → Int32} {n : Nat} (hG : GM G) (hn : n ≤ 700) : ∀ (N : Nat) (p : Nat) (m : xM), m 129 = b → m 128 24 = Int32.ofNat p → m 128 23 = Int32.ofNat n → p ≤ n → RR nf xs d 11 false 2 (none) zt154 G r h' N (0, [(0, .ref 128)], [], m, g) → RR nf xs d 11 false 2 (none) zt154 G r h' N (31, [(0, .ref 128)], [], xu m 128 24 (Int32.ofNat (scn blk fU b n p ()).1), g) := by
  have km1 : (-1 : Int32).toInt = -1 := rfl
  have k1 : (1 : Int32).toInt = 1 := rfl
  have k2 : (2 : Int32).toInt = 2 := rfl
  have k4 : (4 : Int32).toInt = 4 := rfl
  have k5 : (5 : Int32).toInt = 5 := rfl
  have k6 : (6 : Int32).toInt = 6 := rfl
  have k10 : (10 : Int32).toInt = 10 := rfl
  have k32 : (32 : Int32).toInt = 32 := rfl
  have k48 : (48 : Int32).toInt = 48 := rfl
  intro N
  induction N with
  | zero => intro p m h1 h2 h3 h4 hr; exact hr.no.elim
  | succ N ih =>
    intro p m h1 h2 h3 h4 hr
    replace hr := hr.go1 (s_aload_n t154_0 rfl)
    replace hr := hr.cvI t154_1 rfl rfl (ct_here_p (b := b) (n := n) (p := p) hG hn (by omega) (by (repeat rw [xu_row (by decide)]); exact h1) (by (repeat rw [xu_oth (by decide)]); exact h2) (by (repeat rw [xu_oth (by decide)]); exact h3))
    replace hr := hr.go (s_k t154_4)
    rcases hr.bEq t154_6 with ⟨c1, hr⟩ | ⟨c1, hr⟩
    · replace hr := hr.go (s_aload_n t154_18 rfl)
      replace hr := hr.go (s_dup t154_19 rfl)
      replace hr := hr.go (s_getf t154_20)
      replace hr := hr.go (s_k t154_23)
      replace hr := hr.go (s_iadd t154_24)
      replace hr := hr.go (s_putf t154_25)
      replace hr := hr.go (s_goto t154_28)
      have hq := byt_in c1 (by decide)
      rw [scn_t hq.1 (blk_t (Or.inl hq.2))]
      refine ((ih (p + 1) _ ?_ ?_ ?_ hq.1 hr).mono (by omega)).to ?_
      · rw [xu_row (by decide)]; exact h1
      · rw [xu_same, h2, xn_1]
      · rw [xu_oth (by decide), h3]
      · exact xu_xu
    · replace hr := hr.go (s_aload_n t154_9 rfl)
      replace hr := hr.cvI t154_10 rfl rfl (ct_here_p (b := b) (n := n) (p := p) hG hn (by omega) (by (repeat rw [xu_row (by decide)]); exact h1) (by (repeat rw [xu_oth (by decide)]); exact h2) (by (repeat rw [xu_oth (by decide)]); exact h3))
      replace hr := hr.go (s_k t154_13)
      rcases hr.bNe t154_15 with ⟨c2, hr⟩ | ⟨c2, hr⟩
      · rw [scn_f (fun q => by rw [byt_lt q] at c1 c2; exact blk_f c1 c2)]
        refine (hr.mono (by omega)).to ?_
        exact (xu_id h2).symm
      · replace hr := hr.go (s_aload_n t154_18 rfl)
        replace hr := hr.go (s_dup t154_19 rfl)
        replace hr := hr.go (s_getf t154_20)
        replace hr := hr.go (s_k t154_23)
        replace hr := hr.go (s_iadd t154_24)
        replace hr := hr.go (s_putf t154_25)
        replace hr := hr.go (s_goto t154_28)
        have hq := byt_in c2 (by decide)
        rw [scn_t hq.1 (blk_t (Or.inr hq.2))]
        refine ((ih (p + 1) _ ?_ ?_ ?_ hq.1 hr).mono (by omega)).to ?_
        · rw [xu_row (by decide)]; exact h1
        · rw [xu_same, h2, xn_1]
        · rw [xu_oth (by decide), h3]
        · exact xu_xu

theorem lp154b {nf : Bool} {xs : List Int32} {d : Nat} {g : xL} {G : xG} {r : Option Value} {h' : zH} {b : Nat → Int32} {n : Nat} {c : Int32} (hG : GM G) (hn : n ≤ 700) : ∀ (N : Nat) (p : Nat) (m : xM), m 129 = b → m 128 24 = Int32.ofNat p → m 128 23 = Int32.ofNat n → p ≤ n → RR nf xs d 11 false 2 (none) zt154 G r h' N (64, [(1, .int c), (0, .ref 128)], [], m, g) → RR nf xs d 11 false 2 (none) zt154 G r h' N (87, [(1, .int c), (0, .ref 128)], [], xu m 128 24 (Int32.ofNat (scn ltr fU b n p ()).1), g) := by
  have km1 : (-1 : Int32).toInt = -1 := rfl
  have k1 : (1 : Int32).toInt = 1 := rfl
  have k2 : (2 : Int32).toInt = 2 := rfl
  have k4 : (4 : Int32).toInt = 4 := rfl
  have k5 : (5 : Int32).toInt = 5 := rfl
  have k6 : (6 : Int32).toInt = 6 := rfl
  have k10 : (10 : Int32).toInt = 10 := rfl
  have k32 : (32 : Int32).toInt = 32 := rfl
  have k48 : (48 : Int32).toInt = 48 := rfl
  intro N
  induction N with
  | zero => intro p m h1 h2 h3 h4 hr; exact hr.no.elim
  | succ N ih =>
    intro p m h1 h2 h3 h4 hr
    replace hr := hr.go1 (s_aload_n t154_64 rfl)
    replace hr := hr.cvI t154_65 rfl rfl (ct_here_p (b := b) (n := n) (p := p) hG hn (by omega) (by (repeat rw [xu_row (by decide)]); exact h1) (by (repeat rw [xu_oth (by decide)]); exact h2) (by (repeat rw [xu_oth (by decide)]); exact h3))
    replace hr := hr.csI t154_68 rfl rfl (ct_small)
    rcases hr.zEq t154_71 with ⟨c1, hr⟩ | ⟨c1, hr⟩
    · rw [scn_f (fun q => by rw [byt_lt q] at c1; exact bI_0 c1)]
      refine (hr.mono (by omega)).to ?_
      exact (xu_id h2).symm
    · replace hr := hr.go (s_aload_n t154_74 rfl)
      replace hr := hr.go (s_dup t154_75 rfl)
      replace hr := hr.go (s_getf t154_76)
      replace hr := hr.go (s_k t154_79)
      replace hr := hr.go (s_iadd t154_80)
      replace hr := hr.go (s_putf t154_81)
      replace hr := hr.go (s_goto t154_84)
      have hlt : p < n := by
        rcases Nat.lt_or_ge p n with q | q
        · exact q
        · rw [byt_ge q] at c1; exact absurd rfl c1
      rw [byt_lt hlt] at c1
      have hq : p < n ∧ True := ⟨hlt, trivial⟩
      rw [scn_t hlt (bI_1 c1)]
      refine ((ih (p + 1) _ ?_ ?_ ?_ hq.1 hr).mono (by omega)).to ?_
      · rw [xu_row (by decide)]; exact h1
      · rw [xu_same, h2, xn_1]
      · rw [xu_oth (by decide), h3]
      · exact xu_xu

theorem lp154c {nf : Bool} {xs : List Int32} {d : Nat} {g : xL} {G : xG} {r : Option Value} {h' : zH} {b : Nat → Int32} {n : Nat} {c : Int32} (hG : GM G) (hn : n ≤ 700) : ∀ (N : Nat) (p : Nat) (m : xM) (v : Int32), m 129 = b → m 128 24 = Int32.ofNat p → m 128 23 = Int32.ofNat n → m 128 27 = v → p ≤ n → RR nf xs d 11 false 2 (none) zt154 G r h' N (162, [(1, .int c), (0, .ref 128)], [], m, g) → RR nf xs d 11 false 2 (none) zt154 G r h' N (225, [(1, .int c), (0, .ref 128)], [], xu (xu m 128 27 (scn dgt fR b n p v).2) 128 24 (Int32.ofNat (scn dgt fR b n p v).1), g) := by
  have km1 : (-1 : Int32).toInt = -1 := rfl
  have k1 : (1 : Int32).toInt = 1 := rfl
  have k2 : (2 : Int32).toInt = 2 := rfl
  have k4 : (4 : Int32).toInt = 4 := rfl
  have k5 : (5 : Int32).toInt = 5 := rfl
  have k6 : (6 : Int32).toInt = 6 := rfl
  have k10 : (10 : Int32).toInt = 10 := rfl
  have k32 : (32 : Int32).toInt = 32 := rfl
  have k48 : (48 : Int32).toInt = 48 := rfl
  intro N
  induction N with
  | zero => intro p m v h1 h2 h3 h4 h5 hr; exact hr.no.elim
  | succ N ih =>
    intro p m v h1 h2 h3 h4 h5 hr
    have k99999 : (99999 : Int32).toInt = 99999 := rfl
    replace hr := hr.go1 (s_aload_n t154_162 rfl)
    replace hr := hr.cvI t154_163 rfl rfl (ct_here_p (b := b) (n := n) (p := p) hG hn (by omega) (by (repeat rw [xu_row (by decide)]); exact h1) (by (repeat rw [xu_oth (by decide)]); exact h2) (by (repeat rw [xu_oth (by decide)]); exact h3))
    replace hr := hr.csI t154_166 rfl rfl (ct_digit)
    rcases hr.zEq t154_169 with ⟨c1, hr⟩ | ⟨c1, hr⟩
    · rw [scn_f (fun q => by rw [byt_lt q] at c1; exact bI_0 c1)]
      refine (hr.mono (by omega)).to ?_
      dsimp only
      rw [xu_id (a := 128) (k := 27) h4, xu_id h2]
    · have hlt2 : byt b n p = b p := by
        rcases Nat.lt_or_ge p n with q | q
        · exact byt_lt q
        · rw [byt_ge q] at c1; exact absurd rfl c1
      replace hr := hr.go (s_aload_n t154_172 rfl)
      replace hr := hr.go (s_aload_n t154_173 rfl)
      replace hr := hr.go (s_getf t154_174)
      replace hr := hr.go (s_ldc t154_177 rfl)
      rcases hr.bLe t154_179 with ⟨c2, hr⟩ | ⟨c2, hr⟩
      · skip
        replace hr := hr.go (s_k t154_189)
        replace hr := hr.go (s_aload_n t154_191 rfl)
        replace hr := hr.go (s_getf t154_192)
        replace hr := hr.go (s_imul t154_195)
        replace hr := hr.go (s_aload_n t154_196 rfl)
        replace hr := hr.cvI t154_197 rfl rfl (ct_here_p (b := b) (n := n) (p := p) hG hn (by omega) (by (repeat rw [xu_row (by decide)]); exact h1) (by (repeat rw [xu_oth (by decide)]); exact h2) (by (repeat rw [xu_oth (by decide)]); exact h3))
        rw [hlt2] at hr
        replace hr := hr.go (s_iadd t154_200)
        replace hr := hr.go (s_k t154_201)
        replace hr := hr.go (s_isub t154_203)
        replace hr := hr.go (s_putf t154_204)
        replace hr := hr.go (s_aload_n t154_207 rfl)
        replace hr := hr.go (s_dup t154_208 rfl)
        replace hr := hr.go (s_getf t154_209)
        replace hr := hr.go (s_k t154_212)
        replace hr := hr.go (s_iadd t154_213)
        replace hr := hr.go (s_putf t154_214)
        replace hr := hr.go (s_goto t154_217)
        have hlt : p < n := by
          rcases Nat.lt_or_ge p n with q | q
          · exact q
          · rw [byt_ge q] at c1; exact absurd rfl c1
        rw [byt_lt hlt] at c1
        have hq : p < n ∧ True := ⟨hlt, trivial⟩
        rw [scn_t hlt (bI_1 c1)]
        refine ((ih (p + 1) _ (fR v (b p)) ?_ ?_ ?_ ?_ hlt hr).mono (by omega)).to ?_
        · rw [xu_row (by decide), xu_row (by decide)]; exact h1
        · rw [xu_same, xu_oth (by decide), h2, xn_1]
        · rw [xu_oth (by decide), xu_oth (by decide), h3]
        · rw [xu_oth (by decide), xu_same]; unfold fR; rw [if_neg (by rw [← h4]; omega)]; rw [h4]
        · funext a k
          simp only [xu]
          (repeat' split) <;> first | rfl | omega
      · skip
        replace hr := hr.go (s_aload_n t154_182 rfl)
        replace hr := hr.go (s_getf t154_183)
        replace hr := hr.go (s_goto t154_186)
        replace hr := hr.go (s_putf t154_204)
        replace hr := hr.go (s_aload_n t154_207 rfl)
        replace hr := hr.go (s_dup t154_208 rfl)
        replace hr := hr.go (s_getf t154_209)
        replace hr := hr.go (s_k t154_212)
        replace hr := hr.go (s_iadd t154_213)
        replace hr := hr.go (s_putf t154_214)
        replace hr := hr.go (s_goto t154_217)
        have hlt : p < n := by
          rcases Nat.lt_or_ge p n with q | q
          · exact q
          · rw [byt_ge q] at c1; exact absurd rfl c1
        rw [byt_lt hlt] at c1
        have hq : p < n ∧ True := ⟨hlt, trivial⟩
        rw [scn_t hlt (bI_1 c1)]
        refine ((ih (p + 1) _ (fR v (b p)) ?_ ?_ ?_ ?_ hlt hr).mono (by omega)).to ?_
        · rw [xu_row (by decide), xu_row (by decide)]; exact h1
        · rw [xu_same, xu_oth (by decide), h2, xn_1]
        · rw [xu_oth (by decide), xu_oth (by decide), h3]
        · rw [xu_oth (by decide), xu_same]; unfold fR; rw [if_pos (by rw [← h4]; omega), h4]
        · funext a k
          simp only [xu]
          (repeat' split) <;> first | rfl | omega

theorem ct_tok {nf : Bool} {xs : List Int32} {d : Nat} {m : xM} {g : xL} {G : xG} {b : Nat → Int32} {n p : Nat} (hG : GM G) (hn : n ≤ 700) (hb : ∀ i : Nat, i < n → 0 ≤ (b i).toInt) (hb2 : ∀ i : Nat, i < n → (b i).toInt < 256) (h1 : m 129 = b) (h2 : m 128 24 = Int32.ofNat p) (h3 : m 128 23 = Int32.ofNat n) (hp : p ≤ n) : CT nf xs d 154 [.ref 128] m g G (PE none (tkR m (tokM b n p (m 128 27))) g) := by
  refine CT.of (c := 11) (ini := false) (nL := 2) (rt := none) (tab := zt154) rfl (fun d' r h' N hd hr => ?_)
  replace hr : RR nf xs d' 11 false 2 (none) zt154 G r h' N (0, [(0, .ref 128)], [], m, g) := hr
  have km1 : (-1 : Int32).toInt = -1 := rfl
  have k1 : (1 : Int32).toInt = 1 := rfl
  have k2 : (2 : Int32).toInt = 2 := rfl
  have k4 : (4 : Int32).toInt = 4 := rfl
  have k5 : (5 : Int32).toInt = 5 := rfl
  have k6 : (6 : Int32).toInt = 6 := rfl
  have k10 : (10 : Int32).toInt = 10 := rfl
  have k32 : (32 : Int32).toInt = 32 := rfl
  have k48 : (48 : Int32).toInt = 48 := rfl
  replace hr := lp154a hG hn N p m h1 h2 h3 hp hr
  have hle := (scn_le (q := blk) (f := fU) (b := b) (n := n) _ p () rfl hp).2.1
  generalize hS : (scn blk fU b n p ()).1 = s at hr hle
  rcases (show s = n ∨ s < n by omega) with hsn | hsn
  · replace hr := hr.go (s_aload_n t154_31 rfl)
    replace hr := hr.go (s_aload_n t154_32 rfl)
    replace hr := hr.go (s_getf t154_33)
    rw [xu_same] at hr
    replace hr := hr.go (s_putf t154_36)
    replace hr := hr.go (s_aload_n t154_39 rfl)
    replace hr := hr.cvI t154_40 rfl rfl (ct_here_p (b := b) (n := n) (p := s) hG hn (by omega) (by (repeat rw [xu_row (by decide)]); exact h1) (by (repeat rw [xu_oth (by decide)]); rw [xu_same]) (by (repeat rw [xu_oth (by decide)]); exact h3))
    rw [byt_ge (show n ≤ s by omega)] at hr
    replace hr := hr.go (s_istore_n (ls' := [(1, _), (0, _)]) t154_43 rfl)
    replace hr := hr.go (s_iload_n t154_44 rfl)
    replace hr := hr.go (s_k t154_45)
    rcases hr.bNe t154_46 with ⟨c1, hr⟩ | ⟨c1, hr⟩
    · exact absurd rfl c1
    · replace hr := hr.go (s_aload_n t154_49 rfl)
      replace hr := hr.go (s_k t154_50)
      replace hr := hr.go (s_putf t154_51)
      replace hr := hr.go (s_goto t154_54)
      obtain ⟨rfl, hs⟩ := hr.ret t154_225
      refine ⟨_, _, hs, rfl, ?_, rfl⟩
      unfold tokM
      rw [hS]
      rw [if_pos (show n ≤ s by omega)]
      exact xextN rfl rfl rfl rfl (fun a k h => by unfold tkR; (try dsimp only); repeat rw [xu_oth (by omega)])
  · replace hr := hr.go (s_aload_n t154_31 rfl)
    replace hr := hr.go (s_aload_n t154_32 rfl)
    replace hr := hr.go (s_getf t154_33)
    rw [xu_same] at hr
    replace hr := hr.go (s_putf t154_36)
    replace hr := hr.go (s_aload_n t154_39 rfl)
    replace hr := hr.cvI t154_40 rfl rfl (ct_here_p (b := b) (n := n) (p := s) hG hn (by omega) (by (repeat rw [xu_row (by decide)]); exact h1) (by (repeat rw [xu_oth (by decide)]); rw [xu_same]) (by (repeat rw [xu_oth (by decide)]); exact h3))
    rw [byt_lt hsn] at hr
    replace hr := hr.go (s_istore_n (ls' := [(1, _), (0, _)]) t154_43 rfl)
    replace hr := hr.go (s_iload_n t154_44 rfl)
    replace hr := hr.go (s_k t154_45)
    rcases hr.bNe t154_46 with ⟨c1, hr⟩ | ⟨c1, hr⟩
    · replace hr := hr.go (s_iload_n t154_57 rfl)
      replace hr := hr.csI t154_58 rfl rfl (ct_small)
      rcases hr.zEq t154_61 with ⟨c2, hr⟩ | ⟨c2, hr⟩
      · replace hr := hr.go (s_iload_n t154_145 rfl)
        replace hr := hr.csI t154_146 rfl rfl (ct_digit)
        rcases hr.zEq t154_149 with ⟨c3, hr⟩ | ⟨c3, hr⟩
        · skip
          replace hr := hr.go (s_aload_n t154_220 rfl)
          replace hr := hr.go (s_iload_n t154_221 rfl)
          replace hr := hr.cvN t154_222 rfl rfl (ct_signM (b := b) (n := n) (s := s) hG hn hsn (hb2 s hsn) (by (repeat rw [xu_row (by decide)]); exact h1) rfl (by (repeat rw [xu_oth (by decide)]); exact h3))
          obtain ⟨rfl, hs⟩ := hr.ret t154_225
          refine ⟨_, _, hs, rfl, ?_, rfl⟩
          unfold tokM
          rw [hS]
          rw [if_neg (show ¬ n ≤ s by omega)]
          rw [if_neg (by rw [bI_0 c2]; decide), if_neg (by rw [bI_0 c3]; decide)]
          exact xextN rfl rfl rfl rfl (fun a k h => by unfold tkR; (try dsimp only); repeat rw [xu_oth (by omega)])
        · skip
          replace hr := hr.go (s_aload_n t154_152 rfl)
          replace hr := hr.go (s_k t154_153)
          replace hr := hr.go (s_putf t154_154)
          replace hr := hr.go (s_aload_n t154_157 rfl)
          replace hr := hr.go (s_k t154_158)
          replace hr := hr.go (s_putf t154_159)
          replace hr := lp154c (b := b) hG hn N s _ 0 (by (repeat rw [xu_row (by decide)]); exact h1) (by (repeat rw [xu_oth (by decide)]); rw [xu_same]) (by (repeat rw [xu_oth (by decide)]); exact h3) (by rw [xu_same]) (by omega) hr
          obtain ⟨rfl, hs⟩ := hr.ret t154_225
          refine ⟨_, _, hs, rfl, ?_, rfl⟩
          unfold tokM
          rw [hS]
          rw [if_neg (show ¬ n ≤ s by omega)]
          rw [if_neg (by rw [bI_0 c2]; decide), if_pos (bI_1 c3)]
          exact xextN rfl rfl rfl rfl (fun a k h => by unfold tkR; (try dsimp only); repeat rw [xu_oth (by omega)])
      replace hr := lp154b (b := b) hG hn N s _ (by (repeat rw [xu_row (by decide)]); exact h1) (by rw [xu_oth (by decide), xu_same]) (by (repeat rw [xu_oth (by decide)]); exact h3) (by omega) hr
      have hle2 := scn_le (q := ltr) (f := fU) (b := b) (n := n) _ s () rfl (by omega)
      generalize hE : (scn ltr fU b n s ()).1 = e at hr hle2
      skip
      replace hr := hr.go (s_aload_n t154_87 rfl)
      replace hr := hr.go (s_aload_n t154_88 rfl)
      replace hr := hr.cvI t154_89 rfl rfl (ct_wordM (b := b) (s := s) (e := e) hG (by omega) (by omega) (by (repeat rw [xu_row (by decide)]); exact h1) (by (repeat rw [xu_oth (by decide)]); rw [xu_same]) (by rw [xu_same]))
      replace hr := hr.go (s_putf t154_92)
      replace hr := hr.go (s_aload_n t154_95 rfl)
      replace hr := hr.go (s_aload_n t154_96 rfl)
      replace hr := hr.go (s_getf t154_97)
      rw [xu_same] at hr
      replace hr := hr.go (s_k t154_100)
      rcases hr.bEq t154_101 with ⟨c3, hr⟩ | ⟨c3, hr⟩
      · replace hr := hr.go (s_aload_n t154_108 rfl)
        replace hr := hr.go (s_getf t154_109)
        replace hr := hr.go (s_aload_n t154_112 rfl)
        replace hr := hr.go (s_getf t154_113)
        replace hr := hr.go (s_isub t154_116)
        rw [show (xu (xu (xu (xu m 128 24 (Int32.ofNat s)) 128 25 (Int32.ofNat s)) 128 24 (Int32.ofNat e)) 128 27 (wdM b s e 114 0 0)) 128 24 = Int32.ofNat e from rfl, show (xu (xu (xu (xu m 128 24 (Int32.ofNat s)) 128 25 (Int32.ofNat s)) 128 24 (Int32.ofNat e)) 128 27 (wdM b s e 114 0 0)) 128 25 = Int32.ofNat s from rfl, xn_sub (by omega)] at hr
        replace hr := hr.go (s_k t154_117)
        rcases hr.bLe t154_119 with ⟨c4, hr⟩ | ⟨c4, hr⟩
        · skip
          replace hr := hr.go (s_k t154_126)
          replace hr := hr.go (s_putf t154_127)
          replace hr := hr.go (s_aload_n t154_130 rfl)
          replace hr := hr.go (s_getf t154_131)
          rw [xu_same] at hr
          replace hr := hr.go (s_k t154_134)
          rcases hr.bNe t154_135 with ⟨c5, hr⟩ | ⟨c5, hr⟩
          · exact absurd rfl c5
          · replace hr := hr.go (s_aload_n t154_138 rfl)
            replace hr := hr.cvN t154_139 rfl rfl (ct_name (b := b) (s := s) (e := e) hG (by omega) (by omega) (by (repeat rw [xu_row (by decide)]); exact h1) rfl rfl)
            replace hr := hr.go (s_goto t154_142)
            obtain ⟨rfl, hs⟩ := hr.ret t154_225
            refine ⟨_, _, hs, rfl, ?_, rfl⟩
            unfold tokM
            rw [hS]
            rw [if_neg (show ¬ n ≤ s by omega)]
            rw [if_pos (bI_1 c2), if_neg (by rw [hE]; exact fun q => q c3), hE, if_neg (by rw [k6, xn_int (by omega)] at c4; omega)]
            exact xextN rfl rfl rfl rfl (fun a k h => by unfold tkR; (try dsimp only); repeat rw [xu_oth (by omega)])
        · skip
          replace hr := hr.go (s_k t154_122)
          replace hr := hr.go (s_goto t154_123)
          replace hr := hr.go (s_putf t154_127)
          replace hr := hr.go (s_aload_n t154_130 rfl)
          replace hr := hr.go (s_getf t154_131)
          rw [xu_same] at hr
          replace hr := hr.go (s_k t154_134)
          rcases hr.bNe t154_135 with ⟨c6, hr⟩ | ⟨c6, hr⟩
          · obtain ⟨rfl, hs⟩ := hr.ret t154_225
            refine ⟨_, _, hs, rfl, ?_, rfl⟩
            unfold tokM
            rw [hS]
            rw [if_neg (show ¬ n ≤ s by omega)]
            rw [if_pos (bI_1 c2), if_neg (by rw [hE]; exact fun q => q c3), hE, if_pos (by rw [k6, xn_int (by omega)] at c4; omega)]
            exact xextN rfl rfl rfl c3 (fun a k h => by unfold tkR; (try dsimp only); repeat rw [xu_oth (by omega)])
          · exact absurd c6 (by decide)
      · skip
        replace hr := hr.go (s_k t154_104)
        replace hr := hr.go (s_goto t154_105)
        replace hr := hr.go (s_putf t154_127)
        replace hr := hr.go (s_aload_n t154_130 rfl)
        replace hr := hr.go (s_getf t154_131)
        rw [xu_same] at hr
        replace hr := hr.go (s_k t154_134)
        rcases hr.bNe t154_135 with ⟨c7, hr⟩ | ⟨c7, hr⟩
        · obtain ⟨rfl, hs⟩ := hr.ret t154_225
          refine ⟨_, _, hs, rfl, ?_, rfl⟩
          unfold tokM
          rw [hS]
          rw [if_neg (show ¬ n ≤ s by omega)]
          rw [if_pos (bI_1 c2), if_pos (by rw [hE]; exact c3), hE]
          exact xextN rfl rfl rfl rfl (fun a k h => by unfold tkR; (try dsimp only); repeat rw [xu_oth (by omega)])
        · exact absurd c7 (by decide)
    · exact absurd (hb s hsn) (by rw [c1]; decide)
