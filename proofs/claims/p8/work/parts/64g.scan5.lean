/-! The class Scanner: the next token. -/
def fU (u : Unit) (_ : Int32) : Unit := u
def sg (x y : Int32) : Int32 × Nat :=
  if x = 59 then (4, 1) else if x = 40 then (5, 1) else if x = 41 then (6, 1) else if x = 43 then (10, 1) else if x = 45 then (11, 1) else if x = 42 then (12, 1) else if x = 47 then (13, 1) else if x = 61 then (16, 1)
  else if x = 60 then (bif decide (y = 61) then (15, 2) else bif decide (y = 62) then (17, 2) else (14, 1))
  else if x = 62 then (bif decide (y = 61) then (18, 2) else (19, 1)) else (1, 1)
/-- the byte behind, or none -/
def nxb (b : Nat → Int32) (n s : Nat) : Int32 := if s + 1 < n then b (s + 1) else -1
theorem tks_y {M : xM} {b : Nat → Int32} {n s : Nat} {c : Int32} (h1 : M 1 = b) (h2 : M 3 3 = Int32.ofNat (s + 1)) (h3 : M 3 2 = Int32.ofNat n) (hs : s + 1 ≤ n) (hn : n ≤ 700) (hc : ¬ c = -1) : tks M c = decide (nxb b n s = c) := by
  unfold nxb
  rcases Nat.lt_or_ge (s + 1) n with h | h
  · rw [if_pos h]
    by_cases hb : b (s + 1) = c
    · rw [tks_t (by rw [h2, h3, xn_int (by omega), xn_int (by omega)]; omega) (by rw [h1, h2, xn_nat (by omega)]; exact hb), decide_eq_true hb]
    · rw [tks_f2 (by rw [h1, h2, xn_nat (by omega)]; exact hb), decide_eq_false hb]
  · rw [if_neg (by omega), tks_f1 (by rw [h2, h3, xn_int (by omega), xn_int (by omega)]; omega), decide_eq_false (fun q => hc q.symm)]
theorem sgk_sg {M : xM} {b : Nat → Int32} {n s : Nat} {x : Int32} (h1 : M 1 = b) (h2 : M 3 3 = Int32.ofNat (s + 1)) (h3 : M 3 2 = Int32.ofNat n) (hs : s + 1 ≤ n) (hn : n ≤ 700) : sgk x M = ((sg x (nxb b n s)).1, xu M 3 3 (Int32.ofNat (s + (sg x (nxb b n s)).2))) := by
  have e1 : xu M 3 3 (Int32.ofNat (s + 1)) = M := xu_id h2
  have e2 : xu M 3 3 (M 3 3 + 1) = xu M 3 3 (Int32.ofNat (s + 2)) := by rw [h2, xn_1]
  unfold sgk sg
  rw [tks_y h1 h2 h3 hs hn (by decide), tks_y h1 h2 h3 hs hn (by decide), e2]
  by_cases c1 : x = 59
  · rw [if_pos c1, if_pos c1, e1]
  rw [if_neg c1, if_neg c1]
  by_cases c1 : x = 40
  · rw [if_pos c1, if_pos c1, e1]
  rw [if_neg c1, if_neg c1]
  by_cases c1 : x = 41
  · rw [if_pos c1, if_pos c1, e1]
  rw [if_neg c1, if_neg c1]
  by_cases c1 : x = 43
  · rw [if_pos c1, if_pos c1, e1]
  rw [if_neg c1, if_neg c1]
  by_cases c1 : x = 45
  · rw [if_pos c1, if_pos c1, e1]
  rw [if_neg c1, if_neg c1]
  by_cases c1 : x = 42
  · rw [if_pos c1, if_pos c1, e1]
  rw [if_neg c1, if_neg c1]
  by_cases c1 : x = 47
  · rw [if_pos c1, if_pos c1, e1]
  rw [if_neg c1, if_neg c1]
  by_cases c1 : x = 61
  · rw [if_pos c1, if_pos c1, e1]
  rw [if_neg c1, if_neg c1]
  by_cases c1 : x = 60
  · rw [if_pos c1, if_pos c1]
    cases decide (nxb b n s = 61) with
    | true => rfl
    | false =>
      cases decide (nxb b n s = 62) with
      | true => rfl
      | false => dsimp only [cond_false]; rw [e1]
  rw [if_neg c1, if_neg c1]
  by_cases c1 : x = 62
  · rw [if_pos c1, if_pos c1]
    cases decide (nxb b n s = 61) with
    | true => rfl
    | false => dsimp only [cond_false]; rw [e1]
  rw [if_neg c1, if_neg c1, e1]
/-- a token: kind, value, place, where the next one may begin -/
def tokC (b wd : Nat → Int32) (n p : Nat) : Int32 × Int32 × Nat × Nat :=
  if n ≤ (scn blk fU b n p ()).1 then (0, 0, (scn blk fU b n p ()).1, (scn blk fU b n p ()).1)
  else if ltr (b (scn blk fU b n p ()).1) = true then
    (if 6 < (scn ltr fW b n (scn blk fU b n p ()).1 (0, 0)).2.1.toInt then (1, 0, (scn blk fU b n p ()).1, (scn ltr fW b n (scn blk fU b n p ()).1 (0, 0)).1)
     else (wlk wd ((scn ltr fW b n (scn blk fU b n p ()).1 (0, 0)).2.2 <<< ((5 * (6 - (scn ltr fW b n (scn blk fU b n p ()).1 (0, 0)).2.1)) &&& 31)) 22 0 3, (scn ltr fW b n (scn blk fU b n p ()).1 (0, 0)).2.2 <<< ((5 * (6 - (scn ltr fW b n (scn blk fU b n p ()).1 (0, 0)).2.1)) &&& 31), (scn blk fU b n p ()).1, (scn ltr fW b n (scn blk fU b n p ()).1 (0, 0)).1))
  else if dgt (b (scn blk fU b n p ()).1) = true then (2, (scn dgt fN b n (scn blk fU b n p ()).1 0).2, (scn blk fU b n p ()).1, (scn dgt fN b n (scn blk fU b n p ()).1 0).1)
  else ((sg (b (scn blk fU b n p ()).1) (nxb b n (scn blk fU b n p ()).1)).1, 0, (scn blk fU b n p ()).1, (scn blk fU b n p ()).1 + (sg (b (scn blk fU b n p ()).1) (nxb b n (scn blk fU b n p ()).1)).2)
def tkM (m : xM) (t : Int32 × Int32 × Nat × Nat) : xM := xu (xu (xu (xu m 3 6 (Int32.ofNat t.2.2.1)) 3 5 t.2.1) 3 4 t.1) 3 3 (Int32.ofNat t.2.2.2)
theorem xext {m1 m2 : xM} (h3 : m1 3 3 = m2 3 3) (h4 : m1 3 4 = m2 3 4) (h5 : m1 3 5 = m2 3 5) (h6 : m1 3 6 = m2 3 6) (ho : ∀ a k : Nat, ¬ (a = 3 ∧ 3 ≤ k ∧ k ≤ 6) → m1 a k = m2 a k) : m1 = m2 := by
  funext a k
  by_cases h : a = 3 ∧ 3 ≤ k ∧ k ≤ 6
  · obtain ⟨rfl, q1, q2⟩ := h
    rcases (show k = 3 ∨ k = 4 ∨ k = 5 ∨ k = 6 by omega) with rfl | rfl | rfl | rfl
    · exact h3
    · exact h4
    · exact h5
    · exact h6
  · exact ho a k h

theorem lp77 {nf : Bool} {xs : List Int32} {d : Nat} {g : xL} {G : xG} {r : Option Value} {h' : zH} {b : Nat → Int32} {n : Nat} (hG : GS G) (hn : n ≤ 700) : ∀ (N : Nat) (p : Nat) (m : xM), m 1 = b → m 3 3 = Int32.ofNat p → m 3 2 = Int32.ofNat n → p ≤ n → RR nf xs d 6 false 2 (none) zt77 G r h' N (0, [(0, .ref 3)], [], m, g) → RR nf xs d 6 false 2 (none) zt77 G r h' N (42, [(0, .ref 3)], [], xu m 3 3 (Int32.ofNat (scn blk fU b n p ()).1), g) := by
  have km1 : (-1 : Int32).toInt = -1 := rfl
  have k1 : (1 : Int32).toInt = 1 := rfl
  have k10 : (10 : Int32).toInt = 10 := rfl
  have k32 : (32 : Int32).toInt = 32 := rfl
  intro N
  induction N with
  | zero => intro p m h1 h2 h3 h4 hr; exact hr.no.elim
  | succ N ih =>
    intro p m h1 h2 h3 h4 hr
    replace hr := hr.go1 (s_aload_n t77_0 rfl)
    replace hr := hr.go (s_getf t77_1)
    replace hr := hr.go (s_aload_n t77_4 rfl)
    replace hr := hr.go (s_getf t77_5)
    rcases hr.bGe t77_8 with ⟨c1, hr⟩ | ⟨c1, hr⟩
    · rw [scn_f (fun q => by rw [h2, h3, xn_int (by omega), xn_int (by omega)] at c1; omega)]
      refine (hr.mono (by omega)).to ?_
      exact (xu_id h2).symm
    · have hp : p < n := by rw [h2, h3, xn_int (by omega), xn_int (by omega)] at c1; omega
      have hpk : pk m = b p := pk_at h1 h2 h3 hp hn
      replace hr := hr.go (s_aload_n t77_11 rfl)
      replace hr := hr.cvI t77_12 rfl rfl (ct_peek hG)
      rw [hpk] at hr
      replace hr := hr.go (s_k t77_15)
      rcases hr.bEq t77_17 with ⟨c2, hr⟩ | ⟨c2, hr⟩
      · replace hr := hr.go (s_aload_n t77_29 rfl)
        replace hr := hr.go (s_dup t77_30 rfl)
        replace hr := hr.go (s_getf t77_31)
        replace hr := hr.go (s_k t77_34)
        replace hr := hr.go (s_iadd t77_35)
        replace hr := hr.go (s_putf t77_36)
        replace hr := hr.go (s_goto t77_39)
        rw [scn_t hp (blk_t (Or.inl c2))]
        refine ((ih (p + 1) _ ?_ ?_ ?_ hp hr).mono (by omega)).to ?_
        · rw [xu_row (by decide)]; exact h1
        · rw [xu_same, h2, xn_1]
        · rw [xu_oth (by decide), h3]
        · exact xu_xu
      · replace hr := hr.go (s_aload_n t77_20 rfl)
        replace hr := hr.cvI t77_21 rfl rfl (ct_peek hG)
        rw [hpk] at hr
        replace hr := hr.go (s_k t77_24)
        rcases hr.bNe t77_26 with ⟨c3, hr⟩ | ⟨c3, hr⟩
        · rw [scn_f (fun _ => blk_f c2 c3)]
          refine (hr.mono (by omega)).to ?_
          exact (xu_id h2).symm
        · replace hr := hr.go (s_aload_n t77_29 rfl)
          replace hr := hr.go (s_dup t77_30 rfl)
          replace hr := hr.go (s_getf t77_31)
          replace hr := hr.go (s_k t77_34)
          replace hr := hr.go (s_iadd t77_35)
          replace hr := hr.go (s_putf t77_36)
          replace hr := hr.go (s_goto t77_39)
          rw [scn_t hp (blk_t (Or.inr c3))]
          refine ((ih (p + 1) _ ?_ ?_ ?_ hp hr).mono (by omega)).to ?_
          · rw [xu_row (by decide)]; exact h1
          · rw [xu_same, h2, xn_1]
          · rw [xu_oth (by decide), h3]
          · exact xu_xu

theorem ct_adv {nf : Bool} {xs : List Int32} {d : Nat} {m : xM} {g : xL} {G : xG} {b wd : Nat → Int32} {n p : Nat} (hG : GS G) (hn : n ≤ 700) (hb : ∀ i : Nat, i < n → 0 ≤ (b i).toInt) (h1 : m 1 = b) (h2 : m 3 3 = Int32.ofNat p) (h3 : m 3 2 = Int32.ofNat n) (h4 : m 4 = wd) (hp : p ≤ n) : CT nf xs d 77 [.ref 3] m g G (PE none (tkM m (tokC b wd n p)) g) := by
  refine CT.of (c := 6) (ini := false) (nL := 2) (rt := none) (tab := zt77) rfl (fun d' r h' N hd hr => ?_)
  replace hr : RR nf xs d' 6 false 2 (none) zt77 G r h' N (0, [(0, .ref 3)], [], m, g) := hr
  have km1 : (-1 : Int32).toInt = -1 := rfl
  have k1 : (1 : Int32).toInt = 1 := rfl
  have k10 : (10 : Int32).toInt = 10 := rfl
  have k32 : (32 : Int32).toInt = 32 := rfl
  replace hr := lp77 hG hn N p m h1 h2 h3 hp hr
  have hle := (scn_le (q := blk) (f := fU) (b := b) (n := n) _ p () rfl hp).2.1
  generalize hS : (scn blk fU b n p ()).1 = s at hr hle
  rcases (show s = n ∨ s < n by omega) with hsn | hsn
  · replace hr := hr.go (s_aload_n t77_42 rfl)
    replace hr := hr.go (s_aload_n t77_43 rfl)
    replace hr := hr.go (s_getf t77_44)
    rw [xu_same] at hr
    replace hr := hr.go (s_putf t77_47)
    replace hr := hr.go (s_aload_n t77_50 rfl)
    replace hr := hr.go (s_k t77_51)
    replace hr := hr.go (s_putf t77_52)
    replace hr := hr.go (s_aload_n t77_55 rfl)
    replace hr := hr.cvI t77_56 rfl rfl (ct_peek hG)
    rw [pk_end (m := (xu (xu (xu m 3 3 (Int32.ofNat s)) 3 6 (Int32.ofNat s)) 3 5 0)) (by rw [xu_oth (by decide), xu_oth (by decide), xu_same]) (by rw [xu_oth (by decide), xu_oth (by decide), xu_oth (by decide)]; exact h3) hsn hn] at hr
    replace hr := hr.go (s_istore_n (ls' := [(1, _), (0, _)]) t77_59 rfl)
    replace hr := hr.go (s_iload_n t77_60 rfl)
    replace hr := hr.go (s_k t77_61)
    rcases hr.bNe t77_62 with ⟨c1, hr⟩ | ⟨c1, hr⟩
    · exact absurd rfl c1
    · replace hr := hr.go (s_aload_n t77_65 rfl)
      replace hr := hr.go (s_k t77_66)
      replace hr := hr.go (s_putf t77_67)
      replace hr := hr.go (s_goto t77_70)
      obtain ⟨rfl, hs⟩ := hr.ret t77_120
      exact ⟨_, _, hs, rfl, (by unfold tokC; rw [hS, if_pos (by omega)]; exact xext rfl rfl rfl rfl (fun a k h => by unfold tkM; (try dsimp only); repeat rw [xu_oth (by omega)])), rfl⟩
  · replace hr := hr.go (s_aload_n t77_42 rfl)
    replace hr := hr.go (s_aload_n t77_43 rfl)
    replace hr := hr.go (s_getf t77_44)
    rw [xu_same] at hr
    replace hr := hr.go (s_putf t77_47)
    replace hr := hr.go (s_aload_n t77_50 rfl)
    replace hr := hr.go (s_k t77_51)
    replace hr := hr.go (s_putf t77_52)
    replace hr := hr.go (s_aload_n t77_55 rfl)
    replace hr := hr.cvI t77_56 rfl rfl (ct_peek hG)
    rw [pk_at (b := b) (m := (xu (xu (xu m 3 3 (Int32.ofNat s)) 3 6 (Int32.ofNat s)) 3 5 0)) (by rw [xu_row (by decide), xu_row (by decide), xu_row (by decide)]; exact h1) (by rw [xu_oth (by decide), xu_oth (by decide), xu_same]) (by rw [xu_oth (by decide), xu_oth (by decide), xu_oth (by decide)]; exact h3) hsn hn] at hr
    replace hr := hr.go (s_istore_n (ls' := [(1, _), (0, _)]) t77_59 rfl)
    replace hr := hr.go (s_iload_n t77_60 rfl)
    replace hr := hr.go (s_k t77_61)
    rcases hr.bNe t77_62 with ⟨c1, hr⟩ | ⟨c1, hr⟩
    · replace hr := hr.go (s_iload_n t77_73 rfl)
      replace hr := hr.csI t77_74 rfl rfl (ct_isLetter)
      rcases hr.zEq t77_77 with ⟨c2, hr⟩ | ⟨c2, hr⟩
      · replace hr := hr.go (s_iload_n t77_87 rfl)
        replace hr := hr.csI t77_88 rfl rfl (ct_isDigit)
        rcases hr.zEq t77_91 with ⟨c3, hr⟩ | ⟨c3, hr⟩
        · replace hr := hr.go (s_aload_n t77_101 rfl)
          replace hr := hr.go (s_dup t77_102 rfl)
          replace hr := hr.go (s_getf t77_103)
          replace hr := hr.go (s_k t77_106)
          replace hr := hr.go (s_iadd t77_107)
          replace hr := hr.go (s_putf t77_108)
          replace hr := hr.go (s_aload_n t77_111 rfl)
          replace hr := hr.go (s_aload_n t77_112 rfl)
          replace hr := hr.go (s_iload_n t77_113 rfl)
          replace hr := hr.cvI t77_114 rfl rfl (ct_sign hG)
          replace hr := hr.go (s_putf t77_117)
          obtain ⟨rfl, hs⟩ := hr.ret t77_120
          refine ⟨_, _, hs, rfl, ?_, rfl⟩
          unfold tokC
          rw [hS, if_neg (by omega), if_neg (by rw [bI_0 c2]; decide), if_neg (by rw [bI_0 c3]; decide)]
          rw [sgk_sg (b := b) (n := n) (s := s) (by rw [xu_row (by decide), xu_row (by decide), xu_row (by decide), xu_row (by decide)]; exact h1) (by rw [xu_same, xu_oth (by decide), xu_oth (by decide), xu_same, xn_1]) (by rw [xu_oth (by decide), xu_oth (by decide), xu_oth (by decide), xu_oth (by decide)]; exact h3) (by omega) hn]
          exact xext rfl rfl rfl rfl (fun a k h => by unfold tkM; (try dsimp only); repeat rw [xu_oth (by omega)])
        · replace hr := hr.go (s_aload_n t77_94 rfl)
          replace hr := hr.cvN t77_95 rfl rfl (ct_number (b := b) hG hn (by rw [xu_row (by decide), xu_row (by decide), xu_row (by decide)]; exact h1) (by rw [xu_oth (by decide), xu_oth (by decide), xu_same]) (by rw [xu_oth (by decide), xu_oth (by decide), xu_oth (by decide)]; exact h3) (by omega))
          replace hr := hr.go (s_goto t77_98)
          obtain ⟨rfl, hs⟩ := hr.ret t77_120
          refine ⟨_, _, hs, rfl, ?_, rfl⟩
          unfold tokC
          rw [hS, if_neg (by omega), if_neg (by rw [bI_0 c2]; decide), if_pos (bI_1 c3)]
          exact xext rfl rfl rfl rfl (fun a k h => by unfold tkM; (try dsimp only); repeat rw [xu_oth (by omega)])
      · replace hr := hr.go (s_aload_n t77_80 rfl)
        replace hr := hr.cvN t77_81 rfl rfl (ct_word (b := b) (wd := wd) hG hn (by rw [xu_row (by decide), xu_row (by decide), xu_row (by decide)]; exact h1) (by rw [xu_oth (by decide), xu_oth (by decide), xu_same]) (by rw [xu_oth (by decide), xu_oth (by decide), xu_oth (by decide)]; exact h3) (by rw [xu_row (by decide), xu_row (by decide), xu_row (by decide)]; exact h4) hsn (bI_1 c2))
        replace hr := hr.go (s_goto t77_84)
        obtain ⟨rfl, hs⟩ := hr.ret t77_120
        refine ⟨_, _, hs, rfl, ?_, rfl⟩
        unfold tokC
        rw [hS]
        by_cases h6 : 6 < (scn ltr fW b n s (0, 0)).2.1.toInt
        · rw [if_pos h6, if_neg (show ¬ n ≤ s by omega), if_pos (bI_1 c2), if_pos h6]
          exact xext rfl rfl rfl rfl (fun a k h => by unfold tkM; (try dsimp only); repeat rw [xu_oth (by omega)])
        · rw [if_neg h6, if_neg (show ¬ n ≤ s by omega), if_pos (bI_1 c2), if_neg h6]
          exact xext rfl rfl rfl rfl (fun a k h => by unfold tkM; (try dsimp only); repeat rw [xu_oth (by omega)])
    · exact absurd (hb s hsn) (by rw [c1]; decide)