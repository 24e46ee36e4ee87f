/-! The class Scanner: numbers. -/
theorem lp79 {nf : Bool} {xs : List Int32} {d : Nat} {g : xL} {G : xG} {r : Option Value} {h' : zH} {b : Nat → Int32} {n : Nat} (hG : GS G) (hn : n ≤ 700) : ∀ (N : Nat) (p : Nat) (m : xM) (v : Int32), m 1 = b → m 3 3 = Int32.ofNat p → m 3 2 = Int32.ofNat n → m 3 5 = v → p ≤ n → RR nf xs d 6 false 1 (none) zt79 G r h' N (5, [(0, .ref 3)], [], m, g) → RR nf xs d 6 false 1 (none) zt79 G r h' N (67, [(0, .ref 3)], [], xu (xu m 3 5 (scn dgt fN b n p v).2) 3 3 (Int32.ofNat (scn dgt fN b n p v).1), g) := by
  have k1 : (1 : Int32).toInt = 1 := rfl
  have k2 : (2 : Int32).toInt = 2 := rfl
  have k10 : (10 : Int32).toInt = 10 := rfl
  have k48 : (48 : Int32).toInt = 48 := rfl
  intro N
  induction N with
  | zero => intro p m v h1 h2 h3 h4 h5 hr; exact hr.no.elim
  | succ N ih =>
    intro p m v h1 h2 h3 h4 h5 hr
    have k1M : (1000000 : Int32).toInt = 1000000 := rfl
    replace hr := hr.go1 (s_aload_n t79_5 rfl)
    replace hr := hr.go (s_getf t79_6)
    replace hr := hr.go (s_aload_n t79_9 rfl)
    replace hr := hr.go (s_getf t79_10)
    rcases hr.bGe t79_13 with ⟨c1, hr⟩ | ⟨c1, hr⟩
    · refine (hr.mono (by omega)).to ?_
      rw [scn_f (fun q => by rw [h2, h3, xn_int (by omega), xn_int (by omega)] at c1; omega)]
      dsimp only
      rw [xu_id (a := 3) (k := 5) h4, xu_id h2]
    · have hp : p < n := by rw [h2, h3, xn_int (by omega), xn_int (by omega)] at c1; omega
      have hpk : pk m = b p := pk_at h1 h2 h3 hp hn
      replace hr := hr.go (s_aload_n t79_16 rfl)
      replace hr := hr.cvI t79_17 rfl rfl (ct_peek hG)
      rw [hpk] at hr
      replace hr := hr.csI t79_20 rfl rfl (ct_isDigit)
      rcases hr.zEq t79_23 with ⟨c2, hr⟩ | ⟨c2, hr⟩
      · refine (hr.mono (by omega)).to ?_
        rw [scn_f (fun _ => bI_0 c2)]
        dsimp only
        rw [xu_id (a := 3) (k := 5) h4, xu_id h2]
      · replace hr := hr.go (s_aload_n t79_26 rfl)
        replace hr := hr.go (s_getf t79_27)
        replace hr := hr.go (s_ldc t79_30 rfl)
        rcases hr.bGe t79_32 with ⟨c3, hr⟩ | ⟨c3, hr⟩
        · replace hr := hr.go (s_aload_n t79_54 rfl)
          replace hr := hr.go (s_dup t79_55 rfl)
          replace hr := hr.go (s_getf t79_56)
          replace hr := hr.go (s_k t79_59)
          replace hr := hr.go (s_iadd t79_60)
          replace hr := hr.go (s_putf t79_61)
          replace hr := hr.go (s_goto t79_64)
          refine ((ih (p + 1) _ (fN v (b p)) ?_ ?_ ?_ ?_ hp hr).mono (by omega)).to ?_
          · rw [xu_row (by decide)]; first | (rw [xu_row (by decide)]; exact h1) | exact h1
          · rw [xu_same]; first | (rw [xu_oth (by decide), h2, xn_1]) | (rw [h2, xn_1])
          · rw [xu_oth (by decide)]; first | (rw [xu_oth (by decide), h3]) | (rw [h3])
          · rw [xu_oth (by decide)]; unfold fN; first | (rw [xu_same, if_pos (by rw [← h4]; omega), h4]) | (rw [if_neg (by rw [← h4]; omega), h4])
          · rw [scn_t hp (bI_1 c2)]
            funext a k
            simp only [xu]
            (repeat' split) <;> first | rfl | omega
        · replace hr := hr.go (s_aload_n t79_35 rfl)
          replace hr := hr.go (s_aload_n t79_36 rfl)
          replace hr := hr.go (s_getf t79_37)
          replace hr := hr.go (s_k t79_40)
          replace hr := hr.go (s_imul t79_42)
          replace hr := hr.go (s_aload_n t79_43 rfl)
          replace hr := hr.cvI t79_44 rfl rfl (ct_peek hG)
          rw [hpk] at hr
          replace hr := hr.go (s_k t79_47)
          replace hr := hr.go (s_isub t79_49)
          replace hr := hr.go (s_iadd t79_50)
          replace hr := hr.go (s_putf t79_51)
          replace hr := hr.go (s_aload_n t79_54 rfl)
          replace hr := hr.go (s_dup t79_55 rfl)
          replace hr := hr.go (s_getf t79_56)
          replace hr := hr.go (s_k t79_59)
          replace hr := hr.go (s_iadd t79_60)
          replace hr := hr.go (s_putf t79_61)
          replace hr := hr.go (s_goto t79_64)
          refine ((ih (p + 1) _ (fN v (b p)) ?_ ?_ ?_ ?_ hp hr).mono (by omega)).to ?_
          · rw [xu_row (by decide)]; first | (rw [xu_row (by decide)]; exact h1) | exact h1
          · rw [xu_same]; first | (rw [xu_oth (by decide), h2, xn_1]) | (rw [h2, xn_1])
          · rw [xu_oth (by decide)]; first | (rw [xu_oth (by decide), h3]) | (rw [h3])
          · rw [xu_oth (by decide)]; unfold fN; first | (rw [xu_same, if_pos (by rw [← h4]; omega), h4]) | (rw [if_neg (by rw [← h4]; omega), h4])
          · rw [scn_t hp (bI_1 c2)]
            funext a k
            simp only [xu]
            (repeat' split) <;> first | rfl | omega

theorem ct_number {nf : Bool} {xs : List Int32} {d : Nat} {m : xM} {g : xL} {G : xG} {b : Nat → Int32} {n p : Nat} (hG : GS G) (hn : n ≤ 700) (h1 : m 1 = b) (h2 : m 3 3 = Int32.ofNat p) (h3 : m 3 2 = Int32.ofNat n) (hp : p ≤ n) : CT nf xs d 79 [.ref 3] m g G (PE none (xu (xu (xu m 3 4 2) 3 5 (scn dgt fN b n p (m 3 5)).2) 3 3 (Int32.ofNat (scn dgt fN b n p (m 3 5)).1)) g) := by
  refine CT.of (c := 6) (ini := false) (nL := 1) (rt := none) (tab := zt79) rfl (fun d' r h' N hd hr => ?_)
  replace hr : RR nf xs d' 6 false 1 none zt79 G r h' N (0, [(0, .ref 3)], [], m, g) := hr
  replace hr := hr.go (s_aload_n t79_0 rfl)
  replace hr := hr.go (s_k t79_1)
  replace hr := hr.go (s_putf t79_2)
  replace hr := lp79 (b := b) hG hn N p _ (m 3 5) (by rw [xu_row (by decide)]; exact h1) (by rw [xu_oth (by decide)]; exact h2) (by rw [xu_oth (by decide)]; exact h3) (by rw [xu_oth (by decide)]) hp hr
  obtain ⟨rfl, hs⟩ := hr.ret t79_67
  exact ⟨_, _, hs, rfl, rfl, rfl⟩