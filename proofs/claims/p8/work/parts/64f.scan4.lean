/-! The class Scanner: words. -/
def fW (s : Int32 × Int32) (c : Int32) : Int32 × Int32 := (s.1 + 1, if s.1.toInt < 6 then s.2 <<< (5 &&& 31) ||| (c - 97 + 1) else s.2)
def wlk (wd : Nat → Int32) (v : Int32) : Nat → Nat → Int32 → Int32
  | 0, _, k => k
  | f + 1, w, k => wlk wd v f (w + 1) (if wd w = v then 32 + Int32.ofNat w else k)

theorem lp78 {nf : Bool} {xs : List Int32} {d : Nat} {g : xL} {G : xG} {r : Option Value} {h' : zH} {b : Nat → Int32} {n : Nat} (hG : GS G) (hn : n ≤ 700) : ∀ (N : Nat) (p : Nat) (m : xM) (x y : Int32), m 1 = b → m 3 3 = Int32.ofNat p → m 3 2 = Int32.ofNat n → p ≤ n → RR nf xs d 6 false 4 (none) zt78 G r h' N (4, [(1, .int x), (2, .int y), (0, .ref 3)], [], m, g) → RR nf xs d 6 false 4 (none) zt78 G r h' N (61, [(1, .int (scn ltr fW b n p (x, y)).2.1), (2, .int (scn ltr fW b n p (x, y)).2.2), (0, .ref 3)], [], xu m 3 3 (Int32.ofNat (scn ltr fW b n p (x, y)).1), g) := by
  have k1 : (1 : Int32).toInt = 1 := rfl
  have k3 : (3 : Int32).toInt = 3 := rfl
  have k5 : (5 : Int32).toInt = 5 := rfl
  have k6 : (6 : Int32).toInt = 6 := rfl
  have k32 : (32 : Int32).toInt = 32 := rfl
  have k97 : (97 : Int32).toInt = 97 := rfl
  intro N
  induction N with
  | zero => intro p m x y h1 h2 h3 h4 hr; exact hr.no.elim
  | succ N ih =>
    intro p m x y h1 h2 h3 h4 hr
    replace hr := hr.go1 (s_aload_n t78_4 rfl)
    replace hr := hr.go (s_getf t78_5)
    replace hr := hr.go (s_aload_n t78_8 rfl)
    replace hr := hr.go (s_getf t78_9)
    rcases hr.bGe t78_12 with ⟨c1, hr⟩ | ⟨c1, hr⟩
    · rw [scn_f (fun q => by rw [h2, h3, xn_int (by omega), xn_int (by omega)] at c1; omega)]
      refine (hr.mono (by omega)).to ?_
      exact (xu_id h2).symm
    · have hp : p < n := by rw [h2, h3, xn_int (by omega), xn_int (by omega)] at c1; omega
      have hpk : pk m = b p := pk_at h1 h2 h3 hp hn
      replace hr := hr.go (s_aload_n t78_15 rfl)
      replace hr := hr.cvI t78_16 rfl rfl (ct_peek hG)
      rw [hpk] at hr
      replace hr := hr.csI t78_19 rfl rfl (ct_isLetter)
      rcases hr.zEq t78_22 with ⟨c2, hr⟩ | ⟨c2, hr⟩
      · rw [scn_f (fun _ => bI_0 c2)]
        refine (hr.mono (by omega)).to ?_
        exact (xu_id h2).symm
      · replace hr := hr.go (s_iload_n t78_25 rfl)
        replace hr := hr.go (s_k t78_26)
        rcases hr.bGe t78_28 with ⟨c3, hr⟩ | ⟨c3, hr⟩
        · skip
          replace hr := hr.go (s_iinc (ls' := [(1, _), (2, _), (0, _)]) t78_45 rfl rfl)
          replace hr := hr.go (s_aload_n t78_48 rfl)
          replace hr := hr.go (s_dup t78_49 rfl)
          replace hr := hr.go (s_getf t78_50)
          replace hr := hr.go (s_k t78_53)
          replace hr := hr.go (s_iadd t78_54)
          replace hr := hr.go (s_putf t78_55)
          replace hr := hr.go (s_goto t78_58)
          have hf : fW (x, y) (b p) = (x + 1, y) := by
            unfold fW
            rw [if_neg (by dsimp only; omega)]
          have e := scn_t (f := fW) (s := (x, y)) hp (bI_1 c2)
          rw [hf] at e
          rw [e]
          refine ((ih (p + 1) _ (x + 1) _ ?_ ?_ ?_ hp hr).mono (by omega)).to ?_
          · rw [xu_row (by decide)]; exact h1
          · rw [xu_same, h2, xn_1]
          · rw [xu_oth (by decide), h3]
          · exact xu_xu
        · have h6 := c3
          replace hr := hr.go (s_iload_n t78_31 rfl)
          replace hr := hr.go (s_k t78_32)
          replace hr := hr.go (s_ishl t78_33)
          replace hr := hr.go (s_aload_n t78_34 rfl)
          replace hr := hr.cvI t78_35 rfl rfl (ct_peek hG)
          rw [hpk] at hr
          replace hr := hr.go (s_k t78_38)
          replace hr := hr.go (s_isub t78_40)
          replace hr := hr.go (s_k t78_41)
          replace hr := hr.go (s_iadd t78_42)
          replace hr := hr.go (s_ior t78_43)
          replace hr := hr.go (s_istore_n (ls' := [(2, _), (1, _), (0, _)]) t78_44 rfl)
          skip
          replace hr := hr.go (s_iinc (ls' := [(1, _), (2, _), (0, _)]) t78_45 rfl rfl)
          replace hr := hr.go (s_aload_n t78_48 rfl)
          replace hr := hr.go (s_dup t78_49 rfl)
          replace hr := hr.go (s_getf t78_50)
          replace hr := hr.go (s_k t78_53)
          replace hr := hr.go (s_iadd t78_54)
          replace hr := hr.go (s_putf t78_55)
          replace hr := hr.go (s_goto t78_58)
          have hf : fW (x, y) (b p) = (x + 1, y <<< (5 &&& 31) ||| (b p - 97 + 1)) := by
            unfold fW
            rw [if_pos (by dsimp only; omega)]
          have e := scn_t (f := fW) (s := (x, y)) hp (bI_1 c2)
          rw [hf] at e
          rw [e]
          refine ((ih (p + 1) _ (x + 1) _ ?_ ?_ ?_ hp hr).mono (by omega)).to ?_
          · rw [xu_row (by decide)]; exact h1
          · rw [xu_same, h2, xn_1]
          · rw [xu_oth (by decide), h3]
          · exact xu_xu

theorem lw78 {nf : Bool} {xs : List Int32} {d : Nat} {g : xL} {G : xG} {r : Option Value} {h' : zH} {wd : Nat → Int32} {x y v : Int32} (hG : GS G) : ∀ (N : Nat) (w : Nat) (m : xM), m 4 = wd → m 3 5 = v → w ≤ 22 → RR nf xs d 6 false 4 (none) zt78 G r h' N (92, [(3, .int (Int32.ofNat w)), (1, .int x), (2, .int y), (0, .ref 3)], [], m, g) → RR nf xs d 6 false 4 (none) zt78 G r h' N (128, [(3, .int (Int32.ofNat 22)), (1, .int x), (2, .int y), (0, .ref 3)], [], xu m 3 4 (wlk wd v (22 - w) w (m 3 4)), g) := by
  have k1 : (1 : Int32).toInt = 1 := rfl
  have k3 : (3 : Int32).toInt = 3 := rfl
  have k5 : (5 : Int32).toInt = 5 := rfl
  have k6 : (6 : Int32).toInt = 6 := rfl
  have k32 : (32 : Int32).toInt = 32 := rfl
  have k97 : (97 : Int32).toInt = 97 := rfl
  intro N
  induction N with
  | zero => intro w m h1 h2 h3 hr; exact hr.no.elim
  | succ N ih =>
    intro w m h1 h2 h3 hr
    have k22 : (Int32.ofNat 22).toInt = 22 := rfl
    replace hr := hr.go1 (s_iload_n t78_92 rfl)
    replace hr := hr.go (s_aload_n t78_93 rfl)
    replace hr := hr.go (s_getr t78_94 (hG.1))
    replace hr := hr.go (s_alen t78_97 (hG.2.2.2))
    rcases hr.bGe t78_98 with ⟨c1, hr⟩ | ⟨c1, hr⟩
    · have hw : w = 22 := by rw [k22, xn_int (by omega)] at c1; omega
      subst hw
      refine (hr.mono (by omega)).to ?_
      exact (xu_id rfl).symm
    · have hw : w + 1 ≤ 22 := by rw [k22, xn_int (by omega)] at c1; omega
      replace hr := hr.go (s_aload_n t78_101 rfl)
      replace hr := hr.go (s_getr t78_102 (hG.1))
      replace hr := hr.go (s_iload_n t78_105 rfl)
      replace hr := hr.go (s_iaload t78_106 (hG.2.2.2))
      replace hr := hr.go (s_aload_n t78_107 rfl)
      replace hr := hr.go (s_getf t78_108)
      rcases hr.bNe t78_111 with ⟨c2, hr⟩ | ⟨c2, hr⟩
      · replace hr := hr.go (s_iinc (ls' := [(3, _), (1, _), (2, _), (0, _)]) t78_122 rfl rfl)
        replace hr := hr.go (s_goto t78_125)
        rw [show 22 - w = (22 - (w + 1)) + 1 by omega]
        show RR _ _ _ _ _ _ _ _ _ _ _ (N + 1) (_, _, _, xu m 3 4 (wlk wd v (22 - (w + 1)) (w + 1) (if wd w = v then 32 + Int32.ofNat w else m 3 4)), g)
        rw [if_neg (by rw [← h1, ← h2]; rw [xn_nat (by omega)] at c2; exact c2)]
        refine ((ih (w + 1) _ ?_ ?_ hw (xn_1 ▸ hr)).mono (by omega)).to ?_
        · exact h1
        · exact h2
        · rfl
      · replace hr := hr.go (s_aload_n t78_114 rfl)
        replace hr := hr.go (s_k t78_115)
        replace hr := hr.go (s_iload_n t78_117 rfl)
        replace hr := hr.go (s_iadd t78_118)
        replace hr := hr.go (s_putf t78_119)
        replace hr := hr.go (s_iinc (ls' := [(3, _), (1, _), (2, _), (0, _)]) t78_122 rfl rfl)
        replace hr := hr.go (s_goto t78_125)
        rw [show 22 - w = (22 - (w + 1)) + 1 by omega]
        show RR _ _ _ _ _ _ _ _ _ _ _ (N + 1) (_, _, _, xu m 3 4 (wlk wd v (22 - (w + 1)) (w + 1) (if wd w = v then 32 + Int32.ofNat w else m 3 4)), g)
        rw [if_pos (by rw [← h1, ← h2]; rw [xn_nat (by omega)] at c2; exact c2)]
        refine ((ih (w + 1) _ ?_ ?_ hw (xn_1 ▸ hr)).mono (by omega)).to ?_
        · rw [xu_row (by decide)]; exact h1
        · rw [xu_oth (by decide)]; exact h2
        · rw [xu_xu, xu_same]

theorem ct_word {nf : Bool} {xs : List Int32} {d : Nat} {m : xM} {g : xL} {G : xG} {b wd : Nat → Int32} {n p : Nat} (hG : GS G) (hn : n ≤ 700) (h1 : m 1 = b) (h2 : m 3 3 = Int32.ofNat p) (h3 : m 3 2 = Int32.ofNat n) (h4 : m 4 = wd) (hp : p < n) (hq : ltr (b p) = true) : CT nf xs d 78 [.ref 3] m g G (PE none (if 6 < (scn ltr fW b n p (0, 0)).2.1.toInt then xu (xu m 3 3 (Int32.ofNat (scn ltr fW b n p (0, 0)).1)) 3 4 1 else xu (xu (xu m 3 3 (Int32.ofNat (scn ltr fW b n p (0, 0)).1)) 3 5 ((scn ltr fW b n p (0, 0)).2.2 <<< ((5 * (6 - (scn ltr fW b n p (0, 0)).2.1)) &&& 31))) 3 4 (wlk wd ((scn ltr fW b n p (0, 0)).2.2 <<< ((5 * (6 - (scn ltr fW b n p (0, 0)).2.1)) &&& 31)) 22 0 3)) g) := by
  refine CT.of (c := 6) (ini := false) (nL := 4) (rt := none) (tab := zt78) rfl (fun d' r h' N hd hr => ?_)
  replace hr : RR nf xs d' 6 false 4 (none) zt78 G r h' N (0, [(0, .ref 3)], [], m, g) := hr
  have k1 : (1 : Int32).toInt = 1 := rfl
  have k3 : (3 : Int32).toInt = 3 := rfl
  have k5 : (5 : Int32).toInt = 5 := rfl
  have k6 : (6 : Int32).toInt = 6 := rfl
  have k32 : (32 : Int32).toInt = 32 := rfl
  have k97 : (97 : Int32).toInt = 97 := rfl
  have hpk : pk m = b p := pk_at h1 h2 h3 hp hn
  replace hr := hr.go (s_k t78_0)
  replace hr := hr.go (s_istore_n (ls' := [(1, _), (0, _)]) t78_1 rfl)
  replace hr := hr.go (s_k t78_2)
  replace hr := hr.go (s_istore_n (ls' := [(2, _), (1, _), (0, _)]) t78_3 rfl)
  replace hr := hr.go (s_aload_n t78_4 rfl)
  replace hr := hr.go (s_getf t78_5)
  replace hr := hr.go (s_aload_n t78_8 rfl)
  replace hr := hr.go (s_getf t78_9)
  rcases hr.bGe t78_12 with ⟨c1, hr⟩ | ⟨c1, hr⟩
  · rw [h2, h3, xn_int (by omega), xn_int (by omega)] at c1; omega
  · replace hr := hr.go (s_aload_n t78_15 rfl)
    replace hr := hr.cvI t78_16 rfl rfl (ct_peek hG)
    rw [hpk] at hr
    replace hr := hr.csI t78_19 rfl rfl (ct_isLetter)
    rcases hr.zEq t78_22 with ⟨c2, hr⟩ | ⟨c2, hr⟩
    · have c2 := bI_0 c2; rw [hq] at c2; cases c2
    · replace hr := hr.go (s_iload_n t78_25 rfl)
      replace hr := hr.go (s_k t78_26)
      rcases hr.bGe t78_28 with ⟨c3, hr⟩ | ⟨c3, hr⟩
      · exact absurd c3 (by decide)
      · replace hr := hr.go (s_iload_n t78_31 rfl)
        replace hr := hr.go (s_k t78_32)
        replace hr := hr.go (s_ishl t78_33)
        replace hr := hr.go (s_aload_n t78_34 rfl)
        replace hr := hr.cvI t78_35 rfl rfl (ct_peek hG)
        rw [hpk] at hr
        replace hr := hr.go (s_k t78_38)
        replace hr := hr.go (s_isub t78_40)
        replace hr := hr.go (s_k t78_41)
        replace hr := hr.go (s_iadd t78_42)
        replace hr := hr.go (s_ior t78_43)
        replace hr := hr.go (s_istore_n (ls' := [(2, _), (1, _), (0, _)]) t78_44 rfl)
        replace hr := hr.go (s_iinc (ls' := [(1, _), (2, _), (0, _)]) t78_45 rfl rfl)
        replace hr := hr.go (s_aload_n t78_48 rfl)
        replace hr := hr.go (s_dup t78_49 rfl)
        replace hr := hr.go (s_getf t78_50)
        replace hr := hr.go (s_k t78_53)
        replace hr := hr.go (s_iadd t78_54)
        replace hr := hr.go (s_putf t78_55)
        replace hr := hr.go (s_goto t78_58)
        have hf : fW (0, 0) (b p) = ((0 : Int32) + 1, (0 : Int32) <<< (5 &&& 31) ||| (b p - 97 + 1)) := rfl
        have e := scn_t (f := fW) (s := ((0 : Int32), (0 : Int32))) hp hq
        rw [hf] at e
        replace hr := lp78 (b := b) hG hn N (p + 1) _ (0 + 1) _ (by rw [xu_row (by decide)]; exact h1) (by rw [xu_same, h2, xn_1]) (by rw [xu_oth (by decide), h3]) hp hr
        rw [xu_xu, ← e] at hr
        generalize scn ltr fW b n p (0, 0) = S at hr ⊢
        replace hr := hr.go (s_iload_n t78_61 rfl)
        replace hr := hr.go (s_k t78_62)
        rcases hr.bLe t78_64 with ⟨c21, hr⟩ | ⟨c21, hr⟩
        · replace hr := hr.go (s_aload_n t78_73 rfl)
          replace hr := hr.go (s_iload_n t78_74 rfl)
          replace hr := hr.go (s_k t78_75)
          replace hr := hr.go (s_k t78_76)
          replace hr := hr.go (s_iload_n t78_78 rfl)
          replace hr := hr.go (s_isub t78_79)
          replace hr := hr.go (s_imul t78_80)
          replace hr := hr.go (s_ishl t78_81)
          replace hr := hr.go (s_putf t78_82)
          replace hr := hr.go (s_aload_n t78_85 rfl)
          replace hr := hr.go (s_k t78_86)
          replace hr := hr.go (s_putf t78_87)
          replace hr := hr.go (s_k t78_90)
          replace hr := hr.go (s_istore_n (ls' := [(3, _), (1, _), (2, _), (0, _)]) t78_91 rfl)
          replace hr := lw78 (wd := wd) hG N 0 _ (by rw [xu_row (by decide), xu_row (by decide), xu_row (by decide)]; exact h4) (by rw [xu_oth (by decide), xu_same]) (by omega) hr
          obtain ⟨rfl, hs⟩ := hr.ret t78_128
          exact ⟨_, _, hs, by rw [if_neg (by omega), xu_xu, xu_same]; exact ⟨rfl, rfl, rfl⟩⟩
        · replace hr := hr.go (s_aload_n t78_67 rfl)
          replace hr := hr.go (s_k t78_68)
          replace hr := hr.go (s_putf t78_69)
          obtain ⟨rfl, hs⟩ := hr.ret t78_72
          exact ⟨_, _, hs, by rw [if_pos (by omega)]; exact ⟨rfl, rfl, rfl⟩⟩