/-! The class Reader: a token behind a value. -/
theorem ct_behind {nf : Bool} {xs : List Int32} {d : Nat} {m : xM} {g : xL} {G : xG} {B : eB} {P i kn op : Nat} {W : List Int32} (hG : GP G P) (hs0 : sC B i m) (hX : xst P W kn op m) (hI : xin W kn op) : CT nf xs d 40 [.ref 2, .ref (P + 17)] m g G (OC B (behF B i kn op W) g (fun s m' => xst P s.2.2.2 s.1 s.2.1 m' ∧ xfr P m m')) := by
  refine CT.of (c := 4) (ini := false) (nL := 4) (rt := some .boolean) (tab := zt40) rfl (fun d' r h' N hd hr => ?_)
  replace hr : RR nf xs d' 4 false 4 (some .boolean) zt40 G r h' N (0, [(0, .ref 2), (1, .ref (P + 17))], [], m, g) := hr
  have k1 : (1 : Int32).toInt = 1 := rfl
  have k4 : (4 : Int32).toInt = 4 := rfl
  have k6 : (6 : Int32).toInt = 6 := rfl
  have k46 : (46 : Int32).toInt = 46 := rfl
  have h7 := hG.2.2.2.2.1
  have hW := hX.1
  obtain ⟨i1, i2, i3, i4, i5⟩ := hI
  have q1 : (Int32.ofNat op).toInt = (op : Int) := xn_int (by omega)
  replace hr := hr.go (s_aload_n t40_0 rfl)
  replace hr := hr.go (s_getr t40_1 (hG.2.1))
  replace hr := hr.go (s_getf t40_4)
  rw [hs0.2.2.2.2.1] at hr
  replace hr := hr.go (s_istore_n (ls' := [(2, _), (0, _), (1, _)]) t40_7 rfl)
  replace hr := hr.go (s_iload_n t40_8 rfl)
  replace hr := hr.go (s_k t40_9)
  rcases hr.bNe t40_11 with ⟨b11, hr⟩ | ⟨b11, hr⟩
  · replace hr := hr.go (s_iload_n t40_55 rfl)
    replace hr := hr.csI t40_56 rfl rfl (ct_str)
    replace hr := hr.go (s_istore_n (ls' := [(3, _), (2, _), (0, _), (1, _)]) t40_59 rfl)
    replace hr := hr.go (s_iload_n t40_60 rfl)
    rcases hr.zEq t40_61 with ⟨b61, hr⟩ | ⟨b61, hr⟩
    · have z0 : str (tK B i) = 0 := (xn_eq (b := 0) (by have := str_le (tK B i); omega) (by decide)).mp b61
      replace hr := hr.go (s_aload_n t40_70 rfl)
      replace hr := hr.go (s_k t40_71)
      obtain ⟨_, m1, _, ⟨rfl, rfl, ho⟩, hr⟩ := hr.callv t40_72 rfl rfl (ct_ref (B := B) (i := i) (f := 1) (α := Unit) (Q := fun _ _ => True) hG.2.1 (hs0))
      obtain ⟨rfl, hs⟩ := hr.iret t40_75
      unfold behF
      rw [if_neg b11, if_pos (Or.inl z0)]
      exact ⟨_, _, hs, rfl, rfl, ho⟩
    · replace hr := hr.go (s_iload_n t40_64 rfl)
      replace hr := hr.go (s_k t40_65)
      rcases hr.bNe t40_67 with ⟨b67, hr⟩ | ⟨b67, hr⟩
      · have hz0 : ¬ str (tK B i) = 0 := fun q => b61 (by rw [q]; rfl)
        have hz4 : Int32.ofNat (str (tK B i)) = (4 : Int32) ↔ str (tK B i) = 4 := xn_eq (b := 4) (by have := str_le (tK B i); omega) (by decide)
        replace hr := hr.go (s_aload_n t40_76 rfl)
        replace hr := hr.go (s_aload_n t40_77 rfl)
        replace hr := hr.go (s_iload_n t40_78 rfl)
        replace hr := hr.go (s_k t40_79)
        rcases hr.bNe t40_80 with ⟨b80, hr⟩ | ⟨b80, hr⟩
        · have h4 : ¬ str (tK B i) = 4 := fun q => b80 (hz4.mpr q)
          replace hr := hr.go (s_iload_n t40_89 rfl)
          skip
          obtain ⟨m3, ⟨hW3, hz3, hf3, hg3⟩, hr⟩ := hr.fvN t40_90 rfl rfl (ct_release (sn := str (tK B i)) hG (by omega) (str_le _) hW hX.2.2.2.1)
          replace hr := hr.go (s_iload_n t40_93 rfl)
          replace hr := hr.go (s_k t40_94)
          rcases hr.bNe t40_95 with ⟨b95, hr⟩ | ⟨b95, hr⟩
          · skip
            replace hr := hr.go (s_aload_n t40_115 rfl)
            replace hr := hr.go (s_iload_n t40_116 rfl)
            have hl3 := relW_len (s := str (tK B i)) W
            replace hr := hr.cvN t40_117 rfl rfl (ct_hold hG hW3)
            rcases Nat.lt_or_ge kn 64 with h64 | h64
            · skip
              rw [if_pos (by omega : (relW (str (tK B i)) W).length < 72)] at hr
              skip
              replace hr := hr.go (s_aload_n t40_120 rfl)
              obtain ⟨r1, m1, _, ⟨rfl, ho⟩, hr⟩ := hr.callv t40_121 rfl rfl (ct_count (kn := kn) hG (sC_row (sC_row hs0 (hf3 1 (by omega) (by omega) (by omega) (by omega)) (hf3 4 (by omega) (by omega) (by omega) (by omega)) (hf3 3 (by omega) (by omega) (by omega) (by omega))) (by rw [xu_row (by decide), xu_row (by decide)]) (by rw [xu_row (by decide), xu_row (by decide)]) (by rw [xu_row (by decide), xu_row (by decide)])) (by rw [xu_oth (by decide), xu_row (by decide), hg3 4 (by decide)]; exact hX.2.2.1) i4)
              unfold cntF at ho
              rw [if_neg (by omega)] at ho
              obtain ⟨rfl, rfl⟩ := ho
              obtain ⟨rfl, hs⟩ := hr.iret t40_124
              unfold behF
              rw [if_neg b11, if_neg (fun q => q.elim hz0 b67), if_neg (fun q => h4 q.1), if_neg (by omega), if_neg h4]
              refine ⟨_, _, hs, rfl, rfl, ⟨?_, ?_, ?_, ?_, ?_⟩, fun a a1 a2 a3 a4 a5 => ?_⟩
              · exact stk_row (stk_push hW3 (by omega)) (xu_oth (by decide)) (xu_row (by decide))
              · rw [xu_oth (by decide), xu_oth (by decide), xu_row (by decide), hg3 3 (by decide)]; exact hX.2.1
              · rw [xu_same]
              · rw [xu_row (by omega), xu_row (by omega), xu_row (by omega)]; exact hz3
              · exact ⟨by rw [xu_oth (by decide), xu_oth (by decide), xu_row (by decide), hg3 5 (by decide)]; exact hX.2.2.2.2.1, by rw [xu_oth (by decide), xu_oth (by decide), xu_row (by decide), hg3 6 (by decide)]; exact hX.2.2.2.2.2⟩
              · rw [xu_row a1, xu_row a1, xu_row a2, hf3 a a1 a3 a4 a5]
            · skip
              generalize hM : (if (relW (str (tK B i)) W).length < 72 then xu (xu m3 6 (relW (str (tK B i)) W).length (tK B i)) 2 2 (Int32.ofNat ((relW (str (tK B i)) W).length + 1)) else m3) = M at hr
              have hM1 : sC B i M := by rw [← hM]; split; (exact sC_row (sC_row hs0 (hf3 1 (by omega) (by omega) (by omega) (by omega)) (hf3 4 (by omega) (by omega) (by omega) (by omega)) (hf3 3 (by omega) (by omega) (by omega) (by omega))) (by rw [xu_row (by decide), xu_row (by decide)]) (by rw [xu_row (by decide), xu_row (by decide)]) (by rw [xu_row (by decide), xu_row (by decide)])); (exact sC_row hs0 (hf3 1 (by omega) (by omega) (by omega) (by omega)) (hf3 4 (by omega) (by omega) (by omega) (by omega)) (hf3 3 (by omega) (by omega) (by omega) (by omega)))
              have hM2 : M 2 4 = Int32.ofNat kn := by rw [← hM]; split; (rw [xu_oth (by decide), xu_row (by decide), hg3 4 (by decide)]; exact hX.2.2.1); (rw [hg3 4 (by decide)]; exact hX.2.2.1)
              skip
              replace hr := hr.go (s_aload_n t40_120 rfl)
              obtain ⟨r1, m1, _, ⟨rfl, ho⟩, hr⟩ := hr.callv t40_121 rfl rfl (ct_count (kn := kn) hG (hM1) (hM2) i4)
              unfold cntF at ho
              rw [if_pos h64] at ho
              obtain ⟨rfl, ho⟩ := ho
              obtain ⟨rfl, hs⟩ := hr.iret t40_124
              unfold behF
              rw [if_neg b11, if_neg (fun q => q.elim hz0 b67), if_neg (fun q => h4 q.1), if_pos h64]
              exact ⟨_, _, hs, rfl, rfl, ho⟩
          · exact absurd b95 b80
        · have h4 := hz4.mp b80
          replace hr := hr.go (s_iload_n t40_83 rfl)
          replace hr := hr.go (s_k t40_84)
          replace hr := hr.go (s_iadd t40_85)
          replace hr := hr.go (s_goto t40_86)
          rw [b80, show (4 : Int32) + 1 = Int32.ofNat 5 from rfl] at hr
          obtain ⟨m3, ⟨hW3, hz3, hf3, hg3⟩, hr⟩ := hr.fvN t40_90 rfl rfl (ct_release (sn := 5) hG (by omega) (by omega) hW hX.2.2.2.1)
          replace hr := hr.go (s_iload_n t40_93 rfl)
          replace hr := hr.go (s_k t40_94)
          rcases hr.bNe t40_95 with ⟨b95, hr⟩ | ⟨b95, hr⟩
          · exact absurd rfl b95
          · replace hr := hr.go (s_aload_n t40_98 rfl)
            replace hr := hr.cvI t40_99 rfl rfl (ct_top hG hW3)
            replace hr := hr.csI t40_102 rfl rfl (ct_str)
            replace hr := hr.go (s_k t40_105)
            have q2 : (Int32.ofNat (str ((relW 5 W).headD 0))).toInt = ((str ((relW 5 W).headD 0) : Nat) : Int) := xn_int (by have := str_le ((relW 5 W).headD 0); omega)
            have hq4 : Int32.ofNat (str ((relW 5 W).headD 0)) = (4 : Int32) ↔ str ((relW 5 W).headD 0) = 4 := xn_eq (b := 4) (by have := str_le ((relW 5 W).headD 0); omega) (by decide)
            rcases hr.bNe t40_106 with ⟨b106, hr⟩ | ⟨b106, hr⟩
            · have h44 : ¬ str ((relW 5 W).headD 0) = 4 := fun q => b106 (hq4.mpr q)
              replace hr := hr.go (s_aload_n t40_115 rfl)
              replace hr := hr.go (s_iload_n t40_116 rfl)
              have hl3 := relW_len (s := 5) W
              replace hr := hr.cvN t40_117 rfl rfl (ct_hold hG hW3)
              rcases Nat.lt_or_ge kn 64 with h64 | h64
              · skip
                rw [if_pos (by omega : (relW (5) W).length < 72)] at hr
                skip
                replace hr := hr.go (s_aload_n t40_120 rfl)
                obtain ⟨r1, m1, _, ⟨rfl, ho⟩, hr⟩ := hr.callv t40_121 rfl rfl (ct_count (kn := kn) hG (sC_row (sC_row hs0 (hf3 1 (by omega) (by omega) (by omega) (by omega)) (hf3 4 (by omega) (by omega) (by omega) (by omega)) (hf3 3 (by omega) (by omega) (by omega) (by omega))) (by rw [xu_row (by decide), xu_row (by decide)]) (by rw [xu_row (by decide), xu_row (by decide)]) (by rw [xu_row (by decide), xu_row (by decide)])) (by rw [xu_oth (by decide), xu_row (by decide), hg3 4 (by decide)]; exact hX.2.2.1) i4)
                unfold cntF at ho
                rw [if_neg (by omega)] at ho
                obtain ⟨rfl, rfl⟩ := ho
                obtain ⟨rfl, hs⟩ := hr.iret t40_124
                unfold behF
                rw [if_neg b11, if_neg (fun q => q.elim hz0 b67), if_neg (fun q => by omega), if_neg (by omega), if_pos h4]
                refine ⟨_, _, hs, rfl, rfl, ⟨?_, ?_, ?_, ?_, ?_⟩, fun a a1 a2 a3 a4 a5 => ?_⟩
                · exact stk_row (stk_push hW3 (by omega)) (xu_oth (by decide)) (xu_row (by decide))
                · rw [xu_oth (by decide), xu_oth (by decide), xu_row (by decide), hg3 3 (by decide)]; exact hX.2.1
                · rw [xu_same]
                · rw [xu_row (by omega), xu_row (by omega), xu_row (by omega)]; exact hz3
                · exact ⟨by rw [xu_oth (by decide), xu_oth (by decide), xu_row (by decide), hg3 5 (by decide)]; exact hX.2.2.2.2.1, by rw [xu_oth (by decide), xu_oth (by decide), xu_row (by decide), hg3 6 (by decide)]; exact hX.2.2.2.2.2⟩
                · rw [xu_row a1, xu_row a1, xu_row a2, hf3 a a1 a3 a4 a5]
              · skip
                generalize hM : (if (relW (5) W).length < 72 then xu (xu m3 6 (relW (5) W).length (tK B i)) 2 2 (Int32.ofNat ((relW (5) W).length + 1)) else m3) = M at hr
                have hM1 : sC B i M := by rw [← hM]; split; (exact sC_row (sC_row hs0 (hf3 1 (by omega) (by omega) (by omega) (by omega)) (hf3 4 (by omega) (by omega) (by omega) (by omega)) (hf3 3 (by omega) (by omega) (by omega) (by omega))) (by rw [xu_row (by decide), xu_row (by decide)]) (by rw [xu_row (by decide), xu_row (by decide)]) (by rw [xu_row (by decide), xu_row (by decide)])); (exact sC_row hs0 (hf3 1 (by omega) (by omega) (by omega) (by omega)) (hf3 4 (by omega) (by omega) (by omega) (by omega)) (hf3 3 (by omega) (by omega) (by omega) (by omega)))
                have hM2 : M 2 4 = Int32.ofNat kn := by rw [← hM]; split; (rw [xu_oth (by decide), xu_row (by decide), hg3 4 (by decide)]; exact hX.2.2.1); (rw [hg3 4 (by decide)]; exact hX.2.2.1)
                skip
                replace hr := hr.go (s_aload_n t40_120 rfl)
                obtain ⟨r1, m1, _, ⟨rfl, ho⟩, hr⟩ := hr.callv t40_121 rfl rfl (ct_count (kn := kn) hG (hM1) (hM2) i4)
                unfold cntF at ho
                rw [if_pos h64] at ho
                obtain ⟨rfl, ho⟩ := ho
                obtain ⟨rfl, hs⟩ := hr.iret t40_124
                unfold behF
                rw [if_neg b11, if_neg (fun q => q.elim hz0 b67), if_neg (fun q => by omega), if_pos h64]
                exact ⟨_, _, hs, rfl, rfl, ho⟩
            · have h44 := hq4.mp b106
              replace hr := hr.go (s_aload_n t40_109 rfl)
              replace hr := hr.go (s_k t40_110)
              obtain ⟨_, m1, _, ⟨rfl, rfl, ho⟩, hr⟩ := hr.callv t40_111 rfl rfl (ct_ref (B := B) (i := i) (f := 1) (α := Unit) (Q := fun _ _ => True) hG.2.1 (sC_row hs0 (hf3 1 (by omega) (by omega) (by omega) (by omega)) (hf3 4 (by omega) (by omega) (by omega) (by omega)) (hf3 3 (by omega) (by omega) (by omega) (by omega))))
              obtain ⟨rfl, hs⟩ := hr.iret t40_114
              unfold behF
              rw [if_neg b11, if_neg (fun q => q.elim hz0 b67), if_pos ⟨h4, by omega⟩]
              exact ⟨_, _, hs, rfl, rfl, ho⟩
      · skip
        replace hr := hr.go (s_aload_n t40_70 rfl)
        replace hr := hr.go (s_k t40_71)
        obtain ⟨_, m1, _, ⟨rfl, rfl, ho⟩, hr⟩ := hr.callv t40_72 rfl rfl (ct_ref (B := B) (i := i) (f := 1) (α := Unit) (Q := fun _ _ => True) hG.2.1 (hs0))
        obtain ⟨rfl, hs⟩ := hr.iret t40_75
        unfold behF
        rw [if_neg b11, if_pos (Or.inr b67)]
        exact ⟨_, _, hs, rfl, rfl, ho⟩
  · replace hr := hr.go (s_aload_n t40_14 rfl)
    replace hr := hr.go (s_getf t40_15)
    rw [hX.2.1] at hr
    rcases hr.zNe t40_18 with ⟨b18, hr⟩ | ⟨b18, hr⟩
    · replace b18 : ¬ op = 0 := fun q => b18 (by rw [q]; rfl)
      replace hr := hr.go (s_aload_n t40_27 rfl)
      replace hr := hr.go (s_aload_n t40_28 rfl)
      replace hr := hr.go (s_k t40_29)
      obtain ⟨m3, ⟨hW3, hz3, hf3, hg3⟩, hr⟩ := hr.fvN t40_30 rfl rfl (ct_release (sn := 1) hG (by omega) (by omega) hW hX.2.2.2.1)
      obtain ⟨R, hR⟩ := rel_open ⟨i1, i2, i3, i4, i5⟩ (b18)
      replace hr := hr.go (s_aload_n t40_33 rfl)
      replace hr := hr.go (s_dup t40_34 rfl)
      replace hr := hr.go (s_getf t40_35)
      replace hr := hr.go (s_k t40_38)
      replace hr := hr.go (s_isub t40_39)
      replace hr := hr.go (s_putf t40_40)
      replace hr := hr.go (s_aload_n t40_43 rfl)
      replace hr := hr.go (s_dup t40_44 rfl)
      replace hr := hr.go (s_getf t40_45)
      replace hr := hr.go (s_k t40_48)
      replace hr := hr.go (s_isub t40_49)
      replace hr := hr.go (s_putf t40_50)
      replace hr := hr.go (s_k t40_53)
      obtain ⟨rfl, hs⟩ := hr.iret t40_54
      unfold behF
      rw [if_pos b11, if_neg b18, hR]
      rw [hR] at hW3
      refine ⟨_, _, hs, rfl, rfl, ⟨?_, ?_, ?_, ?_, ?_⟩, fun a a1 a2 a3 a4 a5 => ?_⟩
      · exact stk_row (stk_pop hW3) (xu_oth (by decide)) (xu_row (by decide))
      · rw [xu_same, xu_oth (by decide), hg3 3 (by decide), hX.2.1]
        show Int32.ofNat op - 1 = Int32.ofNat (op - 1)
        rw [show op = (op - 1) + 1 by omega, xn_pred]
        rfl
      · rw [xu_oth (by decide), xu_oth (by decide), hg3 4 (by decide)]; exact hX.2.2.1
      · rw [xu_row (by omega), xu_row (by omega)]; exact hz3
      · exact ⟨by rw [xu_oth (by decide), xu_oth (by decide), hg3 5 (by decide)]; exact hX.2.2.2.2.1, by rw [xu_oth (by decide), xu_oth (by decide), hg3 6 (by decide)]; exact hX.2.2.2.2.2⟩
      · rw [xu_row a1, xu_row a1, hf3 a a1 a3 a4 a5]
    · replace hr := hr.go (s_aload_n t40_21 rfl)
      replace hr := hr.go (s_k t40_22)
      obtain ⟨_, m1, _, ⟨rfl, rfl, ho⟩, hr⟩ := hr.callv t40_23 rfl rfl (ct_ref (B := B) (i := i) (f := 1) (α := Unit) (Q := fun _ _ => True) hG.2.1 (hs0))
      obtain ⟨rfl, hs⟩ := hr.iret t40_26
      unfold behF
      rw [if_pos b11, if_pos (by have := congrArg Int32.toInt b18; rw [q1] at this; have k0 : (0 : Int32).toInt = 0 := rfl; omega)]
      exact ⟨_, _, hs, rfl, rfl, ho⟩

