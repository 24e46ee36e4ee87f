/-! The reference's lines, word by word (but tell, tunnel, law). -/
theorem ln0 {nf : Bool} {xs : List Int32} {d : Nat} {g : xL} {G : xG} {r : Option Value} {h' : zH} {N : Nat} {m : xM} {B : eB} {s : eS} (hG : GL G) (hE : EV B) (hA : AR B s m g) (hk : tK B s.2.2.2 = Int32.ofNat (32 + 0)) (hr : RR nf xs d 11 false 6 none zt169 G r h' N (27, [(1, .int 0), (0, .ref 128)], [], m, g)) : ∃ (m' : xM) (g' : xL), HS h' m' g' G ∧ PL B s m g r m' g' := by
  have hL : ∀ u : Nat, 1 ≤ u → u ≤ 5 → m 130 (9 + u) = Int32.ofNat ((fun u => (s.1 u).length) u) ∧ (fun u => (s.1 u).length) u ≤ 8 := fun u u1 u2 => ⟨hA.2.2.1 u u1 u2, by have := hA.2.1 u (by omega); have := (mN_b u).1; dsimp only; omega⟩
  replace hr := hr.go (s_aload_n t169_27 rfl)
  replace hr := hr.go (s_iload_n t169_28 rfl)
  replace hr := hr.cvI t169_29 rfl rfl (ct_isFullR (w := 0) (L := (fun u => (s.1 u).length)) hG.2.1 (by decide) hL)
  rw [show fulR (fun u => (s.1 u).length) 0 = false from decide_eq_false (by omega)] at hr
  rcases hr.zEq t169_32 with ⟨b32, hr⟩ | ⟨b32, hr⟩
  · replace hr := hr.go (s_iload_n t169_43 rfl)
    replace hr := hr.csI t169_44 rfl rfl (ct_isOnce (w := 0) (by decide))
    rw [show onR 0 = true from by decide] at hr
    rcases hr.zEq t169_47 with ⟨b47, hr⟩ | ⟨b47, hr⟩
    · exact absurd b47 (by decide)
    · replace hr := hr.go (s_aload_n t169_50 rfl)
      replace hr := hr.go (s_getf t169_51)
      replace hr := hr.go (s_iload_n t169_54 rfl)
      replace hr := hr.go (s_ishr t169_55)
      replace hr := hr.go (s_k t169_56)
      replace hr := hr.go (s_iand t169_57)
      replace hr := hr.go (s_k t169_58)
      rcases hr.bNe t169_59 with ⟨b59, hr⟩ | ⟨b59, hr⟩
      · skip
        replace hr := hr.go (s_aload_n t169_67 rfl)
        replace hr := hr.go (s_getf t169_68)
        rcases hr.zEq t169_71 with ⟨b71, hr⟩ | ⟨b71, hr⟩
        · have hT : (s.1 0).length = 0 := by
            have hb : ¬ bj (m 128 21) 0 = true := fun q => b59 ((bj_tst (k := 0) (by decide)).mpr q)
            rw [(hA.2.2.2.2.1 0 (by decide)).2] at hb
            have h9 : ¬ 1 ≤ (s.1 0).length := fun q => hb (decide_eq_true q)
            omega
          have hnf : ¬ mN 0 ≤ (s.1 0).length := by have := (mN_b 0).2; omega
          replace hr := hr.go (s_aload_n t169_75 rfl)
          replace hr := hr.go (s_dup t169_76 rfl)
          replace hr := hr.go (s_getf t169_77)
          replace hr := hr.go (s_k t169_80)
          replace hr := hr.go (s_iload_n t169_81 rfl)
          replace hr := hr.go (s_ishl t169_82)
          replace hr := hr.go (s_ior t169_83)
          replace hr := hr.go (s_putf t169_84)
          replace hr := hr.go (s_aload_n t169_87 rfl)
          obtain ⟨m2, ⟨h2, hf2⟩, hr⟩ := hr.fvN t169_88 rfl rfl (ct_tokG hG.1 hE (sX_f (k := 21) hA.1 (by decide) (by decide) (by decide)))
          replace h2 : sX B (.inr (s.2.2.2 + 1, s.2.2.1, 0)) m2 := h2
          replace hr := hr.go (s_iload_n t169_91 rfl)
          replace hr := hr.go (s_tswitch (q := 140) t169_92 (by decide) (by decide) rfl rfl)
          replace hr := hr.go (s_aload_n t169_140 rfl)
          replace hr := hr.go (s_k t169_141)
          replace hr := hr.go (s_aload_n t169_142 rfl)
          replace hr := hr.go (s_k t169_143)
          replace hr := hr.go (s_k t169_144)
          obtain ⟨m3, ⟨h3, hf3⟩, hr⟩ := hr.fvI t169_146 rfl rfl (ct_numeral (o := (.inr (s.2.2.2 + 1, s.2.2.1, 0))) (lo := 1) (mo := 60) hG.1 hE (by decide) h2)
          replace hr := hr.cvN t169_149 rfl rfl (ct_reads hG.2.1.1)
          replace hr := hr.go (s_goto t169_152)
          rcases ch0 (B := B) (rows := s.1 0) (i := s.2.2.2 + 1) (kn := s.2.2.1) with ⟨e, e1, e2⟩ | ⟨e1, e2⟩
          · rw [e2] at h3
            obtain ⟨rfl, hs⟩ := le485F rfl ((sX_row h3 (xu_row (by decide)) (xu_row (by decide)))) hr
            refine ⟨_, _, hs, PL_bad ?_ ((sX_row h3 (xu_row (by decide)) (xu_row (by decide)))) (FM.x130 (FM.er hf3.1 (fun k hk => hf3.2 k (by omega)) (FM.er hf2.1 (fun k hk => hf2.2 k (by omega)) (FM.x128 FM.rf (by decide)))) (by decide)) FG.rf⟩
            rw [lin_tab (w := 0) (by decide) hk, tab_num hnf (by decide)]
            exact congrArg (fun z => oMap _ (rendF B z)) e1
          · rw [e2] at h3
            obtain ⟨m', hs, rfl, h4, h22, hfa, hfk⟩ := le485G hG.1 hE rfl ((sX_row h3 (xu_row (by decide)) (xu_row (by decide)))) hr
            refine ⟨m', _, hs, PL_good (w := 0) (by rw [lin_tab (w := 0) (by decide) hk, tab_num hnf (by decide)]; exact congrArg (fun z => oMap _ (rendF B z)) e1) h4 (fun hq => ?_) ?_ (FM.er hfa (fun k hk => hfk k (by omega) (by omega)) (FM.x130 (FM.er hf3.1 (fun k hk => hf3.2 k (by omega)) (FM.er hf2.1 (fun k hk => hf2.2 k (by omega)) (FM.x128 FM.rf (by decide)))) (by decide))) FG.rf⟩
            · refine AR_sing (by decide) hA hT hq (fun a a1 a2 => ?_) (fun k hk2 => ?_) ?_ ?_
              · rw [hfa a a1, xu_row a2, hf3.1 a a1, hf2.1 a a1, xu_row a1]
              · rw [hfa 130 (by decide), xu_oth (k := ((9 : Int32) + 0).toNatClampNeg) (fun q => hk2 (q.2.trans (by decide))), hf3.1 130 (by decide), hf2.1 130 (by decide), xu_row (by decide)]
              · rw [hfa 130 (by decide)]; exact xu_same
              · rw [hfk 21 (by decide) (by decide), xu_row (by decide), hf3.2 21 (by decide), hf2.2 21 (by decide)]; exact xu_same
            · rw [h22, xu_row (by decide), hf3.2 22 (by decide), hf2.2 22 (by decide), xu_oth (by decide)]
        · exact absurd hA.1.1 b71
      · have hfl : mN 0 ≤ (s.1 0).length := of_decide_eq_true ((hA.2.2.2.2.1 0 (by decide)).2.symm.trans ((bj_tst (k := 0) (by decide)).mp b59))
        replace hr := hr.go (s_aload_n t169_62 rfl)
        replace hr := hr.go (s_k t169_63)
        obtain ⟨m1, ⟨h1, hf1⟩, hr⟩ := hr.fvN t169_64 rfl rfl (ct_wrongG (f := 3) hA.1 (by decide) (by decide))
        skip
        replace hr := hr.go (s_aload_n t169_67 rfl)
        replace hr := hr.go (s_getf t169_68)
        rcases hr.zEq t169_71 with ⟨b71, hr⟩ | ⟨b71, hr⟩
        · exact absurd b71 h1.2.1
        · obtain ⟨rfl, hs⟩ := hr.ret t169_74
          exact ⟨_, _, hs, PL_bad (by rw [lin_tab (w := 0) (by decide) hk, tab_full hfl]; rfl) h1 (FM.er hf1.1 (fun k hk => hf1.2 k (by omega)) FM.rf) FG.rf⟩
  · exact absurd rfl b32
theorem ln6 {nf : Bool} {xs : List Int32} {d : Nat} {g : xL} {G : xG} {r : Option Value} {h' : zH} {N : Nat} {m : xM} {B : eB} {s : eS} (hG : GL G) (hE : EV B) (hA : AR B s m g) (hk : tK B s.2.2.2 = Int32.ofNat (32 + 6)) (hr : RR nf xs d 11 false 6 none zt169 G r h' N (27, [(1, .int 6), (0, .ref 128)], [], m, g)) : ∃ (m' : xM) (g' : xL), HS h' m' g' G ∧ PL B s m g r m' g' := by
  have hL : ∀ u : Nat, 1 ≤ u → u ≤ 5 → m 130 (9 + u) = Int32.ofNat ((fun u => (s.1 u).length) u) ∧ (fun u => (s.1 u).length) u ≤ 8 := fun u u1 u2 => ⟨hA.2.2.1 u u1 u2, by have := hA.2.1 u (by omega); have := (mN_b u).1; dsimp only; omega⟩
  replace hr := hr.go (s_aload_n t169_27 rfl)
  replace hr := hr.go (s_iload_n t169_28 rfl)
  replace hr := hr.cvI t169_29 rfl rfl (ct_isFullR (w := 6) (L := (fun u => (s.1 u).length)) hG.2.1 (by decide) hL)
  rw [show fulR (fun u => (s.1 u).length) 6 = false from decide_eq_false (by omega)] at hr
  rcases hr.zEq t169_32 with ⟨b32, hr⟩ | ⟨b32, hr⟩
  · replace hr := hr.go (s_iload_n t169_43 rfl)
    replace hr := hr.csI t169_44 rfl rfl (ct_isOnce (w := 6) (by decide))
    rw [show onR 6 = true from by decide] at hr
    rcases hr.zEq t169_47 with ⟨b47, hr⟩ | ⟨b47, hr⟩
    · exact absurd b47 (by decide)
    · replace hr := hr.go (s_aload_n t169_50 rfl)
      replace hr := hr.go (s_getf t169_51)
      replace hr := hr.go (s_iload_n t169_54 rfl)
      replace hr := hr.go (s_ishr t169_55)
      replace hr := hr.go (s_k t169_56)
      replace hr := hr.go (s_iand t169_57)
      replace hr := hr.go (s_k t169_58)
      rcases hr.bNe t169_59 with ⟨b59, hr⟩ | ⟨b59, hr⟩
      · skip
        replace hr := hr.go (s_aload_n t169_67 rfl)
        replace hr := hr.go (s_getf t169_68)
        rcases hr.zEq t169_71 with ⟨b71, hr⟩ | ⟨b71, hr⟩
        · have hT : (s.1 6).length = 0 := by
            have hb : ¬ bj (m 128 21) 6 = true := fun q => b59 ((bj_tst (k := 6) (by decide)).mpr q)
            rw [(hA.2.2.2.2.1 6 (by decide)).2] at hb
            have h9 : ¬ 1 ≤ (s.1 6).length := fun q => hb (decide_eq_true q)
            omega
          have hnf : ¬ mN 6 ≤ (s.1 6).length := by have := (mN_b 6).2; omega
          replace hr := hr.go (s_aload_n t169_75 rfl)
          replace hr := hr.go (s_dup t169_76 rfl)
          replace hr := hr.go (s_getf t169_77)
          replace hr := hr.go (s_k t169_80)
          replace hr := hr.go (s_iload_n t169_81 rfl)
          replace hr := hr.go (s_ishl t169_82)
          replace hr := hr.go (s_ior t169_83)
          replace hr := hr.go (s_putf t169_84)
          replace hr := hr.go (s_aload_n t169_87 rfl)
          obtain ⟨m2, ⟨h2, hf2⟩, hr⟩ := hr.fvN t169_88 rfl rfl (ct_tokG hG.1 hE (sX_f (k := 21) hA.1 (by decide) (by decide) (by decide)))
          replace h2 : sX B (.inr (s.2.2.2 + 1, s.2.2.1, 0)) m2 := h2
          replace hr := hr.go (s_iload_n t169_91 rfl)
          replace hr := hr.go (s_tswitch (q := 449) t169_92 (by decide) (by decide) rfl rfl)
          replace hr := hr.go (s_aload_n t169_449 rfl)
          replace hr := hr.go (s_k t169_450)
          replace hr := hr.go (s_aload_n t169_452 rfl)
          replace hr := hr.go (s_k t169_453)
          replace hr := hr.go (s_k t169_454)
          obtain ⟨m3, ⟨h3, hf3⟩, hr⟩ := hr.fvI t169_456 rfl rfl (ct_numeral (o := (.inr (s.2.2.2 + 1, s.2.2.1, 0))) (lo := 0) (mo := 9) hG.1 hE (by decide) h2)
          replace hr := hr.cvN t169_459 rfl rfl (ct_reads hG.2.1.1)
          replace hr := hr.go (s_goto t169_462)
          rcases ch6 (B := B) (rows := s.1 6) (i := s.2.2.2 + 1) (kn := s.2.2.1) with ⟨e, e1, e2⟩ | ⟨e1, e2⟩
          · rw [e2] at h3
            obtain ⟨rfl, hs⟩ := le485F rfl ((sX_row h3 (xu_row (by decide)) (xu_row (by decide)))) hr
            refine ⟨_, _, hs, PL_bad ?_ ((sX_row h3 (xu_row (by decide)) (xu_row (by decide)))) (FM.x130 (FM.er hf3.1 (fun k hk => hf3.2 k (by omega)) (FM.er hf2.1 (fun k hk => hf2.2 k (by omega)) (FM.x128 FM.rf (by decide)))) (by decide)) FG.rf⟩
            rw [lin_tab (w := 6) (by decide) hk, tab_num hnf (by decide)]
            exact congrArg (fun z => oMap _ (rendF B z)) e1
          · rw [e2] at h3
            obtain ⟨m', hs, rfl, h4, h22, hfa, hfk⟩ := le485G hG.1 hE rfl ((sX_row h3 (xu_row (by decide)) (xu_row (by decide)))) hr
            refine ⟨m', _, hs, PL_good (w := 6) (by rw [lin_tab (w := 6) (by decide) hk, tab_num hnf (by decide)]; exact congrArg (fun z => oMap _ (rendF B z)) e1) h4 (fun hq => ?_) ?_ (FM.er hfa (fun k hk => hfk k (by omega) (by omega)) (FM.x130 (FM.er hf3.1 (fun k hk => hf3.2 k (by omega)) (FM.er hf2.1 (fun k hk => hf2.2 k (by omega)) (FM.x128 FM.rf (by decide)))) (by decide))) FG.rf⟩
            · refine AR_sing (by decide) hA hT hq (fun a a1 a2 => ?_) (fun k hk2 => ?_) ?_ ?_
              · rw [hfa a a1, xu_row a2, hf3.1 a a1, hf2.1 a a1, xu_row a1]
              · rw [hfa 130 (by decide), xu_oth (k := ((9 : Int32) + 6).toNatClampNeg) (fun q => hk2 (q.2.trans (by decide))), hf3.1 130 (by decide), hf2.1 130 (by decide), xu_row (by decide)]
              · rw [hfa 130 (by decide)]; exact xu_same
              · rw [hfk 21 (by decide) (by decide), xu_row (by decide), hf3.2 21 (by decide), hf2.2 21 (by decide)]; exact xu_same
            · rw [h22, xu_row (by decide), hf3.2 22 (by decide), hf2.2 22 (by decide), xu_oth (by decide)]
        · exact absurd hA.1.1 b71
      · have hfl : mN 6 ≤ (s.1 6).length := of_decide_eq_true ((hA.2.2.2.2.1 6 (by decide)).2.symm.trans ((bj_tst (k := 6) (by decide)).mp b59))
        replace hr := hr.go (s_aload_n t169_62 rfl)
        replace hr := hr.go (s_k t169_63)
        obtain ⟨m1, ⟨h1, hf1⟩, hr⟩ := hr.fvN t169_64 rfl rfl (ct_wrongG (f := 3) hA.1 (by decide) (by decide))
        skip
        replace hr := hr.go (s_aload_n t169_67 rfl)
        replace hr := hr.go (s_getf t169_68)
        rcases hr.zEq t169_71 with ⟨b71, hr⟩ | ⟨b71, hr⟩
        · exact absurd b71 h1.2.1
        · obtain ⟨rfl, hs⟩ := hr.ret t169_74
          exact ⟨_, _, hs, PL_bad (by rw [lin_tab (w := 6) (by decide) hk, tab_full hfl]; rfl) h1 (FM.er hf1.1 (fun k hk => hf1.2 k (by omega)) FM.rf) FG.rf⟩
  · exact absurd rfl b32
theorem ln7 {nf : Bool} {xs : List Int32} {d : Nat} {g : xL} {G : xG} {r : Option Value} {h' : zH} {N : Nat} {m : xM} {B : eB} {s : eS} (hG : GL G) (hE : EV B) (hA : AR B s m g) (hk : tK B s.2.2.2 = Int32.ofNat (32 + 7)) (hr : RR nf xs d 11 false 6 none zt169 G r h' N (27, [(1, .int 7), (0, .ref 128)], [], m, g)) : ∃ (m' : xM) (g' : xL), HS h' m' g' G ∧ PL B s m g r m' g' := by
  have hL : ∀ u : Nat, 1 ≤ u → u ≤ 5 → m 130 (9 + u) = Int32.ofNat ((fun u => (s.1 u).length) u) ∧ (fun u => (s.1 u).length) u ≤ 8 := fun u u1 u2 => ⟨hA.2.2.1 u u1 u2, by have := hA.2.1 u (by omega); have := (mN_b u).1; dsimp only; omega⟩
  replace hr := hr.go (s_aload_n t169_27 rfl)
  replace hr := hr.go (s_iload_n t169_28 rfl)
  replace hr := hr.cvI t169_29 rfl rfl (ct_isFullR (w := 7) (L := (fun u => (s.1 u).length)) hG.2.1 (by decide) hL)
  rw [show fulR (fun u => (s.1 u).length) 7 = false from decide_eq_false (by omega)] at hr
  rcases hr.zEq t169_32 with ⟨b32, hr⟩ | ⟨b32, hr⟩
  · replace hr := hr.go (s_iload_n t169_43 rfl)
    replace hr := hr.csI t169_44 rfl rfl (ct_isOnce (w := 7) (by decide))
    rw [show onR 7 = true from by decide] at hr
    rcases hr.zEq t169_47 with ⟨b47, hr⟩ | ⟨b47, hr⟩
    · exact absurd b47 (by decide)
    · replace hr := hr.go (s_aload_n t169_50 rfl)
      replace hr := hr.go (s_getf t169_51)
      replace hr := hr.go (s_iload_n t169_54 rfl)
      replace hr := hr.go (s_ishr t169_55)
      replace hr := hr.go (s_k t169_56)
      replace hr := hr.go (s_iand t169_57)
      replace hr := hr.go (s_k t169_58)
      rcases hr.bNe t169_59 with ⟨b59, hr⟩ | ⟨b59, hr⟩
      · skip
        replace hr := hr.go (s_aload_n t169_67 rfl)
        replace hr := hr.go (s_getf t169_68)
        rcases hr.zEq t169_71 with ⟨b71, hr⟩ | ⟨b71, hr⟩
        · have hT : (s.1 7).length = 0 := by
            have hb : ¬ bj (m 128 21) 7 = true := fun q => b59 ((bj_tst (k := 7) (by decide)).mpr q)
            rw [(hA.2.2.2.2.1 7 (by decide)).2] at hb
            have h9 : ¬ 1 ≤ (s.1 7).length := fun q => hb (decide_eq_true q)
            omega
          have hnf : ¬ mN 7 ≤ (s.1 7).length := by have := (mN_b 7).2; omega
          replace hr := hr.go (s_aload_n t169_75 rfl)
          replace hr := hr.go (s_dup t169_76 rfl)
          replace hr := hr.go (s_getf t169_77)
          replace hr := hr.go (s_k t169_80)
          replace hr := hr.go (s_iload_n t169_81 rfl)
          replace hr := hr.go (s_ishl t169_82)
          replace hr := hr.go (s_ior t169_83)
          replace hr := hr.go (s_putf t169_84)
          replace hr := hr.go (s_aload_n t169_87 rfl)
          obtain ⟨m2, ⟨h2, hf2⟩, hr⟩ := hr.fvN t169_88 rfl rfl (ct_tokG hG.1 hE (sX_f (k := 21) hA.1 (by decide) (by decide) (by decide)))
          replace h2 : sX B (.inr (s.2.2.2 + 1, s.2.2.1, 0)) m2 := h2
          replace hr := hr.go (s_iload_n t169_91 rfl)
          replace hr := hr.go (s_tswitch (q := 465) t169_92 (by decide) (by decide) rfl rfl)
          replace hr := hr.go (s_aload_n t169_465 rfl)
          replace hr := hr.go (s_k t169_466)
          replace hr := hr.go (s_aload_n t169_468 rfl)
          replace hr := hr.go (s_k t169_469)
          replace hr := hr.go (s_ldc t169_470 rfl)
          obtain ⟨m3, ⟨h3, hf3⟩, hr⟩ := hr.fvI t169_472 rfl rfl (ct_numeral (o := (.inr (s.2.2.2 + 1, s.2.2.1, 0))) (lo := 0) (mo := 99999) hG.1 hE (by decide) h2)
          replace hr := hr.cvN t169_475 rfl rfl (ct_reads hG.2.1.1)
          replace hr := hr.go (s_goto t169_478)
          rcases ch7 (B := B) (rows := s.1 7) (i := s.2.2.2 + 1) (kn := s.2.2.1) with ⟨e, e1, e2⟩ | ⟨e1, e2⟩
          · rw [e2] at h3
            obtain ⟨rfl, hs⟩ := le485F rfl ((sX_row h3 (xu_row (by decide)) (xu_row (by decide)))) hr
            refine ⟨_, _, hs, PL_bad ?_ ((sX_row h3 (xu_row (by decide)) (xu_row (by decide)))) (FM.x130 (FM.er hf3.1 (fun k hk => hf3.2 k (by omega)) (FM.er hf2.1 (fun k hk => hf2.2 k (by omega)) (FM.x128 FM.rf (by decide)))) (by decide)) FG.rf⟩
            rw [lin_tab (w := 7) (by decide) hk, tab_num hnf (by decide)]
            exact congrArg (fun z => oMap _ (rendF B z)) e1
          · rw [e2] at h3
            obtain ⟨m', hs, rfl, h4, h22, hfa, hfk⟩ := le485G hG.1 hE rfl ((sX_row h3 (xu_row (by decide)) (xu_row (by decide)))) hr
            refine ⟨m', _, hs, PL_good (w := 7) (by rw [lin_tab (w := 7) (by decide) hk, tab_num hnf (by decide)]; exact congrArg (fun z => oMap _ (rendF B z)) e1) h4 (fun hq => ?_) ?_ (FM.er hfa (fun k hk => hfk k (by omega) (by omega)) (FM.x130 (FM.er hf3.1 (fun k hk => hf3.2 k (by omega)) (FM.er hf2.1 (fun k hk => hf2.2 k (by omega)) (FM.x128 FM.rf (by decide)))) (by decide))) FG.rf⟩
            · refine AR_sing (by decide) hA hT hq (fun a a1 a2 => ?_) (fun k hk2 => ?_) ?_ ?_
              · rw [hfa a a1, xu_row a2, hf3.1 a a1, hf2.1 a a1, xu_row a1]
              · rw [hfa 130 (by decide), xu_oth (k := ((9 : Int32) + 7).toNatClampNeg) (fun q => hk2 (q.2.trans (by decide))), hf3.1 130 (by decide), hf2.1 130 (by decide), xu_row (by decide)]
              · rw [hfa 130 (by decide)]; exact xu_same
              · rw [hfk 21 (by decide) (by decide), xu_row (by decide), hf3.2 21 (by decide), hf2.2 21 (by decide)]; exact xu_same
            · rw [h22, xu_row (by decide), hf3.2 22 (by decide), hf2.2 22 (by decide), xu_oth (by decide)]
        · exact absurd hA.1.1 b71
      · have hfl : mN 7 ≤ (s.1 7).length := of_decide_eq_true ((hA.2.2.2.2.1 7 (by decide)).2.symm.trans ((bj_tst (k := 7) (by decide)).mp b59))
        replace hr := hr.go (s_aload_n t169_62 rfl)
        replace hr := hr.go (s_k t169_63)
        obtain ⟨m1, ⟨h1, hf1⟩, hr⟩ := hr.fvN t169_64 rfl rfl (ct_wrongG (f := 3) hA.1 (by decide) (by decide))
        skip
        replace hr := hr.go (s_aload_n t169_67 rfl)
        replace hr := hr.go (s_getf t169_68)
        rcases hr.zEq t169_71 with ⟨b71, hr⟩ | ⟨b71, hr⟩
        · exact absurd b71 h1.2.1
        · obtain ⟨rfl, hs⟩ := hr.ret t169_74
          exact ⟨_, _, hs, PL_bad (by rw [lin_tab (w := 7) (by decide) hk, tab_full hfl]; rfl) h1 (FM.er hf1.1 (fun k hk => hf1.2 k (by omega)) FM.rf) FG.rf⟩
  · exact absurd rfl b32
