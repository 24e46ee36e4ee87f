/-! The reference's lines: riders, jokes, sights. -/
theorem xu_er {α : Type} {m m1 : Nat → Nat → α} {a k : Nat} {x : α} (h : ∀ b : Nat, ¬ b = 128 → m1 b = m b) : ∀ b : Nat, ¬ b = 128 → xu m1 a k x b = xu m a k x b := fun b hb => funext fun j => by unfold xu; rw [h b hb]
theorem xu_at {α : Type} {m : Nat → Nat → α} {a k j : Nat} {x : α} : xu m a k x a j = if j = k then x else m a j := by
  unfold xu
  by_cases h : j = k
  · rw [if_pos ⟨rfl, h⟩, if_pos h]
  · rw [if_neg (fun q => h q.2), if_neg h]
theorem ln4 {nf : Bool} {xs : List Int32} {d : Nat} {g : xL} {G : xG} {r : Option Value} {h' : zH} {N : Nat} {m : xM} {B : eB} {s : eS} (hG : GL G) (hE : EV B) (hA : AR B s m g) (hk : tK B s.2.2.2 = Int32.ofNat (32 + 4)) (hr : RR nf xs d 11 false 6 none zt169 G r h' N (27, [(1, .int 4), (0, .ref 128)], [], m, g)) : ∃ (m' : xM) (g' : xL), HS h' m' g' G ∧ PL B s m g r m' g' := by
  have hL : ∀ u : Nat, 1 ≤ u → u ≤ 5 → m 130 (9 + u) = Int32.ofNat ((fun u => (s.1 u).length) u) ∧ (fun u => (s.1 u).length) u ≤ 8 := fun u u1 u2 => ⟨hA.2.2.1 u u1 u2, by have := hA.2.1 u (by omega); have := (mN_b u).1; dsimp only; omega⟩
  have hLw : m 130 (9 + (4 : Int32)).toNatClampNeg = Int32.ofNat (s.1 4).length := hA.2.2.1 4 (by decide) (by decide)
  have hle : (s.1 4).length ≤ 5 := hA.2.1 4 (by decide)
  replace hr := hr.go (s_aload_n t169_27 rfl)
  replace hr := hr.go (s_iload_n t169_28 rfl)
  replace hr := hr.cvI t169_29 rfl rfl (ct_isFullR (w := 4) (L := (fun u => (s.1 u).length)) hG.2.1 (by decide) hL)
  rw [show fulR (fun u => (s.1 u).length) 4 = decide (1 ≤ 4 ∧ 4 ≤ 5 ∧ (s.1 4).length = mN 4) from rfl] at hr
  rcases hr.zEq t169_32 with ⟨b32, hr⟩ | ⟨b32, hr⟩
  · skip
    replace hr := hr.go (s_iload_n t169_43 rfl)
    replace hr := hr.csI t169_44 rfl rfl (ct_isOnce (w := 4) (by decide))
    rw [show onR 4 = false from by decide] at hr
    rcases hr.zEq t169_47 with ⟨b47, hr⟩ | ⟨b47, hr⟩
    · replace hr := hr.go (s_aload_n t169_67 rfl)
      replace hr := hr.go (s_getf t169_68)
      rcases hr.zEq t169_71 with ⟨b71, hr⟩ | ⟨b71, hr⟩
      · have hnf : ¬ mN 4 ≤ (s.1 4).length := fun q => (of_decide_eq_false (bI_0 b32)) ⟨by decide, by decide, Nat.le_antisymm (hA.2.1 4 (by decide)) q⟩
        replace hr := hr.go (s_aload_n t169_75 rfl)
        replace hr := hr.go (s_dup t169_76 rfl)
        replace hr := hr.go (s_getf t169_77)
        replace hr := hr.go (s_k t169_80)
        replace hr := hr.go (s_iload_n t169_81 rfl)
        replace hr := hr.go (s_ishl t169_82)
        replace hr := hr.go (s_ior t169_83)
        replace hr := hr.go (s_putf t169_84)
        replace hr := hr.go (s_aload_n t169_87 rfl)
        obtain ⟨m2, ⟨h2, hf2⟩, hr⟩ := hr.fvN t169_88 rfl rfl (ct_tokG hG.1 hE (sX_f (k := 21) hA.1 (by decide) (by decide) (by decide)))
        replace h2 : sX B (.inr (s.2.2.2 + 1, s.2.2.1, 0)) m2 := h2
        have hY2 : ∀ a : Nat, ¬ a = 128 → m2 a = m a := fun a ha => (hf2.1 a ha).trans (xu_row ha)
        have hK2 : ∀ k : Nat, ¬ (24 ≤ k ∧ k ≤ 29) → m2 128 k = xu m 128 21 (m 128 21 ||| (1 : Int32) <<< (4 &&& 31)) 128 k := hf2.2
        have hM2 : ∀ a : Nat, ¬ a = 128 → m2 a = m a := hY2
        have hX2 := h2
        replace hr := hr.go (s_iload_n t169_91 rfl)
        replace hr := hr.go (s_tswitch (q := 328) t169_92 (by decide) (by decide) rfl rfl)
        replace hr := hr.go (s_k t169_328)
        replace hr := hr.go (s_aload_n t169_329 rfl)
        replace hr := hr.go (s_k t169_330)
        replace hr := hr.cvI t169_331 rfl rfl (ct_fresher hG.2.1.1 hG.2.1.2.1)
        rw [show (m2) 130 (9 + (4 : Int32)).toNatClampNeg = Int32.ofNat (s.1 4).length from (congrFun (hY2 130 (by decide)) _).trans (hLw)] at hr
        replace hr := hr.go (s_iadd t169_334)
        rw [show (5 : Int32) + Int32.ofNat (s.1 4).length = Int32.ofNat (5 + (s.1 4).length) from xn_add (p := 5)] at hr
        replace hr := hr.go (s_istore (ls' := [(4, _), (1, _), (0, _)]) t169_335 rfl)
        replace hr := hr.go (s_aload_n t169_337 rfl)
        replace hr := hr.go (s_getr t169_338 (hG.2.2.1 13 (by decide) (by decide)))
        replace hr := hr.go (s_iload t169_341 rfl)
        replace hr := hr.go (s_aload_n t169_343 rfl)
        replace hr := hr.go (s_k t169_344)
        replace hr := hr.go (s_k t169_345)
        obtain ⟨m3, ⟨h3, hf3⟩, hr⟩ := hr.fvI t169_347 rfl rfl (ct_numeral (o := (.inr ((s.2.2.2 + 1), s.2.2.1, 0))) (lo := 0) (mo := 60) hG.1 hE (by decide) hX2)
        have hW3 : ∀ a : Nat, ¬ a = 128 → m3 a = m a := fun a ha => (hf3.1 a ha).trans (hY2 a ha)
        have hJ3 : ∀ k : Nat, ¬ (24 ≤ k ∧ k ≤ 29) → m3 128 k = xu m 128 21 (m 128 21 ||| (1 : Int32) <<< (4 &&& 31)) 128 k := fun k hk => (hf3.2 k hk).trans (hK2 k hk)
        replace hr := hr.go (s_iastore t169_350)
        rw [xn_nat (show 5 + (s.1 4).length < 2147483648 by omega)] at hr
        have hY3 : ∀ a : Nat, ¬ a = 128 → xu m3 140 (5 + (s.1 4).length) (nuV B 0 60 (.inr ((s.2.2.2 + 1), s.2.2.1, 0))) a = (xu m 140 (5 + (s.1 4).length) (nuV B 0 60 (.inr ((s.2.2.2 + 1), s.2.2.1, 0)))) a := xu_er hW3
        have hK3 : ∀ k : Nat, ¬ (24 ≤ k ∧ k ≤ 29) → xu m3 140 (5 + (s.1 4).length) (nuV B 0 60 (.inr ((s.2.2.2 + 1), s.2.2.1, 0))) 128 k = xu m 128 21 (m 128 21 ||| (1 : Int32) <<< (4 &&& 31)) 128 k := fun k hk => (congrFun (xu_row (by decide)) k).trans (hJ3 k hk)
        have hX3 := sX_row h3 (show xu m3 140 (5 + (s.1 4).length) (nuV B 0 60 (.inr ((s.2.2.2 + 1), s.2.2.1, 0))) 128 = m3 128 from xu_row (by decide)) (show xu m3 140 (5 + (s.1 4).length) (nuV B 0 60 (.inr ((s.2.2.2 + 1), s.2.2.1, 0))) 129 = m3 129 from xu_row (by decide))
        replace hr := hr.go (s_aload_n t169_351 rfl)
        replace hr := hr.go (s_getr t169_352 (hG.2.2.1 14 (by decide) (by decide)))
        replace hr := hr.go (s_iload t169_355 rfl)
        replace hr := hr.go (s_aload_n t169_357 rfl)
        replace hr := hr.go (s_k t169_358)
        replace hr := hr.go (s_k t169_359)
        obtain ⟨m4, ⟨h4, hf4⟩, hr⟩ := hr.fvI t169_361 rfl rfl (ct_numeral (o := (nuO B 0 60 (.inr ((s.2.2.2 + 1), s.2.2.1, 0)))) (lo := 0) (mo := 99) hG.1 hE (by decide) hX3)
        have hW4 : ∀ a : Nat, ¬ a = 128 → m4 a = (xu m 140 (5 + (s.1 4).length) (nuV B 0 60 (.inr ((s.2.2.2 + 1), s.2.2.1, 0)))) a := fun a ha => (hf4.1 a ha).trans (hY3 a ha)
        have hJ4 : ∀ k : Nat, ¬ (24 ≤ k ∧ k ≤ 29) → m4 128 k = xu m 128 21 (m 128 21 ||| (1 : Int32) <<< (4 &&& 31)) 128 k := fun k hk => (hf4.2 k hk).trans (hK3 k hk)
        replace hr := hr.go (s_iastore t169_364)
        rw [xn_nat (show 5 + (s.1 4).length < 2147483648 by omega)] at hr
        have hY4 : ∀ a : Nat, ¬ a = 128 → xu m4 141 (5 + (s.1 4).length) (nuV B 0 99 (nuO B 0 60 (.inr ((s.2.2.2 + 1), s.2.2.1, 0)))) a = (xu (xu m 140 (5 + (s.1 4).length) (nuV B 0 60 (.inr ((s.2.2.2 + 1), s.2.2.1, 0)))) 141 (5 + (s.1 4).length) (nuV B 0 99 (nuO B 0 60 (.inr ((s.2.2.2 + 1), s.2.2.1, 0))))) a := xu_er hW4
        have hK4 : ∀ k : Nat, ¬ (24 ≤ k ∧ k ≤ 29) → xu m4 141 (5 + (s.1 4).length) (nuV B 0 99 (nuO B 0 60 (.inr ((s.2.2.2 + 1), s.2.2.1, 0)))) 128 k = xu m 128 21 (m 128 21 ||| (1 : Int32) <<< (4 &&& 31)) 128 k := fun k hk => (congrFun (xu_row (by decide)) k).trans (hJ4 k hk)
        have hX4 := sX_row h4 (show xu m4 141 (5 + (s.1 4).length) (nuV B 0 99 (nuO B 0 60 (.inr ((s.2.2.2 + 1), s.2.2.1, 0)))) 128 = m4 128 from xu_row (by decide)) (show xu m4 141 (5 + (s.1 4).length) (nuV B 0 99 (nuO B 0 60 (.inr ((s.2.2.2 + 1), s.2.2.1, 0)))) 129 = m4 129 from xu_row (by decide))
        replace hr := hr.go (s_aload_n t169_365 rfl)
        replace hr := hr.go (s_k t169_366)
        replace hr := hr.go (s_aload_n t169_367 rfl)
        replace hr := hr.go (s_k t169_368)
        replace hr := hr.cvI t169_369 rfl rfl (ct_fresher hG.2.1.1 hG.2.1.2.1)
        rw [show ((xu m4 141 (5 + (s.1 4).length) (nuV B 0 99 (nuO B 0 60 (.inr ((s.2.2.2 + 1), s.2.2.1, 0)))))) 130 (9 + (4 : Int32)).toNatClampNeg = Int32.ofNat (s.1 4).length from (congrFun (hY4 130 (by decide)) _).trans ((congrFun (xu_row (by decide)) _).trans ((congrFun (xu_row (by decide)) _).trans (hLw)))] at hr
        replace hr := hr.go (s_k t169_372)
        replace hr := hr.go (s_iadd t169_373)
        rw [xn_1] at hr
        replace hr := hr.cvN t169_374 rfl rfl (ct_reads hG.2.1.1)
        replace hr := hr.go (s_goto t169_377)
        rcases ch4 (B := B) (rows := s.1 4) (i := s.2.2.2 + 1) (kn := s.2.2.1) with ⟨e, e1, e2⟩ | ⟨e1, e2⟩
        · rw [e2] at hX4
          obtain ⟨rfl, hs⟩ := le485F rfl ((sX_row hX4 (xu_row (by decide)) (xu_row (by decide)))) hr
          refine ⟨_, _, hs, PL_bad ?_ ((sX_row hX4 (xu_row (by decide)) (xu_row (by decide)))) (FM.x130 (FM.er hY4 (fun k hk => (hK4 k (by omega)).trans ((xu_oth (by omega)).trans (by repeat rw [xu_row (by decide)]))) (FM.xr (FM.xr FM.rf (by unfold fhq fhp; omega)) (by unfold fhq fhp; omega))) (by decide)) FG.rf⟩
          rw [lin_tab (w := 4) (by decide) hk, tab_num hnf (by decide)]
          exact congrArg (fun z => oMap _ (rendF B z)) e1
        · rw [e2] at hX4
          obtain ⟨m', hs, rfl, h4, h22, hfa, hfk⟩ := le485G hG.1 hE rfl ((sX_row hX4 (xu_row (by decide)) (xu_row (by decide)))) hr
          have hZ : ∀ a : Nat, ¬ a = 128 → m' a = xu (xu (xu m 140 (5 + (s.1 4).length) (nuV B 0 60 (.inr ((s.2.2.2 + 1), s.2.2.1, 0)))) 141 (5 + (s.1 4).length) (nuV B 0 99 (nuO B 0 60 (.inr ((s.2.2.2 + 1), s.2.2.1, 0))))) 130 ((9 : Int32) + 4).toNatClampNeg (Int32.ofNat ((s.1 4).length + 1)) a := fun a ha => (hfa a ha).trans (xu_er hY4 a ha)
          refine ⟨m', _, hs, PL_good (w := 4) (by rw [lin_tab (w := 4) (by decide) hk, tab_num hnf (by decide)]; exact congrArg (fun z => oMap _ (rendF B z)) e1) h4 (fun hq => ?_) ?_ (FM.er hZ (fun k hk => (hfk k (by omega) (by omega)).trans ((congrFun (xu_row (by decide)) k).trans ((hK4 k (by omega)).trans ((xu_oth (by omega)).trans (by repeat rw [xu_row (by decide)]))))) (FM.x130 (FM.xr (FM.xr FM.rf (by unfold fhq fhp; omega)) (by unfold fhq fhp; omega)) (by decide))) FG.rf⟩
          · refine AR_arr (by decide) hA (by omega) hq (fun a a1 a2 a3 => ?_) (fun c hc k => ?_) (fun k hk2 => ?_) ?_ ?_
            · rw [hZ a a1, xu_row a2, xu_row (show ¬ a = 141 from a3 1 (by decide)), xu_row (show ¬ a = 140 from a3 0 (by decide))]
            · have hc : c < 2 := hc
              rcases c with _ | _ | c
              · show m' 140 k = if k = 5 + (s.1 4).length then _ else m 140 k
                rw [congrFun (hZ 140 (by decide)) k, xu_row (a := 130) (by decide), xu_row (a := 141) (by decide), xu_at]
                rfl
              · show m' 141 k = if k = 5 + (s.1 4).length then _ else m 141 k
                rw [congrFun (hZ 141 (by decide)) k, xu_row (a := 130) (by decide), xu_at, xu_row (a := 140) (by decide)]
                rfl
              · omega
            · rw [congrFun (hZ 130 (by decide)) k, xu_oth (k := ((9 : Int32) + 4).toNatClampNeg) (fun q => hk2 (q.2.trans (by decide))), xu_row (a := 141) (by decide), xu_row (a := 140) (by decide)]
            · rw [hZ 130 (by decide)]; exact xu_same
            · rw [hfk 21 (by decide) (by decide), xu_row (by decide), hK4 21 (by decide)]; exact xu_same
          · rw [h22, xu_row (by decide), hK4 22 (by decide), xu_oth (by decide)]
      · exact absurd hA.1.1 b71
    · exact absurd rfl b47
  · replace hr := hr.go (s_aload_n t169_35 rfl)
    replace hr := hr.go (s_k t169_36)
    obtain ⟨m1, ⟨h1, hf1⟩, hr⟩ := hr.fvN t169_37 rfl rfl (ct_wrongG (f := 2) hA.1 (by decide) (by decide))
    skip
    replace hr := hr.go (s_goto t169_40)
    replace hr := hr.go (s_aload_n t169_67 rfl)
    replace hr := hr.go (s_getf t169_68)
    rcases hr.zEq t169_71 with ⟨b71, hr⟩ | ⟨b71, hr⟩
    · exact absurd b71 h1.2.1
    · obtain ⟨rfl, hs⟩ := hr.ret t169_74
      exact ⟨_, _, hs, PL_bad (by rw [lin_tab (w := 4) (by decide) hk, tab_full (Nat.le_of_eq (of_decide_eq_true (bI_1 b32)).2.2.symm)]; rfl) h1 (FM.er hf1.1 (fun k hk => hf1.2 k (by omega)) FM.rf) FG.rf⟩
theorem ln2 {nf : Bool} {xs : List Int32} {d : Nat} {g : xL} {G : xG} {r : Option Value} {h' : zH} {N : Nat} {m : xM} {B : eB} {s : eS} (hG : GL G) (hE : EV B) (hA : AR B s m g) (hk : tK B s.2.2.2 = Int32.ofNat (32 + 2)) (hr : RR nf xs d 11 false 6 none zt169 G r h' N (27, [(1, .int 2), (0, .ref 128)], [], m, g)) : ∃ (m' : xM) (g' : xL), HS h' m' g' G ∧ PL B s m g r m' g' := by
  have hL : ∀ u : Nat, 1 ≤ u → u ≤ 5 → m 130 (9 + u) = Int32.ofNat ((fun u => (s.1 u).length) u) ∧ (fun u => (s.1 u).length) u ≤ 8 := fun u u1 u2 => ⟨hA.2.2.1 u u1 u2, by have := hA.2.1 u (by omega); have := (mN_b u).1; dsimp only; omega⟩
  have hLw : m 130 (9 + (2 : Int32)).toNatClampNeg = Int32.ofNat (s.1 2).length := hA.2.2.1 2 (by decide) (by decide)
  have hle : (s.1 2).length ≤ 6 := hA.2.1 2 (by decide)
  replace hr := hr.go (s_aload_n t169_27 rfl)
  replace hr := hr.go (s_iload_n t169_28 rfl)
  replace hr := hr.cvI t169_29 rfl rfl (ct_isFullR (w := 2) (L := (fun u => (s.1 u).length)) hG.2.1 (by decide) hL)
  rw [show fulR (fun u => (s.1 u).length) 2 = decide (1 ≤ 2 ∧ 2 ≤ 5 ∧ (s.1 2).length = mN 2) from rfl] at hr
  rcases hr.zEq t169_32 with ⟨b32, hr⟩ | ⟨b32, hr⟩
  · skip
    replace hr := hr.go (s_iload_n t169_43 rfl)
    replace hr := hr.csI t169_44 rfl rfl (ct_isOnce (w := 2) (by decide))
    rw [show onR 2 = false from by decide] at hr
    rcases hr.zEq t169_47 with ⟨b47, hr⟩ | ⟨b47, hr⟩
    · replace hr := hr.go (s_aload_n t169_67 rfl)
      replace hr := hr.go (s_getf t169_68)
      rcases hr.zEq t169_71 with ⟨b71, hr⟩ | ⟨b71, hr⟩
      · have hnf : ¬ mN 2 ≤ (s.1 2).length := fun q => (of_decide_eq_false (bI_0 b32)) ⟨by decide, by decide, Nat.le_antisymm (hA.2.1 2 (by decide)) q⟩
        replace hr := hr.go (s_aload_n t169_75 rfl)
        replace hr := hr.go (s_dup t169_76 rfl)
        replace hr := hr.go (s_getf t169_77)
        replace hr := hr.go (s_k t169_80)
        replace hr := hr.go (s_iload_n t169_81 rfl)
        replace hr := hr.go (s_ishl t169_82)
        replace hr := hr.go (s_ior t169_83)
        replace hr := hr.go (s_putf t169_84)
        replace hr := hr.go (s_aload_n t169_87 rfl)
        obtain ⟨m2, ⟨h2, hf2⟩, hr⟩ := hr.fvN t169_88 rfl rfl (ct_tokG hG.1 hE (sX_f (k := 21) hA.1 (by decide) (by decide) (by decide)))
        replace h2 : sX B (.inr (s.2.2.2 + 1, s.2.2.1, 0)) m2 := h2
        have hY2 : ∀ a : Nat, ¬ a = 128 → m2 a = m a := fun a ha => (hf2.1 a ha).trans (xu_row ha)
        have hK2 : ∀ k : Nat, ¬ (24 ≤ k ∧ k ≤ 29) → m2 128 k = xu m 128 21 (m 128 21 ||| (1 : Int32) <<< (2 &&& 31)) 128 k := hf2.2
        have hM2 : ∀ a : Nat, ¬ a = 128 → m2 a = m a := hY2
        have hX2 := h2
        replace hr := hr.go (s_iload_n t169_91 rfl)
        replace hr := hr.go (s_tswitch (q := 251) t169_92 (by decide) (by decide) rfl rfl)
        replace hr := hr.go (s_k t169_251)
        replace hr := hr.go (s_aload_n t169_253 rfl)
        replace hr := hr.go (s_k t169_254)
        replace hr := hr.cvI t169_255 rfl rfl (ct_fresher hG.2.1.1 hG.2.1.2.1)
        rw [show (m2) 130 (9 + (2 : Int32)).toNatClampNeg = Int32.ofNat (s.1 2).length from (congrFun (hY2 130 (by decide)) _).trans (hLw)] at hr
        replace hr := hr.go (s_iadd t169_258)
        rw [show (6 : Int32) + Int32.ofNat (s.1 2).length = Int32.ofNat (6 + (s.1 2).length) from xn_add (p := 6)] at hr
        replace hr := hr.go (s_istore_n (ls' := [(3, _), (1, _), (0, _)]) t169_259 rfl)
        replace hr := hr.go (s_aload_n t169_260 rfl)
        replace hr := hr.go (s_getr t169_261 (hG.2.2.1 9 (by decide) (by decide)))
        replace hr := hr.go (s_iload_n t169_264 rfl)
        replace hr := hr.go (s_aload_n t169_265 rfl)
        replace hr := hr.go (s_aload_n t169_266 rfl)
        replace hr := hr.go (s_getr t169_267 (hG.2.2.1 9 (by decide) (by decide)))
        replace hr := hr.go (s_k t169_270)
        replace hr := hr.go (s_aload_n t169_272 rfl)
        replace hr := hr.go (s_k t169_273)
        replace hr := hr.cvI t169_274 rfl rfl (ct_fresher hG.2.1.1 hG.2.1.2.1)
        rw [show (m2) 130 (9 + (2 : Int32)).toNatClampNeg = Int32.ofNat (s.1 2).length from (congrFun (hY2 130 (by decide)) _).trans (hLw)] at hr
        obtain ⟨m3, ⟨h3, hf3⟩, hr⟩ := hr.fvI t169_277 rfl rfl (ct_fresh (a := 136) (fr := 6) (len := 12) (rows := s.1 2) (s := ((s.2.2.2 + 1), s.2.2.1, 0)) hG.1 hE hX2 hG.2.2.2.2.1 (by omega) (by decide) (fun i hi => (congrFun (hY2 136 (by decide)) _).trans (hA.2.2.2.1 2 (by decide) i hi 0 (by decide))))
        have hW3 : ∀ a : Nat, ¬ a = 128 → m3 a = m a := fun a ha => (hf3.1 a ha).trans (hY2 a ha)
        have hJ3 : ∀ k : Nat, ¬ (24 ≤ k ∧ k ≤ 29) → m3 128 k = xu m 128 21 (m 128 21 ||| (1 : Int32) <<< (2 &&& 31)) 128 k := fun k hk => (hf3.2 k hk).trans (hK2 k hk)
        replace hr := hr.go (s_iastore t169_280)
        rw [xn_nat (show 6 + (s.1 2).length < 2147483648 by omega)] at hr
        have hY3 : ∀ a : Nat, ¬ a = 128 → xu m3 136 (6 + (s.1 2).length) (frV B (s.1 2) ((s.2.2.2 + 1), s.2.2.1, 0)) a = (xu m 136 (6 + (s.1 2).length) (frV B (s.1 2) ((s.2.2.2 + 1), s.2.2.1, 0))) a := xu_er hW3
        have hK3 : ∀ k : Nat, ¬ (24 ≤ k ∧ k ≤ 29) → xu m3 136 (6 + (s.1 2).length) (frV B (s.1 2) ((s.2.2.2 + 1), s.2.2.1, 0)) 128 k = xu m 128 21 (m 128 21 ||| (1 : Int32) <<< (2 &&& 31)) 128 k := fun k hk => (congrFun (xu_row (by decide)) k).trans (hJ3 k hk)
        have hX3 := sX_row h3 (show xu m3 136 (6 + (s.1 2).length) (frV B (s.1 2) ((s.2.2.2 + 1), s.2.2.1, 0)) 128 = m3 128 from xu_row (by decide)) (show xu m3 136 (6 + (s.1 2).length) (frV B (s.1 2) ((s.2.2.2 + 1), s.2.2.1, 0)) 129 = m3 129 from xu_row (by decide))
        replace hr := hr.go (s_aload_n t169_281 rfl)
        replace hr := hr.go (s_getr t169_282 (hG.2.2.1 10 (by decide) (by decide)))
        replace hr := hr.go (s_iload_n t169_285 rfl)
        replace hr := hr.go (s_aload_n t169_286 rfl)
        replace hr := hr.go (s_k t169_287)
        replace hr := hr.go (s_k t169_288)
        obtain ⟨m4, ⟨h4, hf4⟩, hr⟩ := hr.fvI t169_290 rfl rfl (ct_numeral (o := (frO B (s.1 2) ((s.2.2.2 + 1), s.2.2.1, 0))) (lo := 0) (mo := 99) hG.1 hE (by decide) hX3)
        have hW4 : ∀ a : Nat, ¬ a = 128 → m4 a = (xu m 136 (6 + (s.1 2).length) (frV B (s.1 2) ((s.2.2.2 + 1), s.2.2.1, 0))) a := fun a ha => (hf4.1 a ha).trans (hY3 a ha)
        have hJ4 : ∀ k : Nat, ¬ (24 ≤ k ∧ k ≤ 29) → m4 128 k = xu m 128 21 (m 128 21 ||| (1 : Int32) <<< (2 &&& 31)) 128 k := fun k hk => (hf4.2 k hk).trans (hK3 k hk)
        replace hr := hr.go (s_iastore t169_293)
        rw [xn_nat (show 6 + (s.1 2).length < 2147483648 by omega)] at hr
        have hY4 : ∀ a : Nat, ¬ a = 128 → xu m4 137 (6 + (s.1 2).length) (nuV B 0 99 (frO B (s.1 2) ((s.2.2.2 + 1), s.2.2.1, 0))) a = (xu (xu m 136 (6 + (s.1 2).length) (frV B (s.1 2) ((s.2.2.2 + 1), s.2.2.1, 0))) 137 (6 + (s.1 2).length) (nuV B 0 99 (frO B (s.1 2) ((s.2.2.2 + 1), s.2.2.1, 0)))) a := xu_er hW4
        have hK4 : ∀ k : Nat, ¬ (24 ≤ k ∧ k ≤ 29) → xu m4 137 (6 + (s.1 2).length) (nuV B 0 99 (frO B (s.1 2) ((s.2.2.2 + 1), s.2.2.1, 0))) 128 k = xu m 128 21 (m 128 21 ||| (1 : Int32) <<< (2 &&& 31)) 128 k := fun k hk => (congrFun (xu_row (by decide)) k).trans (hJ4 k hk)
        have hX4 := sX_row h4 (show xu m4 137 (6 + (s.1 2).length) (nuV B 0 99 (frO B (s.1 2) ((s.2.2.2 + 1), s.2.2.1, 0))) 128 = m4 128 from xu_row (by decide)) (show xu m4 137 (6 + (s.1 2).length) (nuV B 0 99 (frO B (s.1 2) ((s.2.2.2 + 1), s.2.2.1, 0))) 129 = m4 129 from xu_row (by decide))
        replace hr := hr.go (s_aload_n t169_294 rfl)
        replace hr := hr.go (s_getr t169_295 (hG.2.2.1 11 (by decide) (by decide)))
        replace hr := hr.go (s_iload_n t169_298 rfl)
        replace hr := hr.go (s_aload_n t169_299 rfl)
        replace hr := hr.go (s_k t169_300)
        replace hr := hr.go (s_k t169_301)
        obtain ⟨m5, ⟨h5, hf5⟩, hr⟩ := hr.fvI t169_302 rfl rfl (ct_numeral (o := (nuO B 0 99 (frO B (s.1 2) ((s.2.2.2 + 1), s.2.2.1, 0)))) (lo := 0) (mo := 3) hG.1 hE (by decide) hX4)
        have hW5 : ∀ a : Nat, ¬ a = 128 → m5 a = (xu (xu m 136 (6 + (s.1 2).length) (frV B (s.1 2) ((s.2.2.2 + 1), s.2.2.1, 0))) 137 (6 + (s.1 2).length) (nuV B 0 99 (frO B (s.1 2) ((s.2.2.2 + 1), s.2.2.1, 0)))) a := fun a ha => (hf5.1 a ha).trans (hY4 a ha)
        have hJ5 : ∀ k : Nat, ¬ (24 ≤ k ∧ k ≤ 29) → m5 128 k = xu m 128 21 (m 128 21 ||| (1 : Int32) <<< (2 &&& 31)) 128 k := fun k hk => (hf5.2 k hk).trans (hK4 k hk)
        replace hr := hr.go (s_iastore t169_305)
        rw [xn_nat (show 6 + (s.1 2).length < 2147483648 by omega)] at hr
        have hY5 : ∀ a : Nat, ¬ a = 128 → xu m5 138 (6 + (s.1 2).length) (nuV B 0 3 (nuO B 0 99 (frO B (s.1 2) ((s.2.2.2 + 1), s.2.2.1, 0)))) a = (xu (xu (xu m 136 (6 + (s.1 2).length) (frV B (s.1 2) ((s.2.2.2 + 1), s.2.2.1, 0))) 137 (6 + (s.1 2).length) (nuV B 0 99 (frO B (s.1 2) ((s.2.2.2 + 1), s.2.2.1, 0)))) 138 (6 + (s.1 2).length) (nuV B 0 3 (nuO B 0 99 (frO B (s.1 2) ((s.2.2.2 + 1), s.2.2.1, 0))))) a := xu_er hW5
        have hK5 : ∀ k : Nat, ¬ (24 ≤ k ∧ k ≤ 29) → xu m5 138 (6 + (s.1 2).length) (nuV B 0 3 (nuO B 0 99 (frO B (s.1 2) ((s.2.2.2 + 1), s.2.2.1, 0)))) 128 k = xu m 128 21 (m 128 21 ||| (1 : Int32) <<< (2 &&& 31)) 128 k := fun k hk => (congrFun (xu_row (by decide)) k).trans (hJ5 k hk)
        have hX5 := sX_row h5 (show xu m5 138 (6 + (s.1 2).length) (nuV B 0 3 (nuO B 0 99 (frO B (s.1 2) ((s.2.2.2 + 1), s.2.2.1, 0)))) 128 = m5 128 from xu_row (by decide)) (show xu m5 138 (6 + (s.1 2).length) (nuV B 0 3 (nuO B 0 99 (frO B (s.1 2) ((s.2.2.2 + 1), s.2.2.1, 0)))) 129 = m5 129 from xu_row (by decide))
        replace hr := hr.go (s_aload_n t169_306 rfl)
        replace hr := hr.go (s_k t169_307)
        replace hr := hr.go (s_aload_n t169_308 rfl)
        replace hr := hr.go (s_k t169_309)
        replace hr := hr.cvI t169_310 rfl rfl (ct_fresher hG.2.1.1 hG.2.1.2.1)
        rw [show ((xu m5 138 (6 + (s.1 2).length) (nuV B 0 3 (nuO B 0 99 (frO B (s.1 2) ((s.2.2.2 + 1), s.2.2.1, 0)))))) 130 (9 + (2 : Int32)).toNatClampNeg = Int32.ofNat (s.1 2).length from (congrFun (hY5 130 (by decide)) _).trans ((congrFun (xu_row (by decide)) _).trans ((congrFun (xu_row (by decide)) _).trans ((congrFun (xu_row (by decide)) _).trans (hLw))))] at hr
        replace hr := hr.go (s_k t169_313)
        replace hr := hr.go (s_iadd t169_314)
        rw [xn_1] at hr
        replace hr := hr.cvN t169_315 rfl rfl (ct_reads hG.2.1.1)
        replace hr := hr.go (s_goto t169_318)
        rcases ch2 (B := B) (rows := s.1 2) (js := s.1 2) (i := s.2.2.2 + 1) (kn := s.2.2.1) with ⟨e, e1, e2⟩ | ⟨e1, e2⟩
        · rw [e2] at hX5
          obtain ⟨rfl, hs⟩ := le485F rfl ((sX_row hX5 (xu_row (by decide)) (xu_row (by decide)))) hr
          refine ⟨_, _, hs, PL_bad ?_ ((sX_row hX5 (xu_row (by decide)) (xu_row (by decide)))) (FM.x130 (FM.er hY5 (fun k hk => (hK5 k (by omega)).trans ((xu_oth (by omega)).trans (by repeat rw [xu_row (by decide)]))) (FM.xr (FM.xr (FM.xr FM.rf (by unfold fhq fhp; omega)) (by unfold fhq fhp; omega)) (by unfold fhq fhp; omega))) (by decide)) FG.rf⟩
          rw [lin_tab (w := 2) (by decide) hk, tab_nam hnf (by decide)]
          exact congrArg (fun z => oMap _ (rendF B z)) e1
        · rw [e2] at hX5
          obtain ⟨m', hs, rfl, h4, h22, hfa, hfk⟩ := le485G hG.1 hE rfl ((sX_row hX5 (xu_row (by decide)) (xu_row (by decide)))) hr
          have hZ : ∀ a : Nat, ¬ a = 128 → m' a = xu (xu (xu (xu m 136 (6 + (s.1 2).length) (frV B (s.1 2) ((s.2.2.2 + 1), s.2.2.1, 0))) 137 (6 + (s.1 2).length) (nuV B 0 99 (frO B (s.1 2) ((s.2.2.2 + 1), s.2.2.1, 0)))) 138 (6 + (s.1 2).length) (nuV B 0 3 (nuO B 0 99 (frO B (s.1 2) ((s.2.2.2 + 1), s.2.2.1, 0))))) 130 ((9 : Int32) + 2).toNatClampNeg (Int32.ofNat ((s.1 2).length + 1)) a := fun a ha => (hfa a ha).trans (xu_er hY5 a ha)
          refine ⟨m', _, hs, PL_good (w := 2) (by rw [lin_tab (w := 2) (by decide) hk, tab_nam hnf (by decide)]; exact congrArg (fun z => oMap _ (rendF B z)) e1) h4 (fun hq => ?_) ?_ (FM.er hZ (fun k hk => (hfk k (by omega) (by omega)).trans ((congrFun (xu_row (by decide)) k).trans ((hK5 k (by omega)).trans ((xu_oth (by omega)).trans (by repeat rw [xu_row (by decide)]))))) (FM.x130 (FM.xr (FM.xr (FM.xr FM.rf (by unfold fhq fhp; omega)) (by unfold fhq fhp; omega)) (by unfold fhq fhp; omega)) (by decide))) FG.rf⟩
          · refine AR_arr (by decide) hA (by omega) hq (fun a a1 a2 a3 => ?_) (fun c hc k => ?_) (fun k hk2 => ?_) ?_ ?_
            · rw [hZ a a1, xu_row a2, xu_row (show ¬ a = 138 from a3 2 (by decide)), xu_row (show ¬ a = 137 from a3 1 (by decide)), xu_row (show ¬ a = 136 from a3 0 (by decide))]
            · have hc : c < 3 := hc
              rcases c with _ | _ | _ | c
              · show m' 136 k = if k = 6 + (s.1 2).length then _ else m 136 k
                rw [congrFun (hZ 136 (by decide)) k, xu_row (a := 130) (by decide), xu_row (a := 138) (by decide), xu_row (a := 137) (by decide), xu_at]
                rfl
              · show m' 137 k = if k = 6 + (s.1 2).length then _ else m 137 k
                rw [congrFun (hZ 137 (by decide)) k, xu_row (a := 130) (by decide), xu_row (a := 138) (by decide), xu_at, xu_row (a := 136) (by decide)]
                rfl
              · show m' 138 k = if k = 6 + (s.1 2).length then _ else m 138 k
                rw [congrFun (hZ 138 (by decide)) k, xu_row (a := 130) (by decide), xu_at, xu_row (a := 137) (by decide), xu_row (a := 136) (by decide)]
                rfl
              · omega
            · rw [congrFun (hZ 130 (by decide)) k, xu_oth (k := ((9 : Int32) + 2).toNatClampNeg) (fun q => hk2 (q.2.trans (by decide))), xu_row (a := 138) (by decide), xu_row (a := 137) (by decide), xu_row (a := 136) (by decide)]
            · rw [hZ 130 (by decide)]; exact xu_same
            · rw [hfk 21 (by decide) (by decide), xu_row (by decide), hK5 21 (by decide)]; exact xu_same
          · rw [h22, xu_row (by decide), hK5 22 (by decide), xu_oth (by decide)]
      · exact absurd hA.1.1 b71
    · exact absurd rfl b47
  · replace hr := hr.go (s_aload_n t169_35 rfl)
    replace hr := hr.go (s_k t169_36)
    obtain ⟨m1, ⟨h1, hf1⟩, hr⟩ := hr.fvN t169_37 rfl rfl (ct_wrongG (f := 2) hA.1 (by decide) (by decide))
    skip
    replace hr := hr.go (s_goto t169_40)
    replace hr := hr.go (s_aload_n t169_67 rfl)
    replace hr := hr.go (s_getf t169_68)
    rcases hr.zEq t169_71 with ⟨b71, hr⟩ | ⟨b71, hr⟩
    · exact absurd b71 h1.2.1
    · obtain ⟨rfl, hs⟩ := hr.ret t169_74
      exact ⟨_, _, hs, PL_bad (by rw [lin_tab (w := 2) (by decide) hk, tab_full (Nat.le_of_eq (of_decide_eq_true (bI_1 b32)).2.2.symm)]; rfl) h1 (FM.er hf1.1 (fun k hk => hf1.2 k (by omega)) FM.rf) FG.rf⟩
theorem ln5 {nf : Bool} {xs : List Int32} {d : Nat} {g : xL} {G : xG} {r : Option Value} {h' : zH} {N : Nat} {m : xM} {B : eB} {s : eS} (hG : GL G) (hE : EV B) (hA : AR B s m g) (hk : tK B s.2.2.2 = Int32.ofNat (32 + 5)) (hr : RR nf xs d 11 false 6 none zt169 G r h' N (27, [(1, .int 5), (0, .ref 128)], [], m, g)) : ∃ (m' : xM) (g' : xL), HS h' m' g' G ∧ PL B s m g r m' g' := by
  have hL : ∀ u : Nat, 1 ≤ u → u ≤ 5 → m 130 (9 + u) = Int32.ofNat ((fun u => (s.1 u).length) u) ∧ (fun u => (s.1 u).length) u ≤ 8 := fun u u1 u2 => ⟨hA.2.2.1 u u1 u2, by have := hA.2.1 u (by omega); have := (mN_b u).1; dsimp only; omega⟩
  have hLw : m 130 (9 + (5 : Int32)).toNatClampNeg = Int32.ofNat (s.1 5).length := hA.2.2.1 5 (by decide) (by decide)
  have hle : (s.1 5).length ≤ 3 := hA.2.1 5 (by decide)
  replace hr := hr.go (s_aload_n t169_27 rfl)
  replace hr := hr.go (s_iload_n t169_28 rfl)
  replace hr := hr.cvI t169_29 rfl rfl (ct_isFullR (w := 5) (L := (fun u => (s.1 u).length)) hG.2.1 (by decide) hL)
  rw [show fulR (fun u => (s.1 u).length) 5 = decide (1 ≤ 5 ∧ 5 ≤ 5 ∧ (s.1 5).length = mN 5) from rfl] at hr
  rcases hr.zEq t169_32 with ⟨b32, hr⟩ | ⟨b32, hr⟩
  · skip
    replace hr := hr.go (s_iload_n t169_43 rfl)
    replace hr := hr.csI t169_44 rfl rfl (ct_isOnce (w := 5) (by decide))
    rw [show onR 5 = false from by decide] at hr
    rcases hr.zEq t169_47 with ⟨b47, hr⟩ | ⟨b47, hr⟩
    · replace hr := hr.go (s_aload_n t169_67 rfl)
      replace hr := hr.go (s_getf t169_68)
      rcases hr.zEq t169_71 with ⟨b71, hr⟩ | ⟨b71, hr⟩
      · have hnf : ¬ mN 5 ≤ (s.1 5).length := fun q => (of_decide_eq_false (bI_0 b32)) ⟨by decide, by decide, Nat.le_antisymm (hA.2.1 5 (by decide)) q⟩
        replace hr := hr.go (s_aload_n t169_75 rfl)
        replace hr := hr.go (s_dup t169_76 rfl)
        replace hr := hr.go (s_getf t169_77)
        replace hr := hr.go (s_k t169_80)
        replace hr := hr.go (s_iload_n t169_81 rfl)
        replace hr := hr.go (s_ishl t169_82)
        replace hr := hr.go (s_ior t169_83)
        replace hr := hr.go (s_putf t169_84)
        replace hr := hr.go (s_aload_n t169_87 rfl)
        obtain ⟨m2, ⟨h2, hf2⟩, hr⟩ := hr.fvN t169_88 rfl rfl (ct_tokG hG.1 hE (sX_f (k := 21) hA.1 (by decide) (by decide) (by decide)))
        replace h2 : sX B (.inr (s.2.2.2 + 1, s.2.2.1, 0)) m2 := h2
        have hY2 : ∀ a : Nat, ¬ a = 128 → m2 a = m a := fun a ha => (hf2.1 a ha).trans (xu_row ha)
        have hK2 : ∀ k : Nat, ¬ (24 ≤ k ∧ k ≤ 29) → m2 128 k = xu m 128 21 (m 128 21 ||| (1 : Int32) <<< (5 &&& 31)) 128 k := hf2.2
        have hM2 : ∀ a : Nat, ¬ a = 128 → m2 a = m a := hY2
        have hX2 := h2
        replace hr := hr.go (s_iload_n t169_91 rfl)
        replace hr := hr.go (s_tswitch (q := 380) t169_92 (by decide) (by decide) rfl rfl)
        replace hr := hr.go (s_k t169_380)
        replace hr := hr.go (s_aload_n t169_381 rfl)
        replace hr := hr.go (s_k t169_382)
        replace hr := hr.cvI t169_383 rfl rfl (ct_fresher hG.2.1.1 hG.2.1.2.1)
        rw [show (m2) 130 (9 + (5 : Int32)).toNatClampNeg = Int32.ofNat (s.1 5).length from (congrFun (hY2 130 (by decide)) _).trans (hLw)] at hr
        replace hr := hr.go (s_iadd t169_386)
        rw [show (3 : Int32) + Int32.ofNat (s.1 5).length = Int32.ofNat (3 + (s.1 5).length) from xn_add (p := 3)] at hr
        replace hr := hr.go (s_istore (ls' := [(5, _), (1, _), (0, _)]) t169_387 rfl)
        replace hr := hr.go (s_aload_n t169_389 rfl)
        replace hr := hr.go (s_getr t169_390 (hG.2.2.1 15 (by decide) (by decide)))
        replace hr := hr.go (s_iload t169_393 rfl)
        replace hr := hr.go (s_aload_n t169_395 rfl)
        replace hr := hr.go (s_k t169_396)
        replace hr := hr.go (s_k t169_397)
        obtain ⟨m3, ⟨h3, hf3⟩, hr⟩ := hr.fvI t169_399 rfl rfl (ct_numeral (o := (.inr ((s.2.2.2 + 1), s.2.2.1, 0))) (lo := 0) (mo := 60) hG.1 hE (by decide) hX2)
        have hW3 : ∀ a : Nat, ¬ a = 128 → m3 a = m a := fun a ha => (hf3.1 a ha).trans (hY2 a ha)
        have hJ3 : ∀ k : Nat, ¬ (24 ≤ k ∧ k ≤ 29) → m3 128 k = xu m 128 21 (m 128 21 ||| (1 : Int32) <<< (5 &&& 31)) 128 k := fun k hk => (hf3.2 k hk).trans (hK2 k hk)
        replace hr := hr.go (s_iastore t169_402)
        rcases num_step (B := B) (w := 5) (c := 0) (i := s.2.2.2 + 1) (kn := s.2.2.1) (row := []) (rows := s.1 5) (lo := 0) (mo := 60) (by first | rfl | decide) (by decide) (by decide) with ⟨e, e1, e2⟩ | ⟨e1, e2⟩
        · rw [e2] at h3
          rw [xn_nat (show 3 + (s.1 5).length < 2147483648 by omega)] at hr
          have hY3 : ∀ a : Nat, ¬ a = 128 → xu m3 142 (3 + (s.1 5).length) (nuV B 0 60 (.inr ((s.2.2.2 + 1), s.2.2.1, 0))) a = (xu m 142 (3 + (s.1 5).length) (nuV B 0 60 (.inr ((s.2.2.2 + 1), s.2.2.1, 0)))) a := xu_er hW3
          have hK3 : ∀ k : Nat, ¬ (24 ≤ k ∧ k ≤ 29) → xu m3 142 (3 + (s.1 5).length) (nuV B 0 60 (.inr ((s.2.2.2 + 1), s.2.2.1, 0))) 128 k = xu m 128 21 (m 128 21 ||| (1 : Int32) <<< (5 &&& 31)) 128 k := fun k hk => (congrFun (xu_row (by decide)) k).trans (hJ3 k hk)
          have hX3 := sX_row h3 (show xu m3 142 (3 + (s.1 5).length) (nuV B 0 60 (.inr ((s.2.2.2 + 1), s.2.2.1, 0))) 128 = m3 128 from xu_row (by decide)) (show xu m3 142 (3 + (s.1 5).length) (nuV B 0 60 (.inr ((s.2.2.2 + 1), s.2.2.1, 0))) 129 = m3 129 from xu_row (by decide))
          replace hr := hr.go (s_aload_n t169_403 rfl)
          replace hr := hr.go (s_getr t169_404 (hG.2.2.1 16 (by decide) (by decide)))
          replace hr := hr.go (s_iload t169_407 rfl)
          replace hr := hr.go (s_aload_n t169_409 rfl)
          replace hr := hr.go (s_aload_n t169_410 rfl)
          replace hr := hr.go (s_getf t169_411)
          rcases hr.zNe t169_414 with ⟨b414, hr⟩ | ⟨b414, hr⟩
          · replace hr := hr.go (s_k t169_427)
            replace hr := hr.go (s_k t169_428)
            obtain ⟨m4, ⟨h4, hf4⟩, hr⟩ := hr.fvI t169_430 rfl rfl (ct_numeral (o := (.inl e)) (lo := 0) (mo := 60) hG.1 hE (by decide) hX3)
            have hW4 : ∀ a : Nat, ¬ a = 128 → m4 a = (xu m 142 (3 + (s.1 5).length) (nuV B 0 60 (.inr ((s.2.2.2 + 1), s.2.2.1, 0)))) a := fun a ha => (hf4.1 a ha).trans (hY3 a ha)
            have hJ4 : ∀ k : Nat, ¬ (24 ≤ k ∧ k ≤ 29) → m4 128 k = xu m 128 21 (m 128 21 ||| (1 : Int32) <<< (5 &&& 31)) 128 k := fun k hk => (hf4.2 k hk).trans (hK3 k hk)
            replace hr := hr.go (s_iastore t169_433)
            rw [xn_nat (show 3 + (s.1 5).length < 2147483648 by omega)] at hr
            have hY4 : ∀ a : Nat, ¬ a = 128 → xu m4 143 (3 + (s.1 5).length) (nuV B 0 60 (.inl e)) a = (xu (xu m 142 (3 + (s.1 5).length) (nuV B 0 60 (.inr ((s.2.2.2 + 1), s.2.2.1, 0)))) 143 (3 + (s.1 5).length) (nuV B 0 60 (.inl e))) a := xu_er hW4
            have hK4 : ∀ k : Nat, ¬ (24 ≤ k ∧ k ≤ 29) → xu m4 143 (3 + (s.1 5).length) (nuV B 0 60 (.inl e)) 128 k = xu m 128 21 (m 128 21 ||| (1 : Int32) <<< (5 &&& 31)) 128 k := fun k hk => (congrFun (xu_row (by decide)) k).trans (hJ4 k hk)
            have hX4 := sX_row h4 (show xu m4 143 (3 + (s.1 5).length) (nuV B 0 60 (.inl e)) 128 = m4 128 from xu_row (by decide)) (show xu m4 143 (3 + (s.1 5).length) (nuV B 0 60 (.inl e)) 129 = m4 129 from xu_row (by decide))
            replace hr := hr.go (s_aload_n t169_434 rfl)
            replace hr := hr.go (s_k t169_435)
            replace hr := hr.go (s_aload_n t169_436 rfl)
            replace hr := hr.go (s_k t169_437)
            replace hr := hr.cvI t169_438 rfl rfl (ct_fresher hG.2.1.1 hG.2.1.2.1)
            rw [show ((xu m4 143 (3 + (s.1 5).length) (nuV B 0 60 (.inl e)))) 130 (9 + (5 : Int32)).toNatClampNeg = Int32.ofNat (s.1 5).length from (congrFun (hY4 130 (by decide)) _).trans ((congrFun (xu_row (by decide)) _).trans ((congrFun (xu_row (by decide)) _).trans (hLw)))] at hr
            replace hr := hr.go (s_k t169_441)
            replace hr := hr.go (s_iadd t169_442)
            rw [xn_1] at hr
            replace hr := hr.cvN t169_443 rfl rfl (ct_reads hG.2.1.1)
            replace hr := hr.go (s_goto t169_446)
            obtain ⟨rfl, hs⟩ := le485F (e := e) rfl ((sX_row hX4 (xu_row (by decide)) (xu_row (by decide)))) hr
            refine ⟨_, _, hs, PL_bad (e := e) ?_ ((sX_row hX4 (xu_row (by decide)) (xu_row (by decide)))) (FM.x130 (FM.er hY4 (fun k hk => (hK4 k (by omega)).trans ((xu_oth (by omega)).trans (by repeat rw [xu_row (by decide)]))) (FM.xr (FM.xr FM.rf (by unfold fhq fhp; omega)) (by unfold fhq fhp; omega))) (by decide)) FG.rf⟩
            rw [lin_tab (w := 5) (by decide) hk, tab_num hnf (by decide)]
            exact congrArg (fun z => oMap _ (rendF B z)) (rowF_l (f := 1) e1)
          · exact absurd b414 hX3.2.1
        · rw [e2] at h3
          rw [xn_nat (show 3 + (s.1 5).length < 2147483648 by omega)] at hr
          have hY3 : ∀ a : Nat, ¬ a = 128 → xu m3 142 (3 + (s.1 5).length) (nuV B 0 60 (.inr ((s.2.2.2 + 1), s.2.2.1, 0))) a = (xu m 142 (3 + (s.1 5).length) (nuV B 0 60 (.inr ((s.2.2.2 + 1), s.2.2.1, 0)))) a := xu_er hW3
          have hK3 : ∀ k : Nat, ¬ (24 ≤ k ∧ k ≤ 29) → xu m3 142 (3 + (s.1 5).length) (nuV B 0 60 (.inr ((s.2.2.2 + 1), s.2.2.1, 0))) 128 k = xu m 128 21 (m 128 21 ||| (1 : Int32) <<< (5 &&& 31)) 128 k := fun k hk => (congrFun (xu_row (by decide)) k).trans (hJ3 k hk)
          have hX3 := sX_row h3 (show xu m3 142 (3 + (s.1 5).length) (nuV B 0 60 (.inr ((s.2.2.2 + 1), s.2.2.1, 0))) 128 = m3 128 from xu_row (by decide)) (show xu m3 142 (3 + (s.1 5).length) (nuV B 0 60 (.inr ((s.2.2.2 + 1), s.2.2.1, 0))) 129 = m3 129 from xu_row (by decide))
          replace hr := hr.go (s_aload_n t169_403 rfl)
          replace hr := hr.go (s_getr t169_404 (hG.2.2.1 16 (by decide) (by decide)))
          replace hr := hr.go (s_iload t169_407 rfl)
          replace hr := hr.go (s_aload_n t169_409 rfl)
          replace hr := hr.go (s_aload_n t169_410 rfl)
          replace hr := hr.go (s_getf t169_411)
          rcases hr.zNe t169_414 with ⟨b414, hr⟩ | ⟨b414, hr⟩
          · exact absurd hX3.1 b414
          · replace hr := hr.go (s_aload_n t169_417 rfl)
            replace hr := hr.go (s_getr t169_418 (hG.2.2.1 15 (by decide) (by decide)))
            replace hr := hr.go (s_iload t169_421 rfl)
            replace hr := hr.go (s_iaload t169_423 (hG.2.2.2.2.2))
            rw [xn_nat (show 3 + (s.1 5).length < 2147483648 by omega), xu_same] at hr
            replace hr := hr.go (s_goto t169_424)
            replace hr := hr.go (s_k t169_428)
            obtain ⟨m4, ⟨h4, hf4⟩, hr⟩ := hr.fvI t169_430 rfl rfl (ct_numeral (o := (.inr (s.2.2.2 + 1 + 1, s.2.2.1, 0))) (lo := (nuV B 0 60 (.inr ((s.2.2.2 + 1), s.2.2.1, 0)))) (mo := 60) hG.1 hE (by decide) hX3)
            have hW4 : ∀ a : Nat, ¬ a = 128 → m4 a = (xu m 142 (3 + (s.1 5).length) (nuV B 0 60 (.inr ((s.2.2.2 + 1), s.2.2.1, 0)))) a := fun a ha => (hf4.1 a ha).trans (hY3 a ha)
            have hJ4 : ∀ k : Nat, ¬ (24 ≤ k ∧ k ≤ 29) → m4 128 k = xu m 128 21 (m 128 21 ||| (1 : Int32) <<< (5 &&& 31)) 128 k := fun k hk => (hf4.2 k hk).trans (hK3 k hk)
            replace hr := hr.go (s_iastore t169_433)
            rw [xn_nat (show 3 + (s.1 5).length < 2147483648 by omega)] at hr
            have hY4 : ∀ a : Nat, ¬ a = 128 → xu m4 143 (3 + (s.1 5).length) (nuV B (nuV B 0 60 (.inr ((s.2.2.2 + 1), s.2.2.1, 0))) 60 (.inr (s.2.2.2 + 1 + 1, s.2.2.1, 0))) a = (xu (xu m 142 (3 + (s.1 5).length) (nuV B 0 60 (.inr ((s.2.2.2 + 1), s.2.2.1, 0)))) 143 (3 + (s.1 5).length) (nuV B (nuV B 0 60 (.inr ((s.2.2.2 + 1), s.2.2.1, 0))) 60 (.inr (s.2.2.2 + 1 + 1, s.2.2.1, 0)))) a := xu_er hW4
            have hK4 : ∀ k : Nat, ¬ (24 ≤ k ∧ k ≤ 29) → xu m4 143 (3 + (s.1 5).length) (nuV B (nuV B 0 60 (.inr ((s.2.2.2 + 1), s.2.2.1, 0))) 60 (.inr (s.2.2.2 + 1 + 1, s.2.2.1, 0))) 128 k = xu m 128 21 (m 128 21 ||| (1 : Int32) <<< (5 &&& 31)) 128 k := fun k hk => (congrFun (xu_row (by decide)) k).trans (hJ4 k hk)
            have hX4 := sX_row h4 (show xu m4 143 (3 + (s.1 5).length) (nuV B (nuV B 0 60 (.inr ((s.2.2.2 + 1), s.2.2.1, 0))) 60 (.inr (s.2.2.2 + 1 + 1, s.2.2.1, 0))) 128 = m4 128 from xu_row (by decide)) (show xu m4 143 (3 + (s.1 5).length) (nuV B (nuV B 0 60 (.inr ((s.2.2.2 + 1), s.2.2.1, 0))) 60 (.inr (s.2.2.2 + 1 + 1, s.2.2.1, 0))) 129 = m4 129 from xu_row (by decide))
            replace hr := hr.go (s_aload_n t169_434 rfl)
            replace hr := hr.go (s_k t169_435)
            replace hr := hr.go (s_aload_n t169_436 rfl)
            replace hr := hr.go (s_k t169_437)
            replace hr := hr.cvI t169_438 rfl rfl (ct_fresher hG.2.1.1 hG.2.1.2.1)
            rw [show ((xu m4 143 (3 + (s.1 5).length) (nuV B (nuV B 0 60 (.inr ((s.2.2.2 + 1), s.2.2.1, 0))) 60 (.inr (s.2.2.2 + 1 + 1, s.2.2.1, 0))))) 130 (9 + (5 : Int32)).toNatClampNeg = Int32.ofNat (s.1 5).length from (congrFun (hY4 130 (by decide)) _).trans ((congrFun (xu_row (by decide)) _).trans ((congrFun (xu_row (by decide)) _).trans (hLw)))] at hr
            replace hr := hr.go (s_k t169_441)
            replace hr := hr.go (s_iadd t169_442)
            rw [xn_1] at hr
            replace hr := hr.cvN t169_443 rfl rfl (ct_reads hG.2.1.1)
            replace hr := hr.go (s_goto t169_446)
            rcases num_step (B := B) (w := 5) (c := 1) (i := s.2.2.2 + 1 + 1) (kn := s.2.2.1) (row := [(nuV B 0 60 (.inr ((s.2.2.2 + 1), s.2.2.1, 0)))]) (rows := s.1 5) (lo := (nuV B 0 60 (.inr ((s.2.2.2 + 1), s.2.2.1, 0)))) (mo := 60) rfl (by decide) (by decide) with ⟨e, d1, d2⟩ | ⟨d1, d2⟩
            · rw [d2] at hX4
              obtain ⟨rfl, hs⟩ := le485F rfl ((sX_row hX4 (xu_row (by decide)) (xu_row (by decide)))) hr
              refine ⟨_, _, hs, PL_bad ?_ ((sX_row hX4 (xu_row (by decide)) (xu_row (by decide)))) (FM.x130 (FM.er hY4 (fun k hk => (hK4 k (by omega)).trans ((xu_oth (by omega)).trans (by repeat rw [xu_row (by decide)]))) (FM.xr (FM.xr FM.rf (by unfold fhq fhp; omega)) (by unfold fhq fhp; omega))) (by decide)) FG.rf⟩
              rw [lin_tab (w := 5) (by decide) hk, tab_num hnf (by decide)]
              exact congrArg (fun z => oMap _ (rendF B z)) ((rowF_r (f := 1) e1).trans (rowF_l (f := 0) d1))
            · rw [d2] at hX4
              obtain ⟨m', hs, rfl, h4, h22, hfa, hfk⟩ := le485G hG.1 hE rfl ((sX_row hX4 (xu_row (by decide)) (xu_row (by decide)))) hr
              have hZ : ∀ a : Nat, ¬ a = 128 → m' a = xu (xu (xu m 142 (3 + (s.1 5).length) (nuV B 0 60 (.inr ((s.2.2.2 + 1), s.2.2.1, 0)))) 143 (3 + (s.1 5).length) (nuV B (nuV B 0 60 (.inr ((s.2.2.2 + 1), s.2.2.1, 0))) 60 (.inr (s.2.2.2 + 1 + 1, s.2.2.1, 0)))) 130 ((9 : Int32) + 5).toNatClampNeg (Int32.ofNat ((s.1 5).length + 1)) a := fun a ha => (hfa a ha).trans (xu_er hY4 a ha)
              refine ⟨m', _, hs, PL_good (w := 5) (by rw [lin_tab (w := 5) (by decide) hk, tab_num hnf (by decide)]; exact congrArg (fun z => oMap _ (rendF B z)) ((rowF_r (f := 1) e1).trans (rowF_r (f := 0) d1))) h4 (fun hq => ?_) ?_ (FM.er hZ (fun k hk => (hfk k (by omega) (by omega)).trans ((congrFun (xu_row (by decide)) k).trans ((hK4 k (by omega)).trans ((xu_oth (by omega)).trans (by repeat rw [xu_row (by decide)]))))) (FM.x130 (FM.xr (FM.xr FM.rf (by unfold fhq fhp; omega)) (by unfold fhq fhp; omega)) (by decide))) FG.rf⟩
              · refine AR_arr (by decide) hA (by omega) hq (fun a a1 a2 a3 => ?_) (fun c hc k => ?_) (fun k hk2 => ?_) ?_ ?_
                · rw [hZ a a1, xu_row a2, xu_row (show ¬ a = 143 from a3 1 (by decide)), xu_row (show ¬ a = 142 from a3 0 (by decide))]
                · have hc : c < 2 := hc
                  rcases c with _ | _ | c
                  · show m' 142 k = if k = 3 + (s.1 5).length then _ else m 142 k
                    rw [congrFun (hZ 142 (by decide)) k, xu_row (a := 130) (by decide), xu_row (a := 143) (by decide), xu_at]
                    rfl
                  · show m' 143 k = if k = 3 + (s.1 5).length then _ else m 143 k
                    rw [congrFun (hZ 143 (by decide)) k, xu_row (a := 130) (by decide), xu_at, xu_row (a := 142) (by decide)]
                    rfl
                  · omega
                · rw [congrFun (hZ 130 (by decide)) k, xu_oth (k := ((9 : Int32) + 5).toNatClampNeg) (fun q => hk2 (q.2.trans (by decide))), xu_row (a := 143) (by decide), xu_row (a := 142) (by decide)]
                · rw [hZ 130 (by decide)]; exact xu_same
                · rw [hfk 21 (by decide) (by decide), xu_row (by decide), hK4 21 (by decide)]; exact xu_same
              · rw [h22, xu_row (by decide), hK4 22 (by decide), xu_oth (by decide)]
      · exact absurd hA.1.1 b71
    · exact absurd rfl b47
  · replace hr := hr.go (s_aload_n t169_35 rfl)
    replace hr := hr.go (s_k t169_36)
    obtain ⟨m1, ⟨h1, hf1⟩, hr⟩ := hr.fvN t169_37 rfl rfl (ct_wrongG (f := 2) hA.1 (by decide) (by decide))
    skip
    replace hr := hr.go (s_goto t169_40)
    replace hr := hr.go (s_aload_n t169_67 rfl)
    replace hr := hr.go (s_getf t169_68)
    rcases hr.zEq t169_71 with ⟨b71, hr⟩ | ⟨b71, hr⟩
    · exact absurd b71 h1.2.1
    · obtain ⟨rfl, hs⟩ := hr.ret t169_74
      exact ⟨_, _, hs, PL_bad (by rw [lin_tab (w := 5) (by decide) hk, tab_full (Nat.le_of_eq (of_decide_eq_true (bI_1 b32)).2.2.symm)]; rfl) h1 (FM.er hf1.1 (fun k hk => hf1.2 k (by omega)) FM.rf) FG.rf⟩
theorem ln1 {nf : Bool} {xs : List Int32} {d : Nat} {g : xL} {G : xG} {r : Option Value} {h' : zH} {N : Nat} {m : xM} {B : eB} {s : eS} (hG : GL G) (hE : EV B) (hA : AR B s m g) (hk : tK B s.2.2.2 = Int32.ofNat (32 + 1)) (hr : RR nf xs d 11 false 6 none zt169 G r h' N (27, [(1, .int 1), (0, .ref 128)], [], m, g)) : ∃ (m' : xM) (g' : xL), HS h' m' g' G ∧ PL B s m g r m' g' := by
  have hL : ∀ u : Nat, 1 ≤ u → u ≤ 5 → m 130 (9 + u) = Int32.ofNat ((fun u => (s.1 u).length) u) ∧ (fun u => (s.1 u).length) u ≤ 8 := fun u u1 u2 => ⟨hA.2.2.1 u u1 u2, by have := hA.2.1 u (by omega); have := (mN_b u).1; dsimp only; omega⟩
  have hLw : m 130 (9 + (1 : Int32)).toNatClampNeg = Int32.ofNat (s.1 1).length := hA.2.2.1 1 (by decide) (by decide)
  have hle : (s.1 1).length ≤ 6 := hA.2.1 1 (by decide)
  replace hr := hr.go (s_aload_n t169_27 rfl)
  replace hr := hr.go (s_iload_n t169_28 rfl)
  replace hr := hr.cvI t169_29 rfl rfl (ct_isFullR (w := 1) (L := (fun u => (s.1 u).length)) hG.2.1 (by decide) hL)
  rw [show fulR (fun u => (s.1 u).length) 1 = decide (1 ≤ 1 ∧ 1 ≤ 5 ∧ (s.1 1).length = mN 1) from rfl] at hr
  rcases hr.zEq t169_32 with ⟨b32, hr⟩ | ⟨b32, hr⟩
  · skip
    replace hr := hr.go (s_iload_n t169_43 rfl)
    replace hr := hr.csI t169_44 rfl rfl (ct_isOnce (w := 1) (by decide))
    rw [show onR 1 = false from by decide] at hr
    rcases hr.zEq t169_47 with ⟨b47, hr⟩ | ⟨b47, hr⟩
    · replace hr := hr.go (s_aload_n t169_67 rfl)
      replace hr := hr.go (s_getf t169_68)
      rcases hr.zEq t169_71 with ⟨b71, hr⟩ | ⟨b71, hr⟩
      · have hnf : ¬ mN 1 ≤ (s.1 1).length := fun q => (of_decide_eq_false (bI_0 b32)) ⟨by decide, by decide, Nat.le_antisymm (hA.2.1 1 (by decide)) q⟩
        replace hr := hr.go (s_aload_n t169_75 rfl)
        replace hr := hr.go (s_dup t169_76 rfl)
        replace hr := hr.go (s_getf t169_77)
        replace hr := hr.go (s_k t169_80)
        replace hr := hr.go (s_iload_n t169_81 rfl)
        replace hr := hr.go (s_ishl t169_82)
        replace hr := hr.go (s_ior t169_83)
        replace hr := hr.go (s_putf t169_84)
        replace hr := hr.go (s_aload_n t169_87 rfl)
        obtain ⟨m2, ⟨h2, hf2⟩, hr⟩ := hr.fvN t169_88 rfl rfl (ct_tokG hG.1 hE (sX_f (k := 21) hA.1 (by decide) (by decide) (by decide)))
        replace h2 : sX B (.inr (s.2.2.2 + 1, s.2.2.1, 0)) m2 := h2
        have hY2 : ∀ a : Nat, ¬ a = 128 → m2 a = m a := fun a ha => (hf2.1 a ha).trans (xu_row ha)
        have hK2 : ∀ k : Nat, ¬ (24 ≤ k ∧ k ≤ 29) → m2 128 k = xu m 128 21 (m 128 21 ||| (1 : Int32) <<< (1 &&& 31)) 128 k := hf2.2
        have hM2 : ∀ a : Nat, ¬ a = 128 → m2 a = m a := hY2
        have hX2 := h2
        replace hr := hr.go (s_iload_n t169_91 rfl)
        replace hr := hr.go (s_tswitch (q := 155) t169_92 (by decide) (by decide) rfl rfl)
        replace hr := hr.go (s_k t169_155)
        replace hr := hr.go (s_aload_n t169_157 rfl)
        replace hr := hr.go (s_k t169_158)
        replace hr := hr.cvI t169_159 rfl rfl (ct_fresher hG.2.1.1 hG.2.1.2.1)
        rw [show (m2) 130 (9 + (1 : Int32)).toNatClampNeg = Int32.ofNat (s.1 1).length from (congrFun (hY2 130 (by decide)) _).trans (hLw)] at hr
        replace hr := hr.go (s_iadd t169_162)
        rw [show (6 : Int32) + Int32.ofNat (s.1 1).length = Int32.ofNat (6 + (s.1 1).length) from xn_add (p := 6)] at hr
        replace hr := hr.go (s_istore_n (ls' := [(2, _), (1, _), (0, _)]) t169_163 rfl)
        replace hr := hr.go (s_aload_n t169_164 rfl)
        replace hr := hr.go (s_getr t169_165 (hG.2.2.1 4 (by decide) (by decide)))
        replace hr := hr.go (s_iload_n t169_168 rfl)
        replace hr := hr.go (s_aload_n t169_169 rfl)
        replace hr := hr.go (s_aload_n t169_170 rfl)
        replace hr := hr.go (s_getr t169_171 (hG.2.2.1 4 (by decide) (by decide)))
        replace hr := hr.go (s_k t169_174)
        replace hr := hr.go (s_aload_n t169_176 rfl)
        replace hr := hr.go (s_k t169_177)
        replace hr := hr.cvI t169_178 rfl rfl (ct_fresher hG.2.1.1 hG.2.1.2.1)
        rw [show (m2) 130 (9 + (1 : Int32)).toNatClampNeg = Int32.ofNat (s.1 1).length from (congrFun (hY2 130 (by decide)) _).trans (hLw)] at hr
        obtain ⟨m3, ⟨h3, hf3⟩, hr⟩ := hr.fvI t169_181 rfl rfl (ct_fresh (a := 131) (fr := 6) (len := 12) (rows := s.1 1) (s := ((s.2.2.2 + 1), s.2.2.1, 0)) hG.1 hE hX2 hG.2.2.2.1 (by omega) (by decide) (fun i hi => (congrFun (hY2 131 (by decide)) _).trans (hA.2.2.2.1 1 (by decide) i hi 0 (by decide))))
        have hW3 : ∀ a : Nat, ¬ a = 128 → m3 a = m a := fun a ha => (hf3.1 a ha).trans (hY2 a ha)
        have hJ3 : ∀ k : Nat, ¬ (24 ≤ k ∧ k ≤ 29) → m3 128 k = xu m 128 21 (m 128 21 ||| (1 : Int32) <<< (1 &&& 31)) 128 k := fun k hk => (hf3.2 k hk).trans (hK2 k hk)
        replace hr := hr.go (s_iastore t169_184)
        rw [xn_nat (show 6 + (s.1 1).length < 2147483648 by omega)] at hr
        have hY3 : ∀ a : Nat, ¬ a = 128 → xu m3 131 (6 + (s.1 1).length) (frV B (s.1 1) ((s.2.2.2 + 1), s.2.2.1, 0)) a = (xu m 131 (6 + (s.1 1).length) (frV B (s.1 1) ((s.2.2.2 + 1), s.2.2.1, 0))) a := xu_er hW3
        have hK3 : ∀ k : Nat, ¬ (24 ≤ k ∧ k ≤ 29) → xu m3 131 (6 + (s.1 1).length) (frV B (s.1 1) ((s.2.2.2 + 1), s.2.2.1, 0)) 128 k = xu m 128 21 (m 128 21 ||| (1 : Int32) <<< (1 &&& 31)) 128 k := fun k hk => (congrFun (xu_row (by decide)) k).trans (hJ3 k hk)
        have hX3 := sX_row h3 (show xu m3 131 (6 + (s.1 1).length) (frV B (s.1 1) ((s.2.2.2 + 1), s.2.2.1, 0)) 128 = m3 128 from xu_row (by decide)) (show xu m3 131 (6 + (s.1 1).length) (frV B (s.1 1) ((s.2.2.2 + 1), s.2.2.1, 0)) 129 = m3 129 from xu_row (by decide))
        replace hr := hr.go (s_aload_n t169_185 rfl)
        replace hr := hr.go (s_getr t169_186 (hG.2.2.1 5 (by decide) (by decide)))
        replace hr := hr.go (s_iload_n t169_189 rfl)
        replace hr := hr.go (s_aload_n t169_190 rfl)
        replace hr := hr.go (s_k t169_191)
        replace hr := hr.go (s_k t169_192)
        obtain ⟨m4, ⟨h4, hf4⟩, hr⟩ := hr.fvI t169_194 rfl rfl (ct_numeral (o := (frO B (s.1 1) ((s.2.2.2 + 1), s.2.2.1, 0))) (lo := 0) (mo := 60) hG.1 hE (by decide) hX3)
        have hW4 : ∀ a : Nat, ¬ a = 128 → m4 a = (xu m 131 (6 + (s.1 1).length) (frV B (s.1 1) ((s.2.2.2 + 1), s.2.2.1, 0))) a := fun a ha => (hf4.1 a ha).trans (hY3 a ha)
        have hJ4 : ∀ k : Nat, ¬ (24 ≤ k ∧ k ≤ 29) → m4 128 k = xu m 128 21 (m 128 21 ||| (1 : Int32) <<< (1 &&& 31)) 128 k := fun k hk => (hf4.2 k hk).trans (hK3 k hk)
        replace hr := hr.go (s_iastore t169_197)
        rw [xn_nat (show 6 + (s.1 1).length < 2147483648 by omega)] at hr
        have hY4 : ∀ a : Nat, ¬ a = 128 → xu m4 132 (6 + (s.1 1).length) (nuV B 0 60 (frO B (s.1 1) ((s.2.2.2 + 1), s.2.2.1, 0))) a = (xu (xu m 131 (6 + (s.1 1).length) (frV B (s.1 1) ((s.2.2.2 + 1), s.2.2.1, 0))) 132 (6 + (s.1 1).length) (nuV B 0 60 (frO B (s.1 1) ((s.2.2.2 + 1), s.2.2.1, 0)))) a := xu_er hW4
        have hK4 : ∀ k : Nat, ¬ (24 ≤ k ∧ k ≤ 29) → xu m4 132 (6 + (s.1 1).length) (nuV B 0 60 (frO B (s.1 1) ((s.2.2.2 + 1), s.2.2.1, 0))) 128 k = xu m 128 21 (m 128 21 ||| (1 : Int32) <<< (1 &&& 31)) 128 k := fun k hk => (congrFun (xu_row (by decide)) k).trans (hJ4 k hk)
        have hX4 := sX_row h4 (show xu m4 132 (6 + (s.1 1).length) (nuV B 0 60 (frO B (s.1 1) ((s.2.2.2 + 1), s.2.2.1, 0))) 128 = m4 128 from xu_row (by decide)) (show xu m4 132 (6 + (s.1 1).length) (nuV B 0 60 (frO B (s.1 1) ((s.2.2.2 + 1), s.2.2.1, 0))) 129 = m4 129 from xu_row (by decide))
        replace hr := hr.go (s_aload_n t169_198 rfl)
        replace hr := hr.go (s_getr t169_199 (hG.2.2.1 6 (by decide) (by decide)))
        replace hr := hr.go (s_iload_n t169_202 rfl)
        replace hr := hr.go (s_aload_n t169_203 rfl)
        replace hr := hr.go (s_k t169_204)
        replace hr := hr.go (s_k t169_205)
        obtain ⟨m5, ⟨h5, hf5⟩, hr⟩ := hr.fvI t169_207 rfl rfl (ct_numeral (o := (nuO B 0 60 (frO B (s.1 1) ((s.2.2.2 + 1), s.2.2.1, 0)))) (lo := 0) (mo := 99) hG.1 hE (by decide) hX4)
        have hW5 : ∀ a : Nat, ¬ a = 128 → m5 a = (xu (xu m 131 (6 + (s.1 1).length) (frV B (s.1 1) ((s.2.2.2 + 1), s.2.2.1, 0))) 132 (6 + (s.1 1).length) (nuV B 0 60 (frO B (s.1 1) ((s.2.2.2 + 1), s.2.2.1, 0)))) a := fun a ha => (hf5.1 a ha).trans (hY4 a ha)
        have hJ5 : ∀ k : Nat, ¬ (24 ≤ k ∧ k ≤ 29) → m5 128 k = xu m 128 21 (m 128 21 ||| (1 : Int32) <<< (1 &&& 31)) 128 k := fun k hk => (hf5.2 k hk).trans (hK4 k hk)
        replace hr := hr.go (s_iastore t169_210)
        rw [xn_nat (show 6 + (s.1 1).length < 2147483648 by omega)] at hr
        have hY5 : ∀ a : Nat, ¬ a = 128 → xu m5 133 (6 + (s.1 1).length) (nuV B 0 99 (nuO B 0 60 (frO B (s.1 1) ((s.2.2.2 + 1), s.2.2.1, 0)))) a = (xu (xu (xu m 131 (6 + (s.1 1).length) (frV B (s.1 1) ((s.2.2.2 + 1), s.2.2.1, 0))) 132 (6 + (s.1 1).length) (nuV B 0 60 (frO B (s.1 1) ((s.2.2.2 + 1), s.2.2.1, 0)))) 133 (6 + (s.1 1).length) (nuV B 0 99 (nuO B 0 60 (frO B (s.1 1) ((s.2.2.2 + 1), s.2.2.1, 0))))) a := xu_er hW5
        have hK5 : ∀ k : Nat, ¬ (24 ≤ k ∧ k ≤ 29) → xu m5 133 (6 + (s.1 1).length) (nuV B 0 99 (nuO B 0 60 (frO B (s.1 1) ((s.2.2.2 + 1), s.2.2.1, 0)))) 128 k = xu m 128 21 (m 128 21 ||| (1 : Int32) <<< (1 &&& 31)) 128 k := fun k hk => (congrFun (xu_row (by decide)) k).trans (hJ5 k hk)
        have hX5 := sX_row h5 (show xu m5 133 (6 + (s.1 1).length) (nuV B 0 99 (nuO B 0 60 (frO B (s.1 1) ((s.2.2.2 + 1), s.2.2.1, 0)))) 128 = m5 128 from xu_row (by decide)) (show xu m5 133 (6 + (s.1 1).length) (nuV B 0 99 (nuO B 0 60 (frO B (s.1 1) ((s.2.2.2 + 1), s.2.2.1, 0)))) 129 = m5 129 from xu_row (by decide))
        replace hr := hr.go (s_aload_n t169_211 rfl)
        replace hr := hr.go (s_getr t169_212 (hG.2.2.1 7 (by decide) (by decide)))
        replace hr := hr.go (s_iload_n t169_215 rfl)
        replace hr := hr.go (s_aload_n t169_216 rfl)
        replace hr := hr.go (s_k t169_217)
        replace hr := hr.go (s_k t169_218)
        obtain ⟨m6, ⟨h6, hf6⟩, hr⟩ := hr.fvI t169_220 rfl rfl (ct_numeral (o := (nuO B 0 99 (nuO B 0 60 (frO B (s.1 1) ((s.2.2.2 + 1), s.2.2.1, 0))))) (lo := 0) (mo := 9) hG.1 hE (by decide) hX5)
        have hW6 : ∀ a : Nat, ¬ a = 128 → m6 a = (xu (xu (xu m 131 (6 + (s.1 1).length) (frV B (s.1 1) ((s.2.2.2 + 1), s.2.2.1, 0))) 132 (6 + (s.1 1).length) (nuV B 0 60 (frO B (s.1 1) ((s.2.2.2 + 1), s.2.2.1, 0)))) 133 (6 + (s.1 1).length) (nuV B 0 99 (nuO B 0 60 (frO B (s.1 1) ((s.2.2.2 + 1), s.2.2.1, 0))))) a := fun a ha => (hf6.1 a ha).trans (hY5 a ha)
        have hJ6 : ∀ k : Nat, ¬ (24 ≤ k ∧ k ≤ 29) → m6 128 k = xu m 128 21 (m 128 21 ||| (1 : Int32) <<< (1 &&& 31)) 128 k := fun k hk => (hf6.2 k hk).trans (hK5 k hk)
        replace hr := hr.go (s_iastore t169_223)
        rw [xn_nat (show 6 + (s.1 1).length < 2147483648 by omega)] at hr
        have hY6 : ∀ a : Nat, ¬ a = 128 → xu m6 134 (6 + (s.1 1).length) (nuV B 0 9 (nuO B 0 99 (nuO B 0 60 (frO B (s.1 1) ((s.2.2.2 + 1), s.2.2.1, 0))))) a = (xu (xu (xu (xu m 131 (6 + (s.1 1).length) (frV B (s.1 1) ((s.2.2.2 + 1), s.2.2.1, 0))) 132 (6 + (s.1 1).length) (nuV B 0 60 (frO B (s.1 1) ((s.2.2.2 + 1), s.2.2.1, 0)))) 133 (6 + (s.1 1).length) (nuV B 0 99 (nuO B 0 60 (frO B (s.1 1) ((s.2.2.2 + 1), s.2.2.1, 0))))) 134 (6 + (s.1 1).length) (nuV B 0 9 (nuO B 0 99 (nuO B 0 60 (frO B (s.1 1) ((s.2.2.2 + 1), s.2.2.1, 0)))))) a := xu_er hW6
        have hK6 : ∀ k : Nat, ¬ (24 ≤ k ∧ k ≤ 29) → xu m6 134 (6 + (s.1 1).length) (nuV B 0 9 (nuO B 0 99 (nuO B 0 60 (frO B (s.1 1) ((s.2.2.2 + 1), s.2.2.1, 0))))) 128 k = xu m 128 21 (m 128 21 ||| (1 : Int32) <<< (1 &&& 31)) 128 k := fun k hk => (congrFun (xu_row (by decide)) k).trans (hJ6 k hk)
        have hX6 := sX_row h6 (show xu m6 134 (6 + (s.1 1).length) (nuV B 0 9 (nuO B 0 99 (nuO B 0 60 (frO B (s.1 1) ((s.2.2.2 + 1), s.2.2.1, 0))))) 128 = m6 128 from xu_row (by decide)) (show xu m6 134 (6 + (s.1 1).length) (nuV B 0 9 (nuO B 0 99 (nuO B 0 60 (frO B (s.1 1) ((s.2.2.2 + 1), s.2.2.1, 0))))) 129 = m6 129 from xu_row (by decide))
        replace hr := hr.go (s_aload_n t169_224 rfl)
        replace hr := hr.go (s_getr t169_225 (hG.2.2.1 8 (by decide) (by decide)))
        replace hr := hr.go (s_iload_n t169_228 rfl)
        replace hr := hr.go (s_aload_n t169_229 rfl)
        replace hr := hr.go (s_k t169_230)
        replace hr := hr.go (s_k t169_231)
        obtain ⟨m7, ⟨h7, hf7⟩, hr⟩ := hr.fvI t169_232 rfl rfl (ct_numeral (o := (nuO B 0 9 (nuO B 0 99 (nuO B 0 60 (frO B (s.1 1) ((s.2.2.2 + 1), s.2.2.1, 0)))))) (lo := 0) (mo := 3) hG.1 hE (by decide) hX6)
        have hW7 : ∀ a : Nat, ¬ a = 128 → m7 a = (xu (xu (xu (xu m 131 (6 + (s.1 1).length) (frV B (s.1 1) ((s.2.2.2 + 1), s.2.2.1, 0))) 132 (6 + (s.1 1).length) (nuV B 0 60 (frO B (s.1 1) ((s.2.2.2 + 1), s.2.2.1, 0)))) 133 (6 + (s.1 1).length) (nuV B 0 99 (nuO B 0 60 (frO B (s.1 1) ((s.2.2.2 + 1), s.2.2.1, 0))))) 134 (6 + (s.1 1).length) (nuV B 0 9 (nuO B 0 99 (nuO B 0 60 (frO B (s.1 1) ((s.2.2.2 + 1), s.2.2.1, 0)))))) a := fun a ha => (hf7.1 a ha).trans (hY6 a ha)
        have hJ7 : ∀ k : Nat, ¬ (24 ≤ k ∧ k ≤ 29) → m7 128 k = xu m 128 21 (m 128 21 ||| (1 : Int32) <<< (1 &&& 31)) 128 k := fun k hk => (hf7.2 k hk).trans (hK6 k hk)
        replace hr := hr.go (s_iastore t169_235)
        rw [xn_nat (show 6 + (s.1 1).length < 2147483648 by omega)] at hr
        have hY7 : ∀ a : Nat, ¬ a = 128 → xu m7 135 (6 + (s.1 1).length) (nuV B 0 3 (nuO B 0 9 (nuO B 0 99 (nuO B 0 60 (frO B (s.1 1) ((s.2.2.2 + 1), s.2.2.1, 0)))))) a = (xu (xu (xu (xu (xu m 131 (6 + (s.1 1).length) (frV B (s.1 1) ((s.2.2.2 + 1), s.2.2.1, 0))) 132 (6 + (s.1 1).length) (nuV B 0 60 (frO B (s.1 1) ((s.2.2.2 + 1), s.2.2.1, 0)))) 133 (6 + (s.1 1).length) (nuV B 0 99 (nuO B 0 60 (frO B (s.1 1) ((s.2.2.2 + 1), s.2.2.1, 0))))) 134 (6 + (s.1 1).length) (nuV B 0 9 (nuO B 0 99 (nuO B 0 60 (frO B (s.1 1) ((s.2.2.2 + 1), s.2.2.1, 0)))))) 135 (6 + (s.1 1).length) (nuV B 0 3 (nuO B 0 9 (nuO B 0 99 (nuO B 0 60 (frO B (s.1 1) ((s.2.2.2 + 1), s.2.2.1, 0))))))) a := xu_er hW7
        have hK7 : ∀ k : Nat, ¬ (24 ≤ k ∧ k ≤ 29) → xu m7 135 (6 + (s.1 1).length) (nuV B 0 3 (nuO B 0 9 (nuO B 0 99 (nuO B 0 60 (frO B (s.1 1) ((s.2.2.2 + 1), s.2.2.1, 0)))))) 128 k = xu m 128 21 (m 128 21 ||| (1 : Int32) <<< (1 &&& 31)) 128 k := fun k hk => (congrFun (xu_row (by decide)) k).trans (hJ7 k hk)
        have hX7 := sX_row h7 (show xu m7 135 (6 + (s.1 1).length) (nuV B 0 3 (nuO B 0 9 (nuO B 0 99 (nuO B 0 60 (frO B (s.1 1) ((s.2.2.2 + 1), s.2.2.1, 0)))))) 128 = m7 128 from xu_row (by decide)) (show xu m7 135 (6 + (s.1 1).length) (nuV B 0 3 (nuO B 0 9 (nuO B 0 99 (nuO B 0 60 (frO B (s.1 1) ((s.2.2.2 + 1), s.2.2.1, 0)))))) 129 = m7 129 from xu_row (by decide))
        replace hr := hr.go (s_aload_n t169_236 rfl)
        replace hr := hr.go (s_k t169_237)
        replace hr := hr.go (s_aload_n t169_238 rfl)
        replace hr := hr.go (s_k t169_239)
        replace hr := hr.cvI t169_240 rfl rfl (ct_fresher hG.2.1.1 hG.2.1.2.1)
        rw [show ((xu m7 135 (6 + (s.1 1).length) (nuV B 0 3 (nuO B 0 9 (nuO B 0 99 (nuO B 0 60 (frO B (s.1 1) ((s.2.2.2 + 1), s.2.2.1, 0)))))))) 130 (9 + (1 : Int32)).toNatClampNeg = Int32.ofNat (s.1 1).length from (congrFun (hY7 130 (by decide)) _).trans ((congrFun (xu_row (by decide)) _).trans ((congrFun (xu_row (by decide)) _).trans ((congrFun (xu_row (by decide)) _).trans ((congrFun (xu_row (by decide)) _).trans ((congrFun (xu_row (by decide)) _).trans (hLw))))))] at hr
        replace hr := hr.go (s_k t169_243)
        replace hr := hr.go (s_iadd t169_244)
        rw [xn_1] at hr
        replace hr := hr.cvN t169_245 rfl rfl (ct_reads hG.2.1.1)
        replace hr := hr.go (s_goto t169_248)
        rcases ch1 (B := B) (rows := s.1 1) (js := s.1 2) (i := s.2.2.2 + 1) (kn := s.2.2.1) with ⟨e, e1, e2⟩ | ⟨e1, e2⟩
        · rw [e2] at hX7
          obtain ⟨rfl, hs⟩ := le485F rfl ((sX_row hX7 (xu_row (by decide)) (xu_row (by decide)))) hr
          refine ⟨_, _, hs, PL_bad ?_ ((sX_row hX7 (xu_row (by decide)) (xu_row (by decide)))) (FM.x130 (FM.er hY7 (fun k hk => (hK7 k (by omega)).trans ((xu_oth (by omega)).trans (by repeat rw [xu_row (by decide)]))) (FM.xr (FM.xr (FM.xr (FM.xr (FM.xr FM.rf (by unfold fhq fhp; omega)) (by unfold fhq fhp; omega)) (by unfold fhq fhp; omega)) (by unfold fhq fhp; omega)) (by unfold fhq fhp; omega))) (by decide)) FG.rf⟩
          rw [lin_tab (w := 1) (by decide) hk, tab_nam hnf (by decide)]
          exact congrArg (fun z => oMap _ (rendF B z)) e1
        · rw [e2] at hX7
          obtain ⟨m', hs, rfl, h4, h22, hfa, hfk⟩ := le485G hG.1 hE rfl ((sX_row hX7 (xu_row (by decide)) (xu_row (by decide)))) hr
          have hZ : ∀ a : Nat, ¬ a = 128 → m' a = xu (xu (xu (xu (xu (xu m 131 (6 + (s.1 1).length) (frV B (s.1 1) ((s.2.2.2 + 1), s.2.2.1, 0))) 132 (6 + (s.1 1).length) (nuV B 0 60 (frO B (s.1 1) ((s.2.2.2 + 1), s.2.2.1, 0)))) 133 (6 + (s.1 1).length) (nuV B 0 99 (nuO B 0 60 (frO B (s.1 1) ((s.2.2.2 + 1), s.2.2.1, 0))))) 134 (6 + (s.1 1).length) (nuV B 0 9 (nuO B 0 99 (nuO B 0 60 (frO B (s.1 1) ((s.2.2.2 + 1), s.2.2.1, 0)))))) 135 (6 + (s.1 1).length) (nuV B 0 3 (nuO B 0 9 (nuO B 0 99 (nuO B 0 60 (frO B (s.1 1) ((s.2.2.2 + 1), s.2.2.1, 0))))))) 130 ((9 : Int32) + 1).toNatClampNeg (Int32.ofNat ((s.1 1).length + 1)) a := fun a ha => (hfa a ha).trans (xu_er hY7 a ha)
          refine ⟨m', _, hs, PL_good (w := 1) (by rw [lin_tab (w := 1) (by decide) hk, tab_nam hnf (by decide)]; exact congrArg (fun z => oMap _ (rendF B z)) e1) h4 (fun hq => ?_) ?_ (FM.er hZ (fun k hk => (hfk k (by omega) (by omega)).trans ((congrFun (xu_row (by decide)) k).trans ((hK7 k (by omega)).trans ((xu_oth (by omega)).trans (by repeat rw [xu_row (by decide)]))))) (FM.x130 (FM.xr (FM.xr (FM.xr (FM.xr (FM.xr FM.rf (by unfold fhq fhp; omega)) (by unfold fhq fhp; omega)) (by unfold fhq fhp; omega)) (by unfold fhq fhp; omega)) (by unfold fhq fhp; omega)) (by decide))) FG.rf⟩
          · refine AR_arr (by decide) hA (by omega) hq (fun a a1 a2 a3 => ?_) (fun c hc k => ?_) (fun k hk2 => ?_) ?_ ?_
            · rw [hZ a a1, xu_row a2, xu_row (show ¬ a = 135 from a3 4 (by decide)), xu_row (show ¬ a = 134 from a3 3 (by decide)), xu_row (show ¬ a = 133 from a3 2 (by decide)), xu_row (show ¬ a = 132 from a3 1 (by decide)), xu_row (show ¬ a = 131 from a3 0 (by decide))]
            · have hc : c < 5 := hc
              rcases c with _ | _ | _ | _ | _ | c
              · show m' 131 k = if k = 6 + (s.1 1).length then _ else m 131 k
                rw [congrFun (hZ 131 (by decide)) k, xu_row (a := 130) (by decide), xu_row (a := 135) (by decide), xu_row (a := 134) (by decide), xu_row (a := 133) (by decide), xu_row (a := 132) (by decide), xu_at]
                rfl
              · show m' 132 k = if k = 6 + (s.1 1).length then _ else m 132 k
                rw [congrFun (hZ 132 (by decide)) k, xu_row (a := 130) (by decide), xu_row (a := 135) (by decide), xu_row (a := 134) (by decide), xu_row (a := 133) (by decide), xu_at, xu_row (a := 131) (by decide)]
                rfl
              · show m' 133 k = if k = 6 + (s.1 1).length then _ else m 133 k
                rw [congrFun (hZ 133 (by decide)) k, xu_row (a := 130) (by decide), xu_row (a := 135) (by decide), xu_row (a := 134) (by decide), xu_at, xu_row (a := 132) (by decide), xu_row (a := 131) (by decide)]
                rfl
              · show m' 134 k = if k = 6 + (s.1 1).length then _ else m 134 k
                rw [congrFun (hZ 134 (by decide)) k, xu_row (a := 130) (by decide), xu_row (a := 135) (by decide), xu_at, xu_row (a := 133) (by decide), xu_row (a := 132) (by decide), xu_row (a := 131) (by decide)]
                rfl
              · show m' 135 k = if k = 6 + (s.1 1).length then _ else m 135 k
                rw [congrFun (hZ 135 (by decide)) k, xu_row (a := 130) (by decide), xu_at, xu_row (a := 134) (by decide), xu_row (a := 133) (by decide), xu_row (a := 132) (by decide), xu_row (a := 131) (by decide)]
                rfl
              · omega
            · rw [congrFun (hZ 130 (by decide)) k, xu_oth (k := ((9 : Int32) + 1).toNatClampNeg) (fun q => hk2 (q.2.trans (by decide))), xu_row (a := 135) (by decide), xu_row (a := 134) (by decide), xu_row (a := 133) (by decide), xu_row (a := 132) (by decide), xu_row (a := 131) (by decide)]
            · rw [hZ 130 (by decide)]; exact xu_same
            · rw [hfk 21 (by decide) (by decide), xu_row (by decide), hK7 21 (by decide)]; exact xu_same
          · rw [h22, xu_row (by decide), hK7 22 (by decide), xu_oth (by decide)]
      · exact absurd hA.1.1 b71
    · exact absurd rfl b47
  · replace hr := hr.go (s_aload_n t169_35 rfl)
    replace hr := hr.go (s_k t169_36)
    obtain ⟨m1, ⟨h1, hf1⟩, hr⟩ := hr.fvN t169_37 rfl rfl (ct_wrongG (f := 2) hA.1 (by decide) (by decide))
    skip
    replace hr := hr.go (s_goto t169_40)
    replace hr := hr.go (s_aload_n t169_67 rfl)
    replace hr := hr.go (s_getf t169_68)
    rcases hr.zEq t169_71 with ⟨b71, hr⟩ | ⟨b71, hr⟩
    · exact absurd b71 h1.2.1
    · obtain ⟨rfl, hs⟩ := hr.ret t169_74
      exact ⟨_, _, hs, PL_bad (by rw [lin_tab (w := 1) (by decide) hk, tab_full (Nat.le_of_eq (of_decide_eq_true (bI_1 b32)).2.2.symm)]; rfl) h1 (FM.er hf1.1 (fun k hk => hf1.2 k (by omega)) FM.rf) FG.rf⟩
