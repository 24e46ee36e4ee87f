/-! The reference's lines: tell, law; all of them. -/
theorem tld_app {rows : List (List Int32)} {j v x y : Int32} : tld (rows ++ [[x, y]]) j v = (tld rows j v || (decide (x = j) && decide (y = v))) := by
  unfold tld
  rw [List.any_append]
  show (_ || ((decide (x = j) && decide (y = v)) || false)) = _
  rw [Bool.or_false]
theorem AR_tell {B : eB} {s : eS} {m m' : xM} {g g' : xL} {i j v : Nat} (hA : AR B s m g) (hlt : (s.1 3).length < 8) (h1 : sX B (.inr (i, s.2.2.1, 0)) m') (hj : j < 6) (hv : v ≤ 60) (hg : g' = xu g 139 (6 + j) (g 139 (6 + j) ||| (1 : Int64) <<< ((Int32.ofNat v).toInt64 &&& 63))) (hr : ∀ a : Nat, ¬ a = 128 → ¬ a = 130 → m' a = m a) (h130 : ∀ k : Nat, ¬ k = 12 → m' 130 k = m 130 k) (hn : m' 130 12 = m 130 12 + 1) (h21 : m' 128 21 = m 128 21 ||| (1 : Int32) <<< (Int32.ofNat 3 &&& 31)) : AR B (eup s.1 3 (s.1 3 ++ [[Int32.ofNat j, Int32.ofNat v]]), s.2.1, s.2.2.1, i) m' g' := by
  obtain ⟨-, a2, a3, a4, a5, a6, a7⟩ := hA
  have en : ∀ u : Nat, ¬ u = 3 → eup s.1 3 (s.1 3 ++ [[Int32.ofNat j, Int32.ofNat v]]) u = s.1 u := fun u hu => if_neg hu
  have ew : eup s.1 3 (s.1 3 ++ [[Int32.ofNat j, Int32.ofNat v]]) 3 = s.1 3 ++ [[Int32.ofNat j, Int32.ofNat v]] := if_pos rfl
  have el : (s.1 3 ++ [[Int32.ofNat j, Int32.ofNat v]]).length = (s.1 3).length + 1 := by rw [List.length_append]; rfl
  refine ⟨h1, fun u hu => ?_, fun u u1 u2 => ?_, fun u hu r hr2 c hc => ?_, fun u hu => ?_, fun k hk => ?_, fun i hi x hx => ?_⟩
  · show (eup s.1 3 (s.1 3 ++ [[Int32.ofNat j, Int32.ofNat v]]) u).length ≤ _
    by_cases e : u = 3
    · rw [e, ew, el]; show _ ≤ 8; omega
    · rw [en u e]; exact a2 u hu
  · show _ = Int32.ofNat (eup s.1 3 (s.1 3 ++ [[Int32.ofNat j, Int32.ofNat v]]) u).length
    by_cases e : u = 3
    · rw [e, ew, el, hn, a3 3 (by decide) (by decide)]; exact xn_1
    · rw [en u e, h130 _ (by omega)]
      exact a3 u u1 u2
  · have hu' : ¬ u = 3 := by omega
    have hr2 : r < (eup s.1 3 (s.1 3 ++ [[Int32.ofNat j, Int32.ofNat v]]) u).length := hr2
    rw [en u hu'] at hr2
    show _ = ((eup s.1 3 (s.1 3 ++ [[Int32.ofNat j, Int32.ofNat v]]) u).getD r []).getD c 0
    rw [en u hu', hr _ (by have := ar_b hu hc; omega) (by have := ar_b hu hc; omega)]
    exact a4 u hu r hr2 c hc
  · show _ = tpV (df u) (eup s.1 3 (s.1 3 ++ [[Int32.ofNat j, Int32.ofNat v]]) u) ∧ _ = decide (1 ≤ (eup s.1 3 (s.1 3 ++ [[Int32.ofNat j, Int32.ofNat v]]) u).length)
    rw [en u (by omega), h130 _ (by omega), h21, told_k (by omega) (by omega) (by omega)]
    exact a5 u hu
  · rw [h21, told_k (by omega) (by omega) (by omega)]
    exact a6 k hk
  · show _ = tld (eup s.1 3 (s.1 3 ++ [[Int32.ofNat j, Int32.ofNat v]]) 3) _ _
    rw [ew, tld_app, ← a7 i hi x hx, hg]
    by_cases e : i = j
    · subst e
      rw [xu_same, bl_set (by omega) (by omega), decide_eq_true (p := Int32.ofNat i = Int32.ofNat i) rfl, Bool.true_and]
      congr 1
      by_cases e2 : v = x
      · rw [e2, decide_eq_true rfl, decide_eq_true rfl]
      · rw [decide_eq_false e2, decide_eq_false (fun q => e2 (xn_inj (by omega) (by omega) q))]
    · rw [xu_oth (by omega), decide_eq_false (p := Int32.ofNat j = Int32.ofNat i) (fun q => e (xn_inj (by omega) (by omega) q).symm), Bool.false_and, Bool.or_false]
theorem ln3 {nf : Bool} {xs : List Int32} {d : Nat} {g : xL} {G : xG} {r : Option Value} {h' : zH} {N : Nat} {m : xM} {B : eB} {s : eS} (hG : GL G) (hE : EV B) (hA : AR B s m g) (hk : tK B s.2.2.2 = Int32.ofNat (32 + 3)) (hr : RR nf xs d 11 false 6 none zt169 G r h' N (27, [(1, .int 3), (0, .ref 128)], [], m, g)) : ∃ (m' : xM) (g' : xL), HS h' m' g' G ∧ PL B s m g r m' g' := by
  have hL : ∀ u : Nat, 1 ≤ u → u ≤ 5 → m 130 (9 + u) = Int32.ofNat ((fun u => (s.1 u).length) u) ∧ (fun u => (s.1 u).length) u ≤ 8 := fun u u1 u2 => ⟨hA.2.2.1 u u1 u2, by have := hA.2.1 u (by omega); have := (mN_b u).1; dsimp only; omega⟩
  replace hr := hr.go (s_aload_n t169_27 rfl)
  replace hr := hr.go (s_iload_n t169_28 rfl)
  replace hr := hr.cvI t169_29 rfl rfl (ct_isFullR (w := 3) (L := (fun u => (s.1 u).length)) hG.2.1 (by decide) hL)
  rw [show fulR (fun u => (s.1 u).length) 3 = decide (1 ≤ 3 ∧ 3 ≤ 5 ∧ (s.1 3).length = mN 3) from rfl] at hr
  rcases hr.zEq t169_32 with ⟨b32, hr⟩ | ⟨b32, hr⟩
  · skip
    replace hr := hr.go (s_iload_n t169_43 rfl)
    replace hr := hr.csI t169_44 rfl rfl (ct_isOnce (w := 3) (by decide))
    rw [show onR 3 = false from by decide] at hr
    rcases hr.zEq t169_47 with ⟨b47, hr⟩ | ⟨b47, hr⟩
    · replace hr := hr.go (s_aload_n t169_67 rfl)
      replace hr := hr.go (s_getf t169_68)
      rcases hr.zEq t169_71 with ⟨b71, hr⟩ | ⟨b71, hr⟩
      · have hnf : ¬ mN 3 ≤ (s.1 3).length := fun q => (of_decide_eq_false (bI_0 b32)) ⟨by decide, by decide, Nat.le_antisymm (hA.2.1 3 (by decide)) q⟩
        have hlt : (s.1 3).length < 8 := Nat.lt_of_not_le hnf
        replace hr := hr.go (s_aload_n t169_75 rfl)
        replace hr := hr.go (s_dup t169_76 rfl)
        replace hr := hr.go (s_getf t169_77)
        replace hr := hr.go (s_k t169_80)
        replace hr := hr.go (s_iload_n t169_81 rfl)
        replace hr := hr.go (s_ishl t169_82)
        replace hr := hr.go (s_ior t169_83)
        replace hr := hr.go (s_putf t169_84)
        replace hr := hr.go (s_aload_n t169_87 rfl)
        obtain ⟨m2, ⟨h2, hf2⟩, hr⟩ := hr.fvN t169_88 rfl rfl (ct_tokG hG.1 hE (sX_f (k := 21) hA.1 (by decide) (by decide) (by decide)))
        replace h2 : sX B (.inr (s.2.2.2 + 1, s.2.2.1, 0)) m2 := h2
        have hY2 : ∀ a : Nat, ¬ a = 128 → m2 a = m a := fun a ha => (hf2.1 a ha).trans (xu_row ha)
        have hK2 : ∀ k : Nat, ¬ (24 ≤ k ∧ k ≤ 29) → m2 128 k = xu m 128 21 (m 128 21 ||| (1 : Int32) <<< (3 &&& 31)) 128 k := hf2.2
        replace hr := hr.go (s_iload_n t169_91 rfl)
        replace hr := hr.go (s_tswitch (q := 321) t169_92 (by decide) (by decide) rfl rfl)
        replace hr := hr.go (s_aload_n t169_321 rfl)
        obtain ⟨_, m3, g3, hP, hr⟩ := hr.callv t169_322 rfl rfl (ct_tellLine (i := s.2.2.2 + 1) (kn := s.2.2.1) (rows := s.1 3) (js := s.1 2) hG.1 hE hG.2.1 (hG.2.2.1 12 (by decide) (by decide)) (hG.2.2.1 9 (by decide) (by decide)) hG.2.2.2.2.1 h2 ((congrFun (hY2 130 (by decide)) _).trans (hA.2.2.1 2 (by decide) (by decide))) (hA.2.1 2 (by decide)) (fun r hr2 => (congrFun (hY2 136 (by decide)) _).trans (hA.2.2.2.1 2 (by decide) r hr2 0 (by decide))) (fun j hj v hv => hA.2.2.2.2.2.2 j hj v (by omega)))
        obtain ⟨rfl, ⟨hFM, hFG⟩, hP⟩ := hP
        replace hr : RR nf xs d 11 false 6 none zt169 G r h' N (325, [(1, .int 3), (0, .ref 128)], [], m3, g3) := hr
        replace hr := hr.go (s_goto t169_325)
        have hlin : linF B s = oMap (fun q => (eup s.1 3 (s.1 3 ++ [q.1]), s.2.1, s.2.2.1, q.2)) (rendF B (telF B (s.1 3) (s.1 2) (s.2.2.2 + 1))) := by
          rw [lin_tab (w := 3) (by decide) hk, tab_nam hnf (by decide)]
          rfl
        split at hP
        · next e he =>
          obtain ⟨rfl, hs⟩ := le485F rfl hP hr
          exact ⟨_, _, hs, PL_bad (by rw [hlin, he]; rfl) hP ((FM.er hY2 (fun k hk => (hf2.2 k (by omega)).trans (xu_oth (by omega))) FM.rf).tr hFM) hFG⟩
        · next q he =>
          obtain ⟨p1, p2, j, v, p3, p4, p5, p6, p7, p8⟩ := hP
          obtain ⟨m', hs, rfl, h4, h22, hfa, hfk⟩ := le485G hG.1 hE rfl p1 hr
          refine ⟨m', _, hs, PL_good (w := 3) (row := q.1) (j := q.2) (by rw [hlin, he]) h4 (fun hq => ?_) ?_ (FM.er hfa (fun k hk => hfk k (by omega) (by omega)) ((FM.er hY2 (fun k hk => (hf2.2 k (by omega)).trans (xu_oth (by omega))) FM.rf).tr hFM)) hFG⟩
          · rw [p5]
            refine AR_tell hA hlt hq p3 p4 p6 (fun a a1 a2 => ?_) (fun k hk2 => ?_) ?_ ?_
            · rw [hfa a a1, p7 a a1, xu_row a2, hY2 a a1]
            · rw [hfa 130 (by decide), p7 130 (by decide), xu_oth (fun z => hk2 z.2), hY2 130 (by decide)]
            · rw [hfa 130 (by decide), p7 130 (by decide), xu_same, hY2 130 (by decide)]
            · rw [hfk 21 (by decide) (by decide), p8 21 (by decide), hK2 21 (by decide)]; exact xu_same
          · rw [h22, p8 22 (by decide), hK2 22 (by decide), xu_oth (by decide)]
      · exact absurd hA.1.1 b71
    · exact absurd rfl b47
  · replace hr := hr.go (s_aload_n t169_35 rfl)
    replace hr := hr.go (s_k t169_36)
    obtain ⟨m1, ⟨h1, hf1⟩, hr⟩ := hr.fvN t169_37 rfl rfl (ct_wrongG (f := 2) hA.1 (by decide) (by decide))
    skip
    replace hr := hr.go (s_goto t169_40)
    replace hr := hr.go (s_aload_n t169_67 rfl)
    replace hr := hr.go (s_getf t169_68)
    rcases hr.zEq t169_71 with ⟨b71, hr⟩ | ⟨b71, hr⟩
    · exact absurd b71 h1.2.1
    · obtain ⟨rfl, hs⟩ := hr.ret t169_74
      exact ⟨_, _, hs, PL_bad (by rw [lin_tab (w := 3) (by decide) hk, tab_full (Nat.le_of_eq (of_decide_eq_true (bI_1 b32)).2.2.symm)]; rfl) h1 (FM.er hf1.1 (fun k hk => hf1.2 k (by omega)) FM.rf) FG.rf⟩
/-- a law's line behind its word, in the reference -/
def PW (B : eB) (L : Nat → Bool) (i kn : Nat) (m : xM) (g : xL) : Option Value → xM → xL → Prop := fun r m' g' => r = none ∧ g' = g ∧ FM m m' ∧ match rul (tK B i) with
  | none => sX B (.inl (1, i)) m'
  | some k => if L k = true then sX B (.inl (3, i)) m' else ∃ (f : Nat) (o : eO), gE B f 0 (.inr (i + 1, kn, 0)) = some o ∧ sX B o m' ∧ m' 128 21 = m 128 21 ||| (1 : Int32) <<< (Int32.ofNat (16 + k) &&& 31) ∧ m' 128 22 = m 128 22 ∧ (∀ a : Nat, ¬ a = 128 → ¬ a = 130 → ¬ (144 ≤ a ∧ a ≤ 147) → m' a = m a) ∧ ∀ k : Nat, ¬ k = 17 → m' 130 k = m 130 k
theorem ct_lawLine {nf : Bool} {xs : List Int32} {d : Nat} {m : xM} {g : xL} {G : xG} {B : eB} {i kn : Nat} {L : Nat → Bool} (hG : GL G) (hE : EV B) (h : sX B (.inr (i, kn, 0)) m) (hL : ∀ k : Nat, k < 3 → bj (m 128 21) (16 + k) = L k) : CT nf xs d 171 [.ref 128] m g G (PW B L i kn m g) := by
  refine CT.of (c := 11) (ini := false) (nL := 2) (rt := none) (tab := zt171) rfl (fun d' r h' N hd hr => ?_)
  replace hr : RR nf xs d' 11 false 2 none zt171 G r h' N (0, [(0, .ref 128)], [], m, g) := hr
  have tr : TR (tK B i) (tV B i) (m 128 26) (m 128 27) := h.2.1.2.2.2.2
  have k9 : (9 : Int32).toInt = 9 := rfl
  have k11 : (11 : Int32).toInt = 11 := rfl
  have bad : rul (tK B i) = none → ∀ N : Nat, RR nf xs d' 11 false 2 none zt171 G r h' N (25, [(0, .ref 128)], [], m, g) → ∃ (m' : xM) (g' : xL), HS h' m' g' G ∧ PW B L i kn m g r m' g' := by
    intro hn N hr
    replace hr := hr.go (s_aload_n t171_25 rfl)
    replace hr := hr.go (s_k t171_26)
    obtain ⟨m3, ⟨h3, hf3⟩, hr⟩ := hr.fvN t171_27 rfl rfl (ct_wrongG (f := 1) h (by decide) (by decide))
    replace h3 : sX B (.inl (1, i)) m3 := h3
    replace hr := hr.go (s_aload_n t171_30 rfl)
    replace hr := hr.go (s_getf t171_31)
    replace hr := hr.go (s_k t171_34)
    replace hr := hr.go (s_isub t171_36)
    replace hr := hr.go (s_istore_n (ls' := [(1, _), (0, _)]) t171_37 rfl)
    replace hr := hr.go (s_aload_n t171_38 rfl)
    replace hr := hr.go (s_getf t171_39)
    rcases hr.zNe t171_42 with ⟨b42, hr⟩ | ⟨b42, hr⟩
    · replace hr := hr.go (s_aload_n t171_65 rfl)
      replace hr := hr.go (s_getf t171_66)
      rcases hr.zEq t171_69 with ⟨b69, hr⟩ | ⟨b69, hr⟩
      · exact absurd b69 h3.2.1
      · obtain ⟨rfl, hs⟩ := hr.ret t171_72
        exact ⟨_, _, hs, rfl, rfl, FM.er hf3.1 (fun k hk => hf3.2 k (by omega)) FM.rf, by rw [hn]; exact h3⟩
    · exact absurd b42 h3.2.1
  replace hr := hr.go (s_aload_n t171_0 rfl)
  replace hr := hr.go (s_getf t171_1)
  rcases hr.zNe t171_4 with ⟨b4, hr⟩ | ⟨b4, hr⟩
  · refine bad (rul_n (fun q => b4 ((tr_wrd tr).mpr (by omega)))) _ hr
  · obtain ⟨w, hw, hv, hkw⟩ := tr_wv tr ((tr_wrd tr).mp b4)
    have hwi : (Int32.ofNat w).toInt = (w : Int) := xn_int (by omega)
    have hki : (tK B i).toInt = 32 + (w : Int) := by rw [hkw, xn_int (by omega)]; omega
    replace hr := hr.go (s_aload_n t171_7 rfl)
    replace hr := hr.go (s_getf t171_8)
    rw [hv] at hr
    replace hr := hr.go (s_k t171_11)
    rcases hr.bLt t171_13 with ⟨b13, hr⟩ | ⟨b13, hr⟩
    · exact bad (rul_n (by omega)) _ hr
    · replace hr := hr.go (s_aload_n t171_16 rfl)
      replace hr := hr.go (s_getf t171_17)
      rw [hv] at hr
      replace hr := hr.go (s_k t171_20)
      rcases hr.bLe t171_22 with ⟨b22, hr⟩ | ⟨b22, hr⟩
      · obtain ⟨k, k3, hrk, -⟩ := rul_k (x := tK B i) (by omega) (by omega)
        have hwk : w = 9 + k := by
          unfold rul at hrk
          rw [hkw] at hrk
          split at hrk
          · next q => have := xn_inj (b := 41) (by omega) (by omega) q; cases hrk; omega
          · split at hrk
            · next q => have := xn_inj (b := 42) (by omega) (by omega) q; cases hrk; omega
            · split at hrk
              · next q => have := xn_inj (b := 43) (by omega) (by omega) q; cases hrk; omega
              · cases hrk
        have eW : Int32.ofNat w - 9 = Int32.ofNat k := by
          have := xn_sub (s := 9) (e := w) (by omega)
          rw [show w - 9 = k by omega] at this
          exact this
        have hLk := hL k k3
        replace hr := hr.go (s_aload_n t171_30 rfl)
        replace hr := hr.go (s_getf t171_31)
        rw [hv] at hr
        replace hr := hr.go (s_k t171_34)
        replace hr := hr.go (s_isub t171_36)
        rw [eW] at hr
        replace hr := hr.go (s_istore_n (ls' := [(1, _), (0, _)]) t171_37 rfl)
        replace hr := hr.go (s_aload_n t171_38 rfl)
        replace hr := hr.go (s_getf t171_39)
        rcases hr.zNe t171_42 with ⟨b42, hr⟩ | ⟨b42, hr⟩
        · exact absurd h.1 b42
        · replace hr := hr.go (s_aload_n t171_45 rfl)
          replace hr := hr.go (s_getf t171_46)
          replace hr := hr.go (s_k t171_49)
          replace hr := hr.go (s_iload_n t171_51 rfl)
          replace hr := hr.go (s_iadd t171_52)
          rw [show (16 : Int32) + Int32.ofNat k = Int32.ofNat (16 + k) from xn_add (p := 16)] at hr
          replace hr := hr.go (s_ishr t171_53)
          replace hr := hr.go (s_k t171_54)
          replace hr := hr.go (s_iand t171_55)
          replace hr := hr.go (s_k t171_56)
          rcases hr.bNe t171_57 with ⟨b57, hr⟩ | ⟨b57, hr⟩
          · replace hr := hr.go (s_aload_n t171_65 rfl)
            replace hr := hr.go (s_getf t171_66)
            rcases hr.zEq t171_69 with ⟨b69, hr⟩ | ⟨b69, hr⟩
            · replace hr := hr.go (s_aload_n t171_73 rfl)
              replace hr := hr.go (s_dup t171_74 rfl)
              replace hr := hr.go (s_getf t171_75)
              replace hr := hr.go (s_k t171_78)
              replace hr := hr.go (s_k t171_79)
              replace hr := hr.go (s_iload_n t171_81 rfl)
              replace hr := hr.go (s_iadd t171_82)
              rw [show (16 : Int32) + Int32.ofNat k = Int32.ofNat (16 + k) from xn_add (p := 16)] at hr
              replace hr := hr.go (s_ishl t171_83)
              replace hr := hr.go (s_ior t171_84)
              replace hr := hr.go (s_putf t171_85)
              replace hr := hr.go (s_aload_n t171_88 rfl)
              obtain ⟨m2, ⟨h2, hf2⟩, hr⟩ := hr.fvN t171_89 rfl rfl (ct_tokG hG.1 hE (sX_f (k := 21) h (by decide) (by decide) (by decide)))
              replace h2 : sX B (.inr (i + 1, kn, 0)) m2 := h2
              replace hr := hr.go (s_aload_n t171_92 rfl)
              replace hr := hr.go (s_getr t171_93 (hG.2.2.1 17 (by decide) (by decide)))
              replace hr := hr.go (s_k t171_96)
              replace hr := hr.go (s_iload_n t171_97 rfl)
              replace hr := hr.go (s_iadd t171_98)
              rw [show (3 : Int32) + Int32.ofNat k = Int32.ofNat (3 + k) from xn_add (p := 3)] at hr
              replace hr := hr.go (s_aload_n t171_99 rfl)
              replace hr := hr.go (s_k t171_100)
              replace hr := hr.cvI t171_102 rfl rfl (ct_fresher hG.2.1.1 hG.2.1.2.1)
              replace hr := hr.go (s_iastore t171_105)
              replace hr := hr.go (s_aload_n t171_106 rfl)
              obtain ⟨m4, f, oo, hgE, h4, hf4, hr⟩ := hr.cPX t171_107 ((ex_all hE _).1 _ _ _ _ hG.1 hG.2.1 (sX_row h2 (xu_row (by decide)) (xu_row (by decide))))
              skip
              replace hr := hr.go (s_aload_n t171_110 rfl)
              replace hr := hr.go (s_getr t171_111 (hG.2.2.1 18 (by decide) (by decide)))
              replace hr := hr.go (s_k t171_114)
              replace hr := hr.go (s_iload_n t171_115 rfl)
              replace hr := hr.go (s_iadd t171_116)
              rw [show (3 : Int32) + Int32.ofNat k = Int32.ofNat (3 + k) from xn_add (p := 3)] at hr
              replace hr := hr.go (s_aload_n t171_117 rfl)
              replace hr := hr.go (s_k t171_118)
              replace hr := hr.cvI t171_120 rfl rfl (ct_fresher hG.2.1.1 hG.2.1.2.1)
              replace hr := hr.go (s_iastore t171_123)
              obtain ⟨rfl, hs⟩ := hr.ret t171_124
              refine ⟨_, _, hs, rfl, rfl, ?_, ?_⟩
              · intro a j q
                by_cases e8 : a = 128
                · subst e8
                  have hj : 34 ≤ j := by
                    rcases q with q | q | q
                    · have := fhp_b q; omega
                    · omega
                    · exact q.2
                  rw [xu_row (by decide), hf4.2.1 j (by omega) (by omega) (by omega), xu_row (by decide), hf2.2 j (by omega), xu_oth (by omega)]
                have hb : 130 ≤ a ∧ ¬ a = 144 ∧ ¬ a = 145 ∧ ¬ a = 146 ∧ ¬ a = 147 := by
                  rcases q with q | q | q
                  · have := fhp_b q; omega
                  · omega
                  · exact absurd q.1 e8
                by_cases e : a = 130
                · subst e
                  have hj : j < 9 := by unfold fhq fhp at q; omega
                  rw [xu_row (by decide), hf4.2.2 j (by omega), xu_row (by decide), hf2.1 130 (by decide), xu_row (by decide)]
                · rw [xu_row (by omega), hf4.1 a (by omega) e (by omega) (by omega), xu_row (by omega), hf2.1 a (by omega), xu_row (by omega)]
              rw [hrk]
              dsimp only
              rw [if_neg (fun q => b57 ((bj_tst (by omega)).mpr (hLk.trans q)))]
              refine ⟨f, oo, hgE, sX_row h4 (xu_row (by decide)) (xu_row (by decide)), ?_, ?_, fun a a1 a2 a3 => ?_, fun k k1 => ?_⟩
              · rw [xu_row (by decide), hf4.2.1 21 (by decide) (by decide) (by decide), xu_row (by decide), hf2.2 21 (by decide)]; exact xu_same
              · rw [xu_row (by decide), hf4.2.1 22 (by decide) (by decide) (by decide), xu_row (by decide), hf2.2 22 (by decide)]; exact xu_oth (by decide)
              · rw [xu_row (by omega), hf4.1 a a1 a2 (by omega) (by omega), xu_row (by omega), hf2.1 a a1, xu_row a1]
              · rw [xu_row (by decide), hf4.2.2 k k1, xu_row (by decide), hf2.1 130 (by decide), xu_row (by decide)]
            · exact absurd h.1 b69
          · skip
            replace hr := hr.go (s_aload_n t171_60 rfl)
            replace hr := hr.go (s_k t171_61)
            obtain ⟨m3, ⟨h3, hf3⟩, hr⟩ := hr.fvN t171_62 rfl rfl (ct_wrongG (f := 3) h (by decide) (by decide))
            replace h3 : sX B (.inl (3, i)) m3 := h3
            replace hr := hr.go (s_aload_n t171_65 rfl)
            replace hr := hr.go (s_getf t171_66)
            rcases hr.zEq t171_69 with ⟨b69, hr⟩ | ⟨b69, hr⟩
            · exact absurd b69 h3.2.1
            · obtain ⟨rfl, hs⟩ := hr.ret t171_72
              exact ⟨_, _, hs, rfl, rfl, FM.er hf3.1 (fun k hk => hf3.2 k (by omega)) FM.rf, by rw [hrk]; dsimp only; rw [if_pos (hLk.symm.trans ((bj_tst (by omega)).mp b57))]; exact h3⟩
      · exact bad (rul_n (by omega)) _ hr
theorem rul_lt {x : Int32} {k : Nat} (h : rul x = some k) : k < 3 := by
  unfold rul at h
  split at h
  · cases h; decide
  · split at h
    · cases h; decide
    · split at h
      · cases h; decide
      · cases h
theorem AR_law {B : eB} {s : eS} {m m' : xM} {g : xL} {k t1 t2 : Nat} (hA : AR B s m g) (hk : k < 3) (h1 : sX B (.inr (t1 + 1, t2, 0)) m') (hr : ∀ a : Nat, ¬ a = 128 → ¬ a = 130 → ¬ (144 ≤ a ∧ a ≤ 147) → m' a = m a) (h130 : ∀ k : Nat, ¬ k = 17 → m' 130 k = m 130 k) (h21 : m' 128 21 = (m 128 21 ||| (1 : Int32) <<< (Int32.ofNat 8 &&& 31)) ||| (1 : Int32) <<< (Int32.ofNat (16 + k) &&& 31)) : AR B (s.1, eup s.2.1 k true, t2, t1 + 1) m' g := by
  obtain ⟨-, a2, a3, a4, a5, a6, a7⟩ := hA
  have hb : ∀ w : Nat, w < 32 → ¬ w = 8 → bj (m' 128 21) w = (bj (m 128 21) w || decide (16 + k = w)) := fun w hw h8 => by
    rw [h21, bj_set (by omega) hw, told_k (by omega) hw (fun q => h8 q.symm)]
  refine ⟨h1, a2, fun u u1 u2 => (h130 _ (by omega)).trans (a3 u u1 u2), fun u hu r hr2 c hc => ?_, fun u hu => ⟨(h130 _ (by omega)).trans (a5 u hu).1, ?_⟩, fun i hi => ?_, a7⟩
  · rw [hr _ (by have := ar_b hu hc; omega) (by have := ar_b hu hc; omega) (by have := ar_b hu hc; omega)]
    exact a4 u hu r hr2 c hc
  · rw [hb u (by omega) (by omega), decide_eq_false (by omega), Bool.or_false]
    exact (a5 u hu).2
  · rw [hb (16 + i) (by omega) (by omega), a6 i hi]
    show _ = if i = k then true else s.2.1 i
    by_cases e : i = k
    · rw [if_pos e, e, decide_eq_true rfl, Bool.or_true]
    · rw [if_neg e, decide_eq_false (by omega), Bool.or_false]
theorem ln8 {nf : Bool} {xs : List Int32} {d : Nat} {g : xL} {G : xG} {r : Option Value} {h' : zH} {N : Nat} {m : xM} {B : eB} {s : eS} (hG : GL G) (hE : EV B) (hA : AR B s m g) (hk : tK B s.2.2.2 = Int32.ofNat (32 + 8)) (hr : RR nf xs d 11 false 6 none zt169 G r h' N (27, [(1, .int 8), (0, .ref 128)], [], m, g)) : ∃ (m' : xM) (g' : xL), HS h' m' g' G ∧ PL B s m g r m' g' := by
  have hL : ∀ u : Nat, 1 ≤ u → u ≤ 5 → m 130 (9 + u) = Int32.ofNat ((fun u => (s.1 u).length) u) ∧ (fun u => (s.1 u).length) u ≤ 8 := fun u u1 u2 => ⟨hA.2.2.1 u u1 u2, by have := hA.2.1 u (by omega); have := (mN_b u).1; dsimp only; omega⟩
  replace hr := hr.go (s_aload_n t169_27 rfl)
  replace hr := hr.go (s_iload_n t169_28 rfl)
  replace hr := hr.cvI t169_29 rfl rfl (ct_isFullR (w := 8) (L := (fun u => (s.1 u).length)) hG.2.1 (by decide) hL)
  rw [show fulR (fun u => (s.1 u).length) 8 = false from decide_eq_false (by omega)] at hr
  rcases hr.zEq t169_32 with ⟨b32, hr⟩ | ⟨b32, hr⟩
  · replace hr := hr.go (s_iload_n t169_43 rfl)
    replace hr := hr.csI t169_44 rfl rfl (ct_isOnce (w := 8) (by decide))
    rw [show onR 8 = false from by decide] at hr
    rcases hr.zEq t169_47 with ⟨b47, hr⟩ | ⟨b47, hr⟩
    · replace hr := hr.go (s_aload_n t169_67 rfl)
      replace hr := hr.go (s_getf t169_68)
      rcases hr.zEq t169_71 with ⟨b71, hr⟩ | ⟨b71, hr⟩
      · replace hr := hr.go (s_aload_n t169_75 rfl)
        replace hr := hr.go (s_dup t169_76 rfl)
        replace hr := hr.go (s_getf t169_77)
        replace hr := hr.go (s_k t169_80)
        replace hr := hr.go (s_iload_n t169_81 rfl)
        replace hr := hr.go (s_ishl t169_82)
        replace hr := hr.go (s_ior t169_83)
        replace hr := hr.go (s_putf t169_84)
        replace hr := hr.go (s_aload_n t169_87 rfl)
        obtain ⟨m2, ⟨h2, hf2⟩, hr⟩ := hr.fvN t169_88 rfl rfl (ct_tokG hG.1 hE (sX_f (k := 21) hA.1 (by decide) (by decide) (by decide)))
        replace h2 : sX B (.inr (s.2.2.2 + 1, s.2.2.1, 0)) m2 := h2
        have hY2 : ∀ a : Nat, ¬ a = 128 → m2 a = m a := fun a ha => (hf2.1 a ha).trans (xu_row ha)
        have hK2 : ∀ k : Nat, ¬ (24 ≤ k ∧ k ≤ 29) → m2 128 k = xu m 128 21 (m 128 21 ||| (1 : Int32) <<< (8 &&& 31)) 128 k := hf2.2
        replace hr := hr.go (s_iload_n t169_91 rfl)
        replace hr := hr.go (s_tswitchD (q := 481) t169_92 (by decide) rfl)
        replace hr := hr.go (s_aload_n t169_481 rfl)
        obtain ⟨_, m3, g3, hP, hr⟩ := hr.callv t169_482 rfl rfl (ct_lawLine (i := s.2.2.2 + 1) (kn := s.2.2.1) (L := s.2.1) hG hE h2 (fun k hk3 => by rw [hK2 21 (by decide), xu_same]; exact (told_k (w := 8) (by decide) (by omega) (by omega)).trans (hA.2.2.2.2.2.1 k hk3)))
        obtain ⟨e1, e2, hFM, hP⟩ := hP
        subst e1
        rw [e2] at hr
        replace hr : RR nf xs d 11 false 6 none zt169 G r h' N (485, [(1, .int 8), (0, .ref 128)], [], m3, g) := hr
        have hlin : linF B s = (match lawF B s.2.1 s.2.2.1 s.2.2.2 with
            | .inl e => .inl e
            | .inr q => .inr (s.1, q)) := by
          unfold linF
          rw [hk, wrd_of (by decide)]
          dsimp only
          rw [if_pos rfl]
          rfl
        unfold lawF at hlin
        split at hP
        · next he =>
          rw [he] at hlin
          obtain ⟨rfl, hs⟩ := le485F rfl hP hr
          exact ⟨_, _, hs, PL_bad hlin hP ((FM.er hY2 (fun k hk => (hf2.2 k (by omega)).trans (xu_oth (by omega))) FM.rf).tr hFM) FG.rf⟩
        · next k he =>
          rw [he] at hlin
          dsimp only at hlin
          have hk3 : k < 3 := rul_lt he
          by_cases hLk : s.2.1 k = true
          · rw [if_pos hLk] at hP hlin
            obtain ⟨rfl, hs⟩ := le485F rfl hP hr
            exact ⟨_, _, hs, PL_bad hlin hP ((FM.er hY2 (fun k hk => (hf2.2 k (by omega)).trans (xu_oth (by omega))) FM.rf).tr hFM) FG.rf⟩
          · rw [if_neg hLk] at hP hlin
            obtain ⟨f, oo, hgE, h4, p21, p22, pa, pk⟩ := hP
            have hes := ex_same hgE hA.1.2.2.2.1
            cases oo with
            | inl e =>
              have hes : exC B (s.2.2.2 + 1 + 1) s.2.2.1 = .inl e := hes
              rw [show s.2.2.2 + 2 = s.2.2.2 + 1 + 1 from rfl, hes] at hlin
              obtain ⟨rfl, hs⟩ := le485F rfl h4 hr
              exact ⟨_, _, hs, PL_bad hlin h4 ((FM.er hY2 (fun k hk => (hf2.2 k (by omega)).trans (xu_oth (by omega))) FM.rf).tr hFM) FG.rf⟩
            | inr t =>
              obtain ⟨t1, t2, t3⟩ := t
              obtain ⟨he1, he2, he3⟩ := hes
              have he2 : t3 = 0 := he2
              subst he2
              rw [show s.2.2.2 + 2 = s.2.2.2 + 1 + 1 from rfl, he3] at hlin
              obtain ⟨m', hs, rfl, h5, h22, hfa, hfk⟩ := le485G hG.1 hE rfl h4 hr
              refine ⟨m', _, hs, rfl, ⟨FM.er hfa (fun k hk => hfk k (by omega) (by omega)) ((FM.er hY2 (fun k hk => (hf2.2 k (by omega)).trans (xu_oth (by omega))) FM.rf).tr hFM), FG.rf⟩, ?_⟩
              rw [hlin]
              by_cases c4 : tK B t1 = 4
              · rw [if_pos c4] at h5
                rw [if_pos c4]
                refine ⟨AR_law hA hk3 h5 (fun a a1 a2 a3 => ?_) (fun k k1 => ?_) ?_, ?_⟩
                · rw [hfa a a1, pa a a1 a2 a3, hY2 a a1]
                · rw [hfa 130 (by decide), pk k k1, hY2 130 (by decide)]
                · rw [hfk 21 (by decide) (by decide), p21, hK2 21 (by decide), xu_same]; rfl
                · rw [h22, p22, hK2 22 (by decide), xu_oth (by decide)]
              · rw [if_neg c4] at h5
                rw [if_neg c4]
                exact h5
      · exact absurd hA.1.1 b71
    · exact absurd rfl b47
  · exact absurd rfl b32
theorem ct_lineR {nf : Bool} {xs : List Int32} {d : Nat} {m : xM} {g : xL} {G : xG} {B : eB} {s : eS} (hG : GL G) (hE : EV B) (hA : AR B s m g) : CT nf xs d 169 [.ref 128] m g G (PL B s m g) := by
  refine CT.of (c := 11) (ini := false) (nL := 6) (rt := none) (tab := zt169) rfl (fun d' r h' N hd hr => ?_)
  replace hr : RR nf xs d' 11 false 6 none zt169 G r h' N (0, [(0, .ref 128)], [], m, g) := hr
  have tr : TR (tK B s.2.2.2) (tV B s.2.2.2) (m 128 26) (m 128 27) := hA.1.2.1.2.2.2.2
  have k8 : (8 : Int32).toInt = 8 := rfl
  have bad : wrd (tK B s.2.2.2) = none → ∀ N : Nat, RR nf xs d' 11 false 6 none zt169 G r h' N (16, [(0, .ref 128)], [], m, g) → ∃ (m' : xM) (g' : xL), HS h' m' g' G ∧ PL B s m g r m' g' := by
    intro hn N hr
    replace hr := hr.go (s_aload_n t169_16 rfl)
    replace hr := hr.go (s_k t169_17)
    obtain ⟨m3, ⟨h3, hf3⟩, hr⟩ := hr.fvN t169_18 rfl rfl (ct_wrongG (f := 1) hA.1 (by decide) (by decide))
    replace h3 : sX B (.inl (1, s.2.2.2)) m3 := h3
    obtain ⟨rfl, hs⟩ := hr.ret t169_21
    exact ⟨_, _, hs, PL_bad (by unfold linF; rw [hn]) h3 (FM.er hf3.1 (fun k hk => hf3.2 k (by omega)) FM.rf) FG.rf⟩
  replace hr := hr.go (s_aload_n t169_0 rfl)
  replace hr := hr.go (s_getf t169_1)
  rcases hr.zNe t169_4 with ⟨b4, hr⟩ | ⟨b4, hr⟩
  · exact bad (wrd_n (fun q => b4 ((tr_wrd tr).mpr q.1))) _ hr
  · obtain ⟨w, hw, hv, hkw⟩ := tr_wv tr ((tr_wrd tr).mp b4)
    have hwi : (Int32.ofNat w).toInt = (w : Int) := xn_int (by omega)
    have hki : (tK B s.2.2.2).toInt = 32 + (w : Int) := by rw [hkw, xn_int (by omega)]; omega
    replace hr := hr.go (s_aload_n t169_7 rfl)
    replace hr := hr.go (s_getf t169_8)
    rw [hv] at hr
    replace hr := hr.go (s_k t169_11)
    rcases hr.bLe t169_13 with ⟨b13, hr⟩ | ⟨b13, hr⟩
    · replace hr := hr.go (s_aload_n t169_22 rfl)
      replace hr := hr.go (s_getf t169_23)
      rw [hv] at hr
      replace hr := hr.go (s_istore_n (ls' := [(1, _), (0, _)]) t169_26 rfl)
      rcases (show w = 0 ∨ w = 1 ∨ w = 2 ∨ w = 3 ∨ w = 4 ∨ w = 5 ∨ w = 6 ∨ w = 7 ∨ w = 8 by omega) with rfl | rfl | rfl | rfl | rfl | rfl | rfl | rfl | rfl
      · exact ln0 hG hE hA hkw hr
      · exact ln1 hG hE hA hkw hr
      · exact ln2 hG hE hA hkw hr
      · exact ln3 hG hE hA hkw hr
      · exact ln4 hG hE hA hkw hr
      · exact ln5 hG hE hA hkw hr
      · exact ln6 hG hE hA hkw hr
      · exact ln7 hG hE hA hkw hr
      · exact ln8 hG hE hA hkw hr
    · exact bad (wrd_n (by omega)) _ hr
