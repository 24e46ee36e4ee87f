/-! The reference's lines: tellings. -/
theorem ct_goOnG {nf : Bool} {xs : List Int32} {d : Nat} {m : xM} {g : xL} {G : xG} {B : eB} {o : eO} (hG : GM G) (hE : EV B) (h : sX B o m) : CT nf xs d 161 [.ref 128] m g G (PF none g (fun m' => sX B (goF o) m' ∧ rg m m')) := by
  refine CT.of (c := 11) (ini := false) (nL := 1) (rt := none) (tab := zt161) rfl (fun d' r h' N hd hr => ?_)
  replace hr : RR nf xs d' 11 false 1 (none) zt161 G r h' N (0, [(0, .ref 128)], [], m, g) := hr
  replace hr := hr.go (s_aload_n t161_0 rfl)
  replace hr := hr.go (s_getf t161_1)
  cases o with
  | inl e =>
    rcases hr.zNe t161_4 with ⟨b4, hr⟩ | ⟨b4, hr⟩
    · obtain ⟨rfl, hs⟩ := hr.ret t161_11
      exact ⟨_, _, hs, rfl, rfl, h, rg.rfl'⟩
    · exact absurd b4 h.2.1
  | inr t =>
    rcases hr.zNe t161_4 with ⟨b4, hr⟩ | ⟨b4, hr⟩
    · exact absurd h.1 b4
    · replace hr := hr.go (s_aload_n t161_7 rfl)
      obtain ⟨m2, ⟨h2, hf2⟩, hr⟩ := hr.fvN t161_8 rfl rfl (ct_tokG hG hE h)
      obtain ⟨rfl, hs⟩ := hr.ret t161_11
      exact ⟨_, _, hs, rfl, rfl, h2, hf2⟩
/-- a telling, of both sides -/
def telF (B : eB) (rows js : List (List Int32)) (i : Nat) : (Nat × Nat) ⊕ (List Int32 × Nat) := match namF B 3 rows js i with
  | .inl e => .inl e
  | .inr v => rowF B 3 rows 1 1 [v] (i + 1)
def PT (B : eB) (rows js : List (List Int32)) (i kn : Nat) (m : xM) (g : xL) : Option Value → xM → xL → Prop := fun r m' g' => r = none ∧ (FM m m' ∧ FG g g') ∧ match telF B rows js i with
  | .inl e => sX B (.inl e) m'
  | .inr q => sX B (.inr (q.2, kn, 0)) m' ∧ q.2 = i + 2 ∧ ∃ j v : Nat, j < 6 ∧ v ≤ 60 ∧ q.1 = [Int32.ofNat j, Int32.ofNat v] ∧ g' = xu g 139 (6 + j) (g 139 (6 + j) ||| (1 : Int64) <<< ((Int32.ofNat v).toInt64 &&& 63)) ∧ (∀ a : Nat, ¬ a = 128 → m' a = xu m 130 12 (m 130 12 + 1) a) ∧ ∀ k : Nat, ¬ (24 ≤ k ∧ k ≤ 29) → m' 128 k = m 128 k
theorem PT_bad {B : eB} {rows js : List (List Int32)} {i kn : Nat} {m m' : xM} {g g' : xL} {e : Nat × Nat} (h : telF B rows js i = .inl e) (hs : sX B (.inl e) m') (hF : FM m m') (hg : FG g g') : PT B rows js i kn m g none m' g' := by
  refine ⟨rfl, ⟨hF, hg⟩, ?_⟩
  rw [h]
  exact hs
theorem num3_1 {B : eB} {rows : List (List Int32)} {x : Int32} {i : Nat} (h : ¬ tK B i = 2) : numF B 3 1 [x] rows i = .inl (1, i) := by
  unfold numF
  rw [if_pos h]
theorem num3_2 {B : eB} {rows : List (List Int32)} {x : Int32} {i : Nat} (h : tK B i = 2) (h2 : (tV B i).toInt < (0 : Int32).toInt ∨ (60 : Int32).toInt < (tV B i).toInt) : numF B 3 1 [x] rows i = .inl (2, i) := by
  unfold numF
  rw [if_neg (fun q => q h), if_pos (show (tV B i).toInt < (lsV 3 1 [x]).toInt ∨ (mxV 3 1).toInt < (tV B i).toInt from h2)]
theorem num3_3 {B : eB} {rows : List (List Int32)} {x : Int32} {i : Nat} (h : tK B i = 2) (h2 : ¬ ((tV B i).toInt < (0 : Int32).toInt ∨ (60 : Int32).toInt < (tV B i).toInt)) (h3 : tld rows x (tV B i) = true) : numF B 3 1 [x] rows i = .inl (3, i) := by
  unfold numF
  rw [if_neg (fun q => q h), if_neg (show ¬ ((tV B i).toInt < (lsV 3 1 [x]).toInt ∨ (mxV 3 1).toInt < (tV B i).toInt) from h2), if_pos ⟨rfl, h3⟩]
theorem num3_4 {B : eB} {rows : List (List Int32)} {x : Int32} {i : Nat} (h : tK B i = 2) (h2 : ¬ ((tV B i).toInt < (0 : Int32).toInt ∨ (60 : Int32).toInt < (tV B i).toInt)) (h3 : tld rows x (tV B i) = false) : numF B 3 1 [x] rows i = .inr (tV B i) := by
  unfold numF
  rw [if_neg (fun q => q h), if_neg (show ¬ ((tV B i).toInt < (lsV 3 1 [x]).toInt ∨ (mxV 3 1).toInt < (tV B i).toInt) from h2), if_neg (fun q => by
    have q2 : tld rows x (tV B i) = true := q.2
    rw [h3] at q2
    cases q2)]
theorem nv_ge {B : eB} {i : Nat} {so va : Int32} (h : TR (tK B i) (tV B i) so va) (h2 : tK B i = 2) : 0 ≤ (tV B i).toInt := by
  rcases tr_nv h h2 with ⟨q, q1, q2⟩ | ⟨q1, q2⟩ <;> omega
theorem tl114F {nf : Bool} {xs : List Int32} {d : Nat} {g : xL} {G : xG} {r : Option Value} {h' : zH} {N : Nat} {m : xM} {B : eB} {e : Nat × Nat} {y : Int32} (hG : GM G) (hE : EV B) (h : sX B (.inl e) m) (hr : RR nf xs d 11 false 3 none zt170 G r h' N (114, [(1, .int y), (0, .ref 128)], [], m, g)) : ∃ (m' : xM) (g' : xL), HS h' m' g' G ∧ r = none ∧ sX B (.inl e) m' ∧ FM m m' ∧ g' = g := by
  replace hr := hr.go (s_aload_n t170_114 rfl)
  replace hr := hr.go (s_k t170_115)
  replace hr := hr.go (s_k t170_116)
  obtain ⟨m3, ⟨h3, hf3⟩, hr⟩ := hr.fvI t170_118 rfl rfl (ct_numeral (o := .inl e) (lo := 0) (mo := 60) hG hE (by decide) h)
  replace h3 : sX B (.inl e) m3 := h3
  replace hr := hr.go (s_istore_n (ls' := [(2, _), (1, _), (0, _)]) t170_121 rfl)
  replace hr := hr.go (s_aload_n t170_122 rfl)
  replace hr := hr.go (s_getf t170_123)
  rcases hr.zEq t170_126 with ⟨b126, hr⟩ | ⟨b126, hr⟩
  · exact absurd b126 h3.2.1
  · obtain ⟨rfl, hs⟩ := hr.ret t170_129
    exact ⟨_, _, hs, rfl, h3, FM.er hf3.1 (fun k hk => hf3.2 k (by omega)) FM.rf, rfl⟩
theorem tl60F {nf : Bool} {xs : List Int32} {d : Nat} {g : xL} {G : xG} {r : Option Value} {h' : zH} {N : Nat} {m : xM} {B : eB} {e : Nat × Nat} {y : Int32} (hG : GM G) (hE : EV B) (h : sX B (.inl e) m) (hr : RR nf xs d 11 false 3 none zt170 G r h' N (60, [(1, .int y), (0, .ref 128)], [], m, g)) : ∃ (m' : xM) (g' : xL), HS h' m' g' G ∧ r = none ∧ sX B (.inl e) m' ∧ FM m m' ∧ g' = g := by
  replace hr := hr.go (s_aload_n t170_60 rfl)
  obtain ⟨m2, ⟨h2, hf2⟩, hr⟩ := hr.fvN t170_61 rfl rfl (ct_goOnG hG hE h)
  replace h2 : sX B (.inl e) m2 := h2
  replace hr := hr.go (s_aload_n t170_64 rfl)
  replace hr := hr.go (s_getf t170_65)
  rcases hr.zNe t170_68 with ⟨b68, hr⟩ | ⟨b68, hr⟩
  · obtain ⟨m', g', hs, e1, e2, e3, e4⟩ := tl114F hG hE h2 hr
    exact ⟨m', g', hs, e1, e2, (FM.er hf2.1 (fun k hk => hf2.2 k (by omega)) FM.rf).tr e3, e4⟩
  · exact absurd b68 h2.2.1
theorem tl114G {nf : Bool} {xs : List Int32} {d : Nat} {g : xL} {G : xG} {r : Option Value} {h' : zH} {N : Nat} {m : xM} {B : eB} {i kn j : Nat} {rows js : List (List Int32)} (hG : GM G) (hE : EV B) (hN : GK G) (hT : G.1 128 12 = some 139) (hj : j < 6) (h : sX B (.inr (i + 1, kn, 0)) m) (hn : namF B 3 rows js i = .inr (Int32.ofNat j)) (ht : tK B (i + 1) = 2 → (tV B (i + 1)).toInt ≤ 60 → tld rows (Int32.ofNat j) (tV B (i + 1)) = false) (hr : RR nf xs d 11 false 3 none zt170 G r h' N (114, [(1, .int (Int32.ofNat j)), (0, .ref 128)], [], m, g)) : ∃ (m' : xM) (g' : xL), HS h' m' g' G ∧ PT B rows js i kn m g r m' g' := by
  have hte : telF B rows js i = rowF B 3 rows 1 1 [Int32.ofNat j] (i + 1) := by unfold telF; rw [hn]
  replace hr := hr.go (s_aload_n t170_114 rfl)
  replace hr := hr.go (s_k t170_115)
  replace hr := hr.go (s_k t170_116)
  obtain ⟨m3, ⟨h3, hf3⟩, hr⟩ := hr.fvI t170_118 rfl rfl (ct_numeral (o := .inr (i + 1, kn, 0)) (lo := 0) (mo := 60) hG hE (by decide) h)
  skip
  replace hr := hr.go (s_istore_n (ls' := [(2, _), (1, _), (0, _)]) t170_121 rfl)
  replace hr := hr.go (s_aload_n t170_122 rfl)
  replace hr := hr.go (s_getf t170_123)
  by_cases c2 : tK B (i + 1) = 2
  · have hb := nv_ge (B := B) (i := i + 1) h.2.1.2.2.2.2 c2
    by_cases c3 : (tV B (i + 1)).toInt < (0 : Int32).toInt ∨ (60 : Int32).toInt < (tV B (i + 1)).toInt
    · have e1 : nuO B 0 60 (.inr (i + 1, kn, 0)) = .inl (2, i + 1) := by unfold nuO; dsimp only; rw [if_neg (fun q => q c2), if_pos c3]
      rw [e1] at h3
      rcases hr.zEq t170_126 with ⟨b, hr⟩ | ⟨b, hr⟩
      · exact absurd b h3.2.1
      · obtain ⟨rfl, hs⟩ := hr.ret t170_129
        exact ⟨_, _, hs, PT_bad (hte.trans (rowF_l (f := 0) (num3_2 c2 c3))) h3 (FM.er hf3.1 (fun k hk => hf3.2 k (by omega)) FM.rf) FG.rf⟩
    · have e1 : nuO B 0 60 (.inr (i + 1, kn, 0)) = .inr (i + 2, kn, 0) := by unfold nuO; dsimp only; rw [if_neg (fun q => q c2), if_neg c3]
      have e2 : nuV B 0 60 (.inr (i + 1, kn, 0)) = tV B (i + 1) := by unfold nuV; dsimp only; rw [if_neg (fun q => q c2), if_neg c3]
      have k60 : (60 : Int32).toInt = 60 := rfl
      have hv : (tV B (i + 1)).toInt ≤ 60 := by omega
      rw [e1] at h3
      rw [e2] at hr
      rcases hr.zEq t170_126 with ⟨b, hr⟩ | ⟨b, hr⟩
      · replace hr := hr.go (s_aload_n t170_130 rfl)
        replace hr := hr.go (s_getr t170_131 (hT))
        replace hr := hr.go (s_k t170_134)
        replace hr := hr.go (s_iload_n t170_136 rfl)
        replace hr := hr.go (s_iadd t170_137)
        rw [show (6 : Int32) + Int32.ofNat j = Int32.ofNat (6 + j) from xn_add (p := 6)] at hr
        replace hr := hr.go (s_dup2 t170_138)
        replace hr := hr.go (s_laload t170_139)
        rw [xn_nat (show 6 + j < 2147483648 by omega)] at hr
        replace hr := hr.go (s_lconst t170_140)
        replace hr := hr.go (s_iload_n t170_141 rfl)
        replace hr := hr.go (s_lshl t170_142)
        replace hr := hr.go (s_lor t170_143)
        replace hr := hr.go (s_lastore t170_144)
        rw [xn_nat (show 6 + j < 2147483648 by omega)] at hr
        replace hr := hr.go (s_aload_n t170_145 rfl)
        replace hr := hr.go (s_k t170_146)
        replace hr := hr.go (s_aload_n t170_147 rfl)
        replace hr := hr.go (s_k t170_148)
        replace hr := hr.cvI t170_149 rfl rfl (ct_fresher hN.1 hN.2.1)
        replace hr := hr.go (s_k t170_152)
        replace hr := hr.go (s_iadd t170_153)
        replace hr := hr.cvN t170_154 rfl rfl (ct_reads hN.1)
        obtain ⟨rfl, hs⟩ := hr.ret t170_157
        obtain ⟨v, hv2, hv3⟩ : ∃ v : Nat, tV B (i + 1) = Int32.ofNat v ∧ v ≤ 60 := ⟨_, xn_of hb, by rw [Int32.toNatClampNeg]; omega⟩
        refine ⟨_, _, hs, rfl, ⟨FM.x130 (FM.er hf3.1 (fun k hk => hf3.2 k (by omega)) FM.rf) (by decide), FG.x (by omega)⟩, ?_⟩
        have e3 : telF B rows js i = .inr ([Int32.ofNat j, tV B (i + 1)], i + 2) := by
          rw [hte]
          exact (rowF_r (f := 0) (v := tV B (i + 1)) (num3_4 c2 c3 (ht c2 hv))).trans rfl
        rw [e3]
        refine ⟨sX_row h3 (xu_row (by decide)) (xu_row (by decide)), rfl, j, v, hj, hv3, by rw [hv2], ?_, fun a a1 => ?_, fun k k1 => ?_⟩
        · rw [hv2]; rfl
        · rw [hf3.1 130 (by decide)]
          exact xu_er hf3.1 a a1
        · rw [xu_row (by decide)]; exact hf3.2 k k1
      · exact absurd h3.1 b
  · have e1 : nuO B 0 60 (.inr (i + 1, kn, 0)) = .inl (1, i + 1) := by unfold nuO; dsimp only; rw [if_pos c2]
    rw [e1] at h3
    rcases hr.zEq t170_126 with ⟨b, hr⟩ | ⟨b, hr⟩
    · exact absurd b h3.2.1
    · obtain ⟨rfl, hs⟩ := hr.ret t170_129
      exact ⟨_, _, hs, PT_bad (hte.trans (rowF_l (f := 0) (num3_1 c2))) h3 (FM.er hf3.1 (fun k hk => hf3.2 k (by omega)) FM.rf) FG.rf⟩
theorem tl60G {nf : Bool} {xs : List Int32} {d : Nat} {g : xL} {G : xG} {r : Option Value} {h' : zH} {N : Nat} {m : xM} {B : eB} {i kn j : Nat} {rows js : List (List Int32)} (hG : GM G) (hE : EV B) (hN : GK G) (hT : G.1 128 12 = some 139) (hj : j < 6) (h : sX B (.inr (i, kn, 0)) m) (hn : namF B 3 rows js i = .inr (Int32.ofNat j)) (hb : ∀ v : Nat, v ≤ 60 → bl (g 139 (6 + j)) v = tld rows (Int32.ofNat j) (Int32.ofNat v)) (hr : RR nf xs d 11 false 3 none zt170 G r h' N (60, [(1, .int (Int32.ofNat j)), (0, .ref 128)], [], m, g)) : ∃ (m' : xM) (g' : xL), HS h' m' g' G ∧ PT B rows js i kn m g r m' g' := by
  have k60 : (60 : Int32).toInt = 60 := rfl
  have hte : telF B rows js i = rowF B 3 rows 1 1 [Int32.ofNat j] (i + 1) := by unfold telF; rw [hn]
  replace hr := hr.go (s_aload_n t170_60 rfl)
  obtain ⟨m2, ⟨h2, hf2⟩, hr⟩ := hr.fvN t170_61 rfl rfl (ct_goOnG hG hE h)
  replace h2 : sX B (.inr (i + 1, kn, 0)) m2 := h2
  have fin : ∀ (N' : Nat), (tK B (i + 1) = 2 → (tV B (i + 1)).toInt ≤ 60 → tld rows (Int32.ofNat j) (tV B (i + 1)) = false) → RR nf xs d 11 false 3 none zt170 G r h' N' (114, [(1, .int (Int32.ofNat j)), (0, .ref 128)], [], m2, g) → ∃ (m' : xM) (g' : xL), HS h' m' g' G ∧ PT B rows js i kn m g r m' g' := by
    intro N' ht hr
    obtain ⟨m', g', hs, hp⟩ := tl114G hG hE hN hT hj h2 hn ht hr
    refine ⟨m', g', hs, hp.1, ⟨(FM.er hf2.1 (fun k hk => hf2.2 k (by omega)) FM.rf).tr hp.2.1.1, hp.2.1.2⟩, ?_⟩
    have hp := hp.2.2
    split
    · next e he =>
      rw [he] at hp
      exact hp
    · next q he =>
      rw [he] at hp
      obtain ⟨p1, p2, j', v', p3, p4, p5, p6, p7, p8⟩ := hp
      refine ⟨p1, p2, j', v', p3, p4, p5, p6, fun a a1 => ?_, fun k k1 => (p8 k k1).trans (hf2.2 k k1)⟩
      rw [p7 a a1, hf2.1 130 (by decide)]
      exact xu_er hf2.1 a a1
  have tr : TR (tK B (i + 1)) (tV B (i + 1)) (m2 128 26) (m2 128 27) := h2.2.1.2.2.2.2
  replace hr := hr.go (s_aload_n t170_64 rfl)
  replace hr := hr.go (s_getf t170_65)
  rcases hr.zNe t170_68 with ⟨b68, hr⟩ | ⟨b68, hr⟩
  · exact absurd h2.1 b68
  · replace hr := hr.go (s_aload_n t170_71 rfl)
    replace hr := hr.go (s_getf t170_72)
    replace hr := hr.go (s_k t170_75)
    rcases hr.bNe t170_76 with ⟨b76, hr⟩ | ⟨b76, hr⟩
    · exact fin _ (fun q => absurd ((tr_num tr).mpr q) b76) hr
    · replace hr := hr.go (s_aload_n t170_79 rfl)
      replace hr := hr.go (s_getf t170_80)
      replace hr := hr.go (s_k t170_83)
      have c2 : tK B (i + 1) = 2 := (tr_num tr).mp b76
      have nvv := tr_nv tr c2
      rcases hr.bGt t170_85 with ⟨b85, hr⟩ | ⟨b85, hr⟩
      · refine fin _ (fun _ q => ?_) hr
        rcases nvv with ⟨q1, q2, q3⟩ | ⟨q1, q2⟩
        · rw [q1] at q; omega
        · omega
      · have ev : m2 128 27 = tV B (i + 1) := nv_eq (mo := 60) nvv (by decide) (by omega)
        have hb0 : 0 ≤ (tV B (i + 1)).toInt := nv_ge tr c2
        obtain ⟨v, hv2, hv3⟩ : ∃ v : Nat, tV B (i + 1) = Int32.ofNat v ∧ v ≤ 60 := ⟨_, xn_of hb0, by rw [Int32.toNatClampNeg, ← ev]; omega⟩
        replace hr := hr.go (s_aload_n t170_88 rfl)
        replace hr := hr.go (s_getr t170_89 (hT))
        replace hr := hr.go (s_k t170_92)
        replace hr := hr.go (s_iload_n t170_94 rfl)
        replace hr := hr.go (s_iadd t170_95)
        rw [show (6 : Int32) + Int32.ofNat j = Int32.ofNat (6 + j) from xn_add (p := 6)] at hr
        replace hr := hr.go (s_laload t170_96)
        rw [xn_nat (show 6 + j < 2147483648 by omega)] at hr
        replace hr := hr.go (s_aload_n t170_97 rfl)
        replace hr := hr.go (s_getf t170_98)
        rw [ev, hv2] at hr
        replace hr := hr.go (s_lshr t170_101)
        replace hr := hr.go (s_lconst t170_102)
        replace hr := hr.go (s_land t170_103)
        replace hr := hr.go (s_lconst t170_104)
        replace hr := hr.go (s_lcmp t170_105)
        rcases hr.zNe t170_106 with ⟨b106, hr⟩ | ⟨b106, hr⟩
        · refine fin _ (fun _ _ => ?_) hr
          rw [hv2, ← hb v hv3]
          cases hq : bl (g 139 (6 + j)) v with
          | false => rfl
          | true => exact absurd (cmp_1.mpr ((bl_tst (by omega)).mpr hq)) b106
        · have hq : bl (g 139 (6 + j)) v = true := (bl_tst (by omega)).mp (cmp_1.mp b106)
          replace hr := hr.go (s_aload_n t170_109 rfl)
          replace hr := hr.go (s_k t170_110)
          obtain ⟨m3, ⟨h3, hf3⟩, hr⟩ := hr.fvN t170_111 rfl rfl (ct_wrongG (f := 3) h2 (by decide) (by decide))
          replace h3 : sX B (.inl (3, i + 1)) m3 := h3
          obtain ⟨m4, g4, hs, rfl, h4, hF, hg⟩ := tl114F hG hE h3 hr
          exact ⟨m4, g4, hs, PT_bad (hte.trans (rowF_l (f := 0) (num3_3 c2 (fun q => by rw [show (0 : Int32).toInt = 0 from rfl, show (60 : Int32).toInt = 60 from rfl, hv2, xn_int (by omega)] at q; omega) (by rw [hv2, ← hb v hv3]; exact hq)))) h4 ((FM.er hf2.1 (fun k hk => hf2.2 k (by omega)) FM.rf).tr ((FM.er hf3.1 (fun k hk => hf3.2 k (by omega)) FM.rf).tr hF)) (FG.of hg)⟩
theorem ct_tellLine {nf : Bool} {xs : List Int32} {d : Nat} {m : xM} {g : xL} {G : xG} {B : eB} {i kn : Nat} {rows js : List (List Int32)} (hG : GM G) (hE : EV B) (hN : GK G) (hT : G.1 128 12 = some 139) (hJ : G.1 128 9 = some 136) (hJ2 : G.2 136 = (0, 1, 12)) (h : sX B (.inr (i, kn, 0)) m) (h2 : m 130 ((9 : Int32) + 2).toNatClampNeg = Int32.ofNat js.length) (hl : js.length ≤ 6) (hrow : ∀ r : Nat, r < js.length → m 136 (6 + r) = (js.getD r []).getD 0 0) (hb : ∀ j : Nat, j < 6 → ∀ v : Nat, v ≤ 60 → bl (g 139 (6 + j)) v = tld rows (Int32.ofNat j) (Int32.ofNat v)) : CT nf xs d 170 [.ref 128] m g G (PT B rows js i kn m g) := by
  refine CT.of (c := 11) (ini := false) (nL := 3) (rt := none) (tab := zt170) rfl (fun d' r h' N hd hr => ?_)
  replace hr : RR nf xs d' 11 false 3 none zt170 G r h' N (0, [(0, .ref 128)], [], m, g) := hr
  have tr : TR (tK B i) (tV B i) (m 128 26) (m 128 27) := h.2.1.2.2.2.2
  replace hr := hr.go (s_aload_n t170_0 rfl)
  replace hr := hr.go (s_getf t170_1)
  replace hr := hr.go (s_k t170_4)
  by_cases c3 : tK B i = 3
  · rcases hr.bEq t170_5 with ⟨b5, hr⟩ | ⟨b5, hr⟩
    · replace hr := hr.go (s_aload_n t170_13 rfl)
      replace hr := hr.go (s_getf t170_14)
      rcases hr.zNe t170_17 with ⟨b17, hr⟩ | ⟨b17, hr⟩
      · exact absurd h.1 b17
      · replace hr := hr.go (s_aload_n t170_20 rfl)
        replace hr := hr.go (s_getr t170_21 (hJ))
        replace hr := hr.go (s_k t170_24)
        replace hr := hr.go (s_aload_n t170_26 rfl)
        replace hr := hr.go (s_k t170_27)
        replace hr := hr.cvI t170_28 rfl rfl (ct_fresher hN.1 hN.2.1)
        rw [h2] at hr
        replace hr := hr.go (s_aload_n t170_31 rfl)
        replace hr := hr.go (s_getf t170_32)
        rw [tr_nm tr c3] at hr
        replace hr := hr.csI t170_35 rfl rfl (ct_found (a := 136) (fr := 6) (len := 12) (rows := js) hJ2 (by omega) (by decide) hrow)
        replace hr := hr.go (s_goto t170_38)
        cases hf : fnd (tV B i) js 0 with
        | none =>
          have hn : namF B 3 rows js i = .inl (4, i) := by unfold namF; rw [if_neg (fun q => q c3), if_pos rfl, hf]
          rw [hf] at hr
          replace hr : RR nf xs d' 11 false 3 none zt170 G r h' N (42, [(0, .ref 128)], [.int (-1)], m, g) := hr
          replace hr := hr.go (s_istore_n (ls' := [(1, _), (0, _)]) t170_42 rfl)
          replace hr := hr.go (s_aload_n t170_43 rfl)
          replace hr := hr.go (s_getf t170_44)
          rcases hr.zNe t170_47 with ⟨b47, hr⟩ | ⟨b47, hr⟩
          · exact absurd h.1 b47
          · replace hr := hr.go (s_iload_n t170_50 rfl)
            replace hr := hr.go (s_k t170_51)
            rcases hr.bNe t170_52 with ⟨b52, hr⟩ | ⟨b52, hr⟩
            · exact absurd b52 (by decide)
            · replace hr := hr.go (s_aload_n t170_55 rfl)
              replace hr := hr.go (s_k t170_56)
              obtain ⟨m3, ⟨h3, hf3⟩, hr⟩ := hr.fvN t170_57 rfl rfl (ct_wrongG (f := 4) h (by decide) (by decide))
              replace h3 : sX B (.inl (4, i)) m3 := h3
              obtain ⟨m4, g4, hs, rfl, h4, hF, hg⟩ := tl60F hG hE h3 hr
              exact ⟨m4, g4, hs, PT_bad (by unfold telF; rw [hn]) h4 ((FM.er hf3.1 (fun k hk => hf3.2 k (by omega)) FM.rf).tr hF) (FG.of hg)⟩
        | some j =>
          have hj := fnd_lt js 0 j hf
          have hn : namF B 3 rows js i = .inr (Int32.ofNat j) := by unfold namF; rw [if_neg (fun q => q c3), if_pos rfl, hf]
          rw [hf] at hr
          replace hr : RR nf xs d' 11 false 3 none zt170 G r h' N (42, [(0, .ref 128)], [.int (Int32.ofNat j)], m, g) := hr
          replace hr := hr.go (s_istore_n (ls' := [(1, _), (0, _)]) t170_42 rfl)
          replace hr := hr.go (s_aload_n t170_43 rfl)
          replace hr := hr.go (s_getf t170_44)
          rcases hr.zNe t170_47 with ⟨b47, hr⟩ | ⟨b47, hr⟩
          · exact absurd h.1 b47
          · replace hr := hr.go (s_iload_n t170_50 rfl)
            replace hr := hr.go (s_k t170_51)
            rcases hr.bNe t170_52 with ⟨b52, hr⟩ | ⟨b52, hr⟩
            · exact tl60G hG hE hN hT (by omega) h hn (hb j (by omega)) hr
            · exact absurd (congrArg Int32.toInt b52) (by rw [xn_int (by omega)]; have : (-1 : Int32).toInt = -1 := rfl; omega)
    · exact absurd ((tr_name tr).mpr c3) b5
  · have hn : namF B 3 rows js i = .inl (1, i) := by unfold namF; rw [if_pos c3]
    rcases hr.bEq t170_5 with ⟨b5, hr⟩ | ⟨b5, hr⟩
    · exact absurd ((tr_name tr).mp b5) c3
    · replace hr := hr.go (s_aload_n t170_8 rfl)
      replace hr := hr.go (s_k t170_9)
      obtain ⟨m3, ⟨h3, hf3⟩, hr⟩ := hr.fvN t170_10 rfl rfl (ct_wrongG (f := 1) h (by decide) (by decide))
      replace h3 : sX B (.inl (1, i)) m3 := h3
      replace hr := hr.go (s_aload_n t170_13 rfl)
      replace hr := hr.go (s_getf t170_14)
      rcases hr.zNe t170_17 with ⟨b17, hr⟩ | ⟨b17, hr⟩
      · replace hr := hr.go (s_k t170_41)
        replace hr := hr.go (s_istore_n (ls' := [(1, _), (0, _)]) t170_42 rfl)
        replace hr := hr.go (s_aload_n t170_43 rfl)
        replace hr := hr.go (s_getf t170_44)
        rcases hr.zNe t170_47 with ⟨b47, hr⟩ | ⟨b47, hr⟩
        · obtain ⟨m4, g4, hs, rfl, h4, hF, hg⟩ := tl60F hG hE h3 hr
          exact ⟨m4, g4, hs, PT_bad (by unfold telF; rw [hn]) h4 ((FM.er hf3.1 (fun k hk => hf3.2 k (by omega)) FM.rf).tr hF) (FG.of hg)⟩
        · exact absurd b47 h3.2.1
      · exact absurd b17 h3.2.1
