/-! The class Scanner: signs and numbers. -/
theorem xne {x y : Int32} (h : ¬ x = y) : ¬ x.toInt = y.toInt := fun q => h (Int32.toInt_inj.mp q)
theorem RR.mono {nf : Bool} {xs : List Int32} {d c : Nat} {ini : Bool} {nL : Nat} {rt : Option FieldType} {tab : Nat → Option (Instr × Nat)} {G : xG} {r : Option Value} {h' : zH} {N N' : Nat} {a : xS} (hr : RR nf xs d c ini nL rt tab G r h' N a) (h : N ≤ N') : RR nf xs d c ini nL rt tab G r h' N' a := by
  obtain ⟨n, h1, h2⟩ := hr
  exact ⟨n, by omega, h2⟩
theorem RR.to {nf : Bool} {xs : List Int32} {d c : Nat} {ini : Bool} {nL : Nat} {rt : Option FieldType} {tab : Nat → Option (Instr × Nat)} {G : xG} {r : Option Value} {h' : zH} {N pc : Nat} {ls : zL} {st : List Value} {m m2 : xM} {g : xL} (hr : RR nf xs d c ini nL rt tab G r h' N (pc, ls, st, m, g)) (h : m = m2) : RR nf xs d c ini nL rt tab G r h' N (pc, ls, st, m2, g) := h ▸ hr
theorem xu_row {α : Type} {m : Nat → Nat → α} {a k b : Nat} {x : α} (h : ¬ b = a) : xu m a k x b = m b := by
  funext j
  exact xu_oth (fun q => h q.1)
def sgk (x : Int32) (m : xM) : Int32 × xM :=
  if x = 59 then (4, m) else if x = 40 then (5, m) else if x = 41 then (6, m) else if x = 43 then (10, m) else if x = 45 then (11, m) else if x = 42 then (12, m) else if x = 47 then (13, m) else if x = 61 then (16, m)
  else if x = 60 then (bif tks m 61 then (15, xu m 3 3 (m 3 3 + 1)) else bif tks m 62 then (17, xu m 3 3 (m 3 3 + 1)) else (14, m))
  else if x = 62 then (bif tks m 61 then (18, xu m 3 3 (m 3 3 + 1)) else (19, m)) else (1, m)
/-- the byte that is next -/
theorem pk_at {m : xM} {b : Nat → Int32} {n p : Nat} (h1 : m 1 = b) (h3 : m 3 3 = Int32.ofNat p) (h2 : m 3 2 = Int32.ofNat n) (hp : p < n) (hn : n ≤ 700) : pk m = b p := by
  unfold pk
  rw [h3, h2, xn_int (by omega), xn_int (by omega), if_pos (by omega), xn_nat (by omega), h1]
theorem pk_end {m : xM} {n p : Nat} (h3 : m 3 3 = Int32.ofNat p) (h2 : m 3 2 = Int32.ofNat n) (hp : p = n) (hn : n ≤ 700) : pk m = -1 := by
  unfold pk
  rw [h3, h2, xn_int (by omega), xn_int (by omega), if_neg (by omega)]
def fN (v c : Int32) : Int32 := if v.toInt < 1000000 then v * 10 + (c - 48) else v

theorem ct_sign {nf : Bool} {xs : List Int32} {d : Nat} {m : xM} {g : xL} {G : xG} {x : Int32} (hG : GS G) : CT nf xs d 80 [.ref 3, .int x] m g G (PE (some (.int (sgk x m).1)) (sgk x m).2 g) := by
  refine CT.of (c := 6) (ini := false) (nL := 2) (rt := some .int) (tab := zt80) rfl (fun d' r h' N hd hr => ?_)
  replace hr : RR nf xs d' 6 false 2 (some .int) zt80 G r h' N (0, [(0, .ref 3), (1, .int x)], [], m, g) := hr
  have k1 : (1 : Int32).toInt = 1 := rfl
  have k4 : (4 : Int32).toInt = 4 := rfl
  have k5 : (5 : Int32).toInt = 5 := rfl
  have k6 : (6 : Int32).toInt = 6 := rfl
  have k10 : (10 : Int32).toInt = 10 := rfl
  have k11 : (11 : Int32).toInt = 11 := rfl
  have k12 : (12 : Int32).toInt = 12 := rfl
  have k13 : (13 : Int32).toInt = 13 := rfl
  have k14 : (14 : Int32).toInt = 14 := rfl
  have k15 : (15 : Int32).toInt = 15 := rfl
  have k16 : (16 : Int32).toInt = 16 := rfl
  have k17 : (17 : Int32).toInt = 17 := rfl
  have k18 : (18 : Int32).toInt = 18 := rfl
  have k19 : (19 : Int32).toInt = 19 := rfl
  have k40 : (40 : Int32).toInt = 40 := rfl
  have k41 : (41 : Int32).toInt = 41 := rfl
  have k42 : (42 : Int32).toInt = 42 := rfl
  have k43 : (43 : Int32).toInt = 43 := rfl
  have k44 : (44 : Int32).toInt = 44 := rfl
  have k45 : (45 : Int32).toInt = 45 := rfl
  have k46 : (46 : Int32).toInt = 46 := rfl
  have k47 : (47 : Int32).toInt = 47 := rfl
  have k48 : (48 : Int32).toInt = 48 := rfl
  have k49 : (49 : Int32).toInt = 49 := rfl
  have k50 : (50 : Int32).toInt = 50 := rfl
  have k51 : (51 : Int32).toInt = 51 := rfl
  have k52 : (52 : Int32).toInt = 52 := rfl
  have k53 : (53 : Int32).toInt = 53 := rfl
  have k54 : (54 : Int32).toInt = 54 := rfl
  have k55 : (55 : Int32).toInt = 55 := rfl
  have k56 : (56 : Int32).toInt = 56 := rfl
  have k57 : (57 : Int32).toInt = 57 := rfl
  have k58 : (58 : Int32).toInt = 58 := rfl
  have k59 : (59 : Int32).toInt = 59 := rfl
  have k60 : (60 : Int32).toInt = 60 := rfl
  have k61 : (61 : Int32).toInt = 61 := rfl
  have k62 : (62 : Int32).toInt = 62 := rfl
  replace hr := hr.go (s_iload_n t80_0 rfl)
  by_cases e1_40 : x = 40
  · subst e1_40
    replace hr := hr.go (s_tswitch (q := 110) t80_1 (by decide) (by decide) rfl rfl)
    replace hr := hr.go (s_k t80_110)
    obtain ⟨rfl, hs⟩ := hr.iret t80_111
    exact ⟨_, _, hs, rfl, rfl, rfl⟩
  by_cases e1_41 : x = 41
  · subst e1_41
    replace hr := hr.go (s_tswitch (q := 112) t80_1 (by decide) (by decide) rfl rfl)
    replace hr := hr.go (s_k t80_112)
    obtain ⟨rfl, hs⟩ := hr.iret t80_114
    exact ⟨_, _, hs, rfl, rfl, rfl⟩
  by_cases e1_42 : x = 42
  · subst e1_42
    replace hr := hr.go (s_tswitch (q := 121) t80_1 (by decide) (by decide) rfl rfl)
    replace hr := hr.go (s_k t80_121)
    obtain ⟨rfl, hs⟩ := hr.iret t80_123
    exact ⟨_, _, hs, rfl, rfl, rfl⟩
  by_cases e1_43 : x = 43
  · subst e1_43
    replace hr := hr.go (s_tswitch (q := 115) t80_1 (by decide) (by decide) rfl rfl)
    replace hr := hr.go (s_k t80_115)
    obtain ⟨rfl, hs⟩ := hr.iret t80_117
    exact ⟨_, _, hs, rfl, rfl, rfl⟩
  by_cases e1_44 : x = 44
  · subst e1_44
    replace hr := hr.go (s_tswitch (q := 176) t80_1 (by decide) (by decide) rfl rfl)
    replace hr := hr.go (s_k t80_176)
    obtain ⟨rfl, hs⟩ := hr.iret t80_177
    exact ⟨_, _, hs, rfl, rfl, rfl⟩
  by_cases e1_45 : x = 45
  · subst e1_45
    replace hr := hr.go (s_tswitch (q := 118) t80_1 (by decide) (by decide) rfl rfl)
    replace hr := hr.go (s_k t80_118)
    obtain ⟨rfl, hs⟩ := hr.iret t80_120
    exact ⟨_, _, hs, rfl, rfl, rfl⟩
  by_cases e1_46 : x = 46
  · subst e1_46
    replace hr := hr.go (s_tswitch (q := 176) t80_1 (by decide) (by decide) rfl rfl)
    replace hr := hr.go (s_k t80_176)
    obtain ⟨rfl, hs⟩ := hr.iret t80_177
    exact ⟨_, _, hs, rfl, rfl, rfl⟩
  by_cases e1_47 : x = 47
  · subst e1_47
    replace hr := hr.go (s_tswitch (q := 124) t80_1 (by decide) (by decide) rfl rfl)
    replace hr := hr.go (s_k t80_124)
    obtain ⟨rfl, hs⟩ := hr.iret t80_126
    exact ⟨_, _, hs, rfl, rfl, rfl⟩
  by_cases e1_48 : x = 48
  · subst e1_48
    replace hr := hr.go (s_tswitch (q := 176) t80_1 (by decide) (by decide) rfl rfl)
    replace hr := hr.go (s_k t80_176)
    obtain ⟨rfl, hs⟩ := hr.iret t80_177
    exact ⟨_, _, hs, rfl, rfl, rfl⟩
  by_cases e1_49 : x = 49
  · subst e1_49
    replace hr := hr.go (s_tswitch (q := 176) t80_1 (by decide) (by decide) rfl rfl)
    replace hr := hr.go (s_k t80_176)
    obtain ⟨rfl, hs⟩ := hr.iret t80_177
    exact ⟨_, _, hs, rfl, rfl, rfl⟩
  by_cases e1_50 : x = 50
  · subst e1_50
    replace hr := hr.go (s_tswitch (q := 176) t80_1 (by decide) (by decide) rfl rfl)
    replace hr := hr.go (s_k t80_176)
    obtain ⟨rfl, hs⟩ := hr.iret t80_177
    exact ⟨_, _, hs, rfl, rfl, rfl⟩
  by_cases e1_51 : x = 51
  · subst e1_51
    replace hr := hr.go (s_tswitch (q := 176) t80_1 (by decide) (by decide) rfl rfl)
    replace hr := hr.go (s_k t80_176)
    obtain ⟨rfl, hs⟩ := hr.iret t80_177
    exact ⟨_, _, hs, rfl, rfl, rfl⟩
  by_cases e1_52 : x = 52
  · subst e1_52
    replace hr := hr.go (s_tswitch (q := 176) t80_1 (by decide) (by decide) rfl rfl)
    replace hr := hr.go (s_k t80_176)
    obtain ⟨rfl, hs⟩ := hr.iret t80_177
    exact ⟨_, _, hs, rfl, rfl, rfl⟩
  by_cases e1_53 : x = 53
  · subst e1_53
    replace hr := hr.go (s_tswitch (q := 176) t80_1 (by decide) (by decide) rfl rfl)
    replace hr := hr.go (s_k t80_176)
    obtain ⟨rfl, hs⟩ := hr.iret t80_177
    exact ⟨_, _, hs, rfl, rfl, rfl⟩
  by_cases e1_54 : x = 54
  · subst e1_54
    replace hr := hr.go (s_tswitch (q := 176) t80_1 (by decide) (by decide) rfl rfl)
    replace hr := hr.go (s_k t80_176)
    obtain ⟨rfl, hs⟩ := hr.iret t80_177
    exact ⟨_, _, hs, rfl, rfl, rfl⟩
  by_cases e1_55 : x = 55
  · subst e1_55
    replace hr := hr.go (s_tswitch (q := 176) t80_1 (by decide) (by decide) rfl rfl)
    replace hr := hr.go (s_k t80_176)
    obtain ⟨rfl, hs⟩ := hr.iret t80_177
    exact ⟨_, _, hs, rfl, rfl, rfl⟩
  by_cases e1_56 : x = 56
  · subst e1_56
    replace hr := hr.go (s_tswitch (q := 176) t80_1 (by decide) (by decide) rfl rfl)
    replace hr := hr.go (s_k t80_176)
    obtain ⟨rfl, hs⟩ := hr.iret t80_177
    exact ⟨_, _, hs, rfl, rfl, rfl⟩
  by_cases e1_57 : x = 57
  · subst e1_57
    replace hr := hr.go (s_tswitch (q := 176) t80_1 (by decide) (by decide) rfl rfl)
    replace hr := hr.go (s_k t80_176)
    obtain ⟨rfl, hs⟩ := hr.iret t80_177
    exact ⟨_, _, hs, rfl, rfl, rfl⟩
  by_cases e1_58 : x = 58
  · subst e1_58
    replace hr := hr.go (s_tswitch (q := 176) t80_1 (by decide) (by decide) rfl rfl)
    replace hr := hr.go (s_k t80_176)
    obtain ⟨rfl, hs⟩ := hr.iret t80_177
    exact ⟨_, _, hs, rfl, rfl, rfl⟩
  by_cases e1_59 : x = 59
  · subst e1_59
    replace hr := hr.go (s_tswitch (q := 108) t80_1 (by decide) (by decide) rfl rfl)
    replace hr := hr.go (s_k t80_108)
    obtain ⟨rfl, hs⟩ := hr.iret t80_109
    exact ⟨_, _, hs, rfl, rfl, rfl⟩
  by_cases e1_60 : x = 60
  · subst e1_60
    replace hr := hr.go (s_tswitch (q := 130) t80_1 (by decide) (by decide) rfl rfl)
    replace hr := hr.go (s_aload_n t80_130 rfl)
    replace hr := hr.go (s_k t80_131)
    replace hr := hr.cvI t80_133 rfl rfl (ct_takes hG)
    rcases hr.zEq t80_136 with ⟨c1, hr⟩ | ⟨c1, hr⟩
    · rw [bI_0 c1, cond_false] at hr
      replace hr := hr.go (s_aload_n t80_142 rfl)
      replace hr := hr.go (s_k t80_143)
      replace hr := hr.cvI t80_145 rfl rfl (ct_takes hG)
      rcases hr.zEq t80_148 with ⟨c2, hr⟩ | ⟨c2, hr⟩
      · rw [bI_0 c2, cond_false] at hr
        replace hr := hr.go (s_k t80_156)
        obtain ⟨rfl, hs⟩ := hr.iret t80_158
        exact ⟨_, _, hs, by unfold sgk PE; rw [bI_0 c1, bI_0 c2]; exact ⟨rfl, rfl, rfl⟩⟩
      · rw [bI_1 c2, cond_true] at hr
        replace hr := hr.go (s_k t80_151)
        replace hr := hr.go (s_goto t80_153)
        obtain ⟨rfl, hs⟩ := hr.iret t80_158
        exact ⟨_, _, hs, by unfold sgk PE; rw [bI_0 c1, bI_1 c2]; exact ⟨rfl, rfl, rfl⟩⟩
    · rw [bI_1 c1, cond_true] at hr
      replace hr := hr.go (s_k t80_139)
      obtain ⟨rfl, hs⟩ := hr.iret t80_141
      exact ⟨_, _, hs, by unfold sgk PE; rw [bI_1 c1]; exact ⟨rfl, rfl, rfl⟩⟩
  by_cases e1_61 : x = 61
  · subst e1_61
    replace hr := hr.go (s_tswitch (q := 127) t80_1 (by decide) (by decide) rfl rfl)
    replace hr := hr.go (s_k t80_127)
    obtain ⟨rfl, hs⟩ := hr.iret t80_129
    exact ⟨_, _, hs, rfl, rfl, rfl⟩
  by_cases e1_62 : x = 62
  · subst e1_62
    replace hr := hr.go (s_tswitch (q := 159) t80_1 (by decide) (by decide) rfl rfl)
    replace hr := hr.go (s_aload_n t80_159 rfl)
    replace hr := hr.go (s_k t80_160)
    replace hr := hr.cvI t80_162 rfl rfl (ct_takes hG)
    rcases hr.zEq t80_165 with ⟨c3, hr⟩ | ⟨c3, hr⟩
    · rw [bI_0 c3, cond_false] at hr
      replace hr := hr.go (s_k t80_173)
      obtain ⟨rfl, hs⟩ := hr.iret t80_175
      exact ⟨_, _, hs, by unfold sgk PE; rw [bI_0 c3]; exact ⟨rfl, rfl, rfl⟩⟩
    · rw [bI_1 c3, cond_true] at hr
      replace hr := hr.go (s_k t80_168)
      replace hr := hr.go (s_goto t80_170)
      obtain ⟨rfl, hs⟩ := hr.iret t80_175
      exact ⟨_, _, hs, by unfold sgk PE; rw [bI_1 c3]; exact ⟨rfl, rfl, rfl⟩⟩
  replace hr := hr.go (s_tswitchD (q := 176) t80_1 (by have := xne e1_40; have := xne e1_41; have := xne e1_42; have := xne e1_43; have := xne e1_44; have := xne e1_45; have := xne e1_46; have := xne e1_47; have := xne e1_48; have := xne e1_49; have := xne e1_50; have := xne e1_51; have := xne e1_52; have := xne e1_53; have := xne e1_54; have := xne e1_55; have := xne e1_56; have := xne e1_57; have := xne e1_58; have := xne e1_59; have := xne e1_60; have := xne e1_61; have := xne e1_62; omega) rfl)
  replace hr := hr.go (s_k t80_176)
  obtain ⟨rfl, hs⟩ := hr.iret t80_177
  exact ⟨_, _, hs, by unfold sgk PE; (repeat rw [if_neg (by assumption)]); exact ⟨rfl, rfl, rfl⟩⟩
