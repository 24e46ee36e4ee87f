/-! named, of both sides. -/
theorem t102_0 : xt zt102 0 1 (.iload_n 1) := ⟨rfl, rfl⟩
theorem t102_1 : xtb zt102 1 4 16 (.ifCond .ne 15) (15) := ⟨rfl, rfl, rfl⟩
theorem t102_4 : xt zt102 4 5 (.aload_n 0) := ⟨rfl, rfl⟩
theorem t102_5 : xtf zt102 10 5 8 (.getfield 33) 33 10 5 3 := ⟨rfl, rfl, rfl, rfl⟩
theorem t102_8 : xtf zt102 10 8 11 (.getfield 113) 113 3 1 3 := ⟨rfl, rfl, rfl, rfl⟩
theorem t102_11 : xt zt102 11 12 (.iload_n 2) := ⟨rfl, rfl⟩
theorem t102_12 : xtc zt102 10 12 15 (.invokevirtual 117) 117 1 87 1 := ⟨rfl, rfl, rfl⟩
theorem t102_15 : xt zt102 15 16 .ireturn := ⟨rfl, rfl⟩
theorem t102_16 : xt zt102 16 17 (.iload_n 1) := ⟨rfl, rfl⟩
theorem t102_17 : xtk zt102 17 18 (1) := Or.inl ⟨1, ⟨rfl, rfl⟩, by decide⟩
theorem t102_18 : xtb zt102 18 21 35 (.if_icmp .ne 17) (17) := ⟨rfl, rfl, rfl⟩
theorem t102_21 : xt zt102 21 22 (.aload_n 0) := ⟨rfl, rfl⟩
theorem t102_22 : xtf zt102 10 22 25 (.getfield 33) 33 10 5 3 := ⟨rfl, rfl, rfl, rfl⟩
theorem t102_25 : xtf zt102 10 25 28 (.getfield 123) 123 3 2 3 := ⟨rfl, rfl, rfl, rfl⟩
theorem t102_28 : xt zt102 28 29 (.iload_n 2) := ⟨rfl, rfl⟩
theorem t102_29 : xtc zt102 10 29 32 (.invokevirtual 117) 117 1 87 1 := ⟨rfl, rfl, rfl⟩
theorem t102_32 : xtb zt102 32 35 36 (.goto 4) (4) := ⟨rfl, rfl, rfl⟩
theorem t102_35 : xtk zt102 35 36 (-1) := Or.inl ⟨-1, ⟨rfl, rfl⟩, by decide⟩
theorem t102_36 : xt zt102 36 37 .ireturn := ⟨rfl, rfl⟩
theorem t183_0 : xt zt183 0 1 (.aload_n 0) := ⟨rfl, rfl⟩
theorem t183_1 : xtk zt183 1 2 (0) := Or.inl ⟨0, ⟨rfl, rfl⟩, by decide⟩
theorem t183_2 : xtf zt183 11 2 5 (.putfield 166) 166 11 0 1 := ⟨rfl, rfl, rfl, rfl⟩
theorem t183_5 : xt zt183 5 6 (.iload_n 1) := ⟨rfl, rfl⟩
theorem t183_6 : zt183 6 = some (.lookupswitch 58 #[(0, 26), (1, 42)], 26) := rfl
theorem t183_32 : xt zt183 32 33 (.aload_n 0) := ⟨rfl, rfl⟩
theorem t183_33 : xtf zt183 11 33 36 (.getfield 16) 16 11 4 3 := ⟨rfl, rfl, rfl, rfl⟩
theorem t183_36 : xtk zt183 36 37 (0) := Or.inl ⟨0, ⟨rfl, rfl⟩, by decide⟩
theorem t183_37 : xt zt183 37 38 (.aload_n 0) := ⟨rfl, rfl⟩
theorem t183_38 : xtf zt183 11 38 41 (.getfield 13) 13 11 3 3 := ⟨rfl, rfl, rfl, rfl⟩
theorem t183_41 : xtk zt183 41 42 (1) := Or.inl ⟨1, ⟨rfl, rfl⟩, by decide⟩
theorem t183_42 : xt zt183 42 43 .iaload := ⟨rfl, rfl⟩
theorem t183_43 : xt zt183 43 44 (.iload_n 2) := ⟨rfl, rfl⟩
theorem t183_44 : xtc zt183 11 44 47 (.invokestatic 232) 232 2 163 4 := ⟨rfl, rfl, rfl⟩
theorem t183_47 : xt zt183 47 48 .ireturn := ⟨rfl, rfl⟩
theorem t183_48 : xt zt183 48 49 (.aload_n 0) := ⟨rfl, rfl⟩
theorem t183_49 : xtf zt183 11 49 52 (.getfield 31) 31 11 9 3 := ⟨rfl, rfl, rfl, rfl⟩
theorem t183_52 : xtk zt183 52 53 (0) := Or.inl ⟨0, ⟨rfl, rfl⟩, by decide⟩
theorem t183_53 : xt zt183 53 54 (.aload_n 0) := ⟨rfl, rfl⟩
theorem t183_54 : xtf zt183 11 54 57 (.getfield 13) 13 11 3 3 := ⟨rfl, rfl, rfl, rfl⟩
theorem t183_57 : xtk zt183 57 58 (2) := Or.inl ⟨2, ⟨rfl, rfl⟩, by decide⟩
theorem t183_58 : xt zt183 58 59 .iaload := ⟨rfl, rfl⟩
theorem t183_59 : xt zt183 59 60 (.iload_n 2) := ⟨rfl, rfl⟩
theorem t183_60 : xtc zt183 11 60 63 (.invokestatic 232) 232 2 163 4 := ⟨rfl, rfl, rfl⟩
theorem t183_63 : xt zt183 63 64 .ireturn := ⟨rfl, rfl⟩
theorem t183_64 : xtk zt183 64 65 (-1) := Or.inl ⟨-1, ⟨rfl, rfl⟩, by decide⟩
theorem t183_65 : xt zt183 65 66 .ireturn := ⟨rfl, rfl⟩
def namV (T : Nat → List (List Int32)) (x y : Int32) : Int32 := if x = 0 then oI (fnd y (T 1) 0) else if x = 1 then oI (fnd y (T 2) 0) else -1
theorem ct_namedC {nf : Bool} {xs : List Int32} {d : Nat} {m : xM} {g : xL} {G : xG} {P len1 len2 : Nat} {T : Nat → List (List Int32)} {x y : Int32} (h5 : G.1 0 5 = some P) (k1 : G.1 P 1 = some (P + 3)) (k2 : G.1 P 2 = some (P + 5)) (c1 : G.1 (P + 3) 2 = some (P + 4)) (c2 : G.1 (P + 5) 2 = some (P + 6)) (l1 : G.2 (P + 4) = (0, 1, len1)) (l2 : G.2 (P + 6) = (0, 1, len2)) (t1 : tbC (P + 3) (P + 4) 5 6 (T 1) m) (t2 : tbC (P + 5) (P + 6) 3 6 (T 2) m) : CT nf xs d 102 [.ref 0, .int x, .int y] m g G (PE (some (.int (namV T x y))) m g) := by
  refine CT.of (c := 10) (ini := false) (nL := 3) (rt := some .int) (tab := zt102) rfl (fun d' r h' N hd hr => ?_)
  replace hr : RR nf xs d' 10 false 3 (some .int) zt102 G r h' N (0, [(0, .ref 0), (1, .int x), (2, .int y)], [], m, g) := hr
  have q1 : (1 : Int32).toInt = 1 := rfl
  replace hr := hr.go (s_iload_n t102_0 rfl)
  rcases hr.zNe t102_1 with ⟨b1, hr⟩ | ⟨b1, hr⟩
  · replace hr := hr.go (s_iload_n t102_16 rfl)
    replace hr := hr.go (s_k t102_17)
    rcases hr.bNe t102_18 with ⟨b18, hr⟩ | ⟨b18, hr⟩
    · replace hr := hr.go (s_k t102_35)
      obtain ⟨rfl, hs⟩ := hr.iret t102_36
      exact ⟨_, _, hs, by unfold namV; rw [if_neg b1, if_neg b18], rfl, rfl⟩
    · replace hr := hr.go (s_aload_n t102_21 rfl)
      replace hr := hr.go (s_getr t102_22 (h5))
      replace hr := hr.go (s_getr t102_25 (k2))
      replace hr := hr.go (s_iload_n t102_28 rfl)
      replace hr := hr.cvI t102_29 rfl rfl (ct_find (c := P + 6) (cols := 3) (most := 6) (rows := T 2) c2 l2 t2 (by decide) (by decide) (by decide))
      replace hr := hr.go (s_goto t102_32)
      obtain ⟨rfl, hs⟩ := hr.iret t102_36
      exact ⟨_, _, hs, by unfold namV; rw [if_neg b1, if_pos b18], rfl, rfl⟩
  · replace hr := hr.go (s_aload_n t102_4 rfl)
    replace hr := hr.go (s_getr t102_5 (h5))
    replace hr := hr.go (s_getr t102_8 (k1))
    replace hr := hr.go (s_iload_n t102_11 rfl)
    replace hr := hr.cvI t102_12 rfl rfl (ct_find (c := P + 4) (cols := 5) (most := 6) (rows := T 1) c1 l1 t1 (by decide) (by decide) (by decide))
    obtain ⟨rfl, hs⟩ := hr.iret t102_15
    exact ⟨_, _, hs, by unfold namV; rw [if_pos b1], rfl, rfl⟩
theorem look_n {x : Int32} (h0 : ¬ x = 0) (h1 : ¬ x = 1) : Op.lookupswitch.offset [(0, 26), (1, 42)] 58 x.toInt = 58 := by
  have a0 : ¬ (0 : Int) = x.toInt := fun q => h0 (Int32.toInt_inj.mp q.symm)
  have a1 : ¬ (1 : Int) = x.toInt := fun q => h1 (Int32.toInt_inj.mp q.symm)
  simp only [Op.lookupswitch.offset_cons, Op.lookupswitch.offset_nil]
  first
    | rw [if_neg a0, if_neg a1]
    | rw [if_neg (fun q => a0 q.symm), if_neg (fun q => a1 q.symm)]
theorem ct_namedR {nf : Bool} {xs : List Int32} {d : Nat} {m : xM} {g : xL} {G : xG} {T : Nat → List (List Int32)} {x y : Int32} (h3 : G.1 128 3 = some 130) (h4 : G.1 128 4 = some 131) (h9 : G.1 128 9 = some 136) (l0 : G.2 130 = (0, 1, 18)) (l1 : G.2 131 = (0, 1, 12)) (l2 : G.2 136 = (0, 1, 12)) (hT : TB T m) : CT nf xs d 183 [.ref 128, .int x, .int y] m g G (fun r _ _ => r = some (.int (namV T x y))) := by
  refine CT.of (c := 11) (ini := false) (nL := 3) (rt := some .int) (tab := zt183) rfl (fun d' r h' N hd' hr => ?_)
  replace hr : RR nf xs d' 11 false 3 (some .int) zt183 G r h' N (0, [(0, .ref 128), (1, .int x), (2, .int y)], [], m, g) := hr
  have b6 : (T 1).length ≤ 6 := hT.1 1 (by decide)
  have b62 : (T 2).length ≤ 6 := hT.1 2 (by decide)
  have e1 : xu m 128 0 0 130 (Int32.toNatClampNeg 1) = Int32.ofNat (T 1).length := (congrFun (xu_row (by decide)) _).trans (hT.2.1 1 (by decide) (by decide))
  have e2 : xu m 128 0 0 130 (Int32.toNatClampNeg 2) = Int32.ofNat (T 2).length := (congrFun (xu_row (by decide)) _).trans (hT.2.1 2 (by decide) (by decide))
  replace hr := hr.go (s_aload_n t183_0 rfl)
  replace hr := hr.go (s_k t183_1)
  replace hr := hr.go (s_putf t183_2)
  replace hr := hr.go (s_iload_n t183_5 rfl)
  by_cases x0 : x = 0
  · subst x0
    replace hr := hr.go (s_lookup (q := 32) t183_6 (by decide))
    replace hr := hr.go (s_aload_n t183_32 rfl)
    replace hr := hr.go (s_getr t183_33 (h4))
    replace hr := hr.go (s_k t183_36)
    replace hr := hr.go (s_aload_n t183_37 rfl)
    replace hr := hr.go (s_getr t183_38 (h3))
    replace hr := hr.go (s_k t183_41)
    replace hr := hr.go (s_iaload t183_42 (l0))
    rw [e1] at hr
    replace hr := hr.go (s_iload_n t183_43 rfl)
    replace hr := hr.csI t183_44 rfl rfl (ct_found (a := 131) (fr := 0) (len := 12) (rows := T 1) l1 (by omega) (by decide) (fun i hi => (congrFun (xu_row (by decide)) _).trans (by rw [Nat.zero_add]; exact hT.2.2.1 1 (by decide) i hi 0 (by decide))))
    obtain ⟨rfl, hs⟩ := hr.iret t183_47
    exact ⟨_, _, hs, by unfold namV; rw [if_pos rfl]⟩
  · by_cases x1 : x = 1
    · subst x1
      replace hr := hr.go (s_lookup (q := 48) t183_6 (by decide))
      replace hr := hr.go (s_aload_n t183_48 rfl)
      replace hr := hr.go (s_getr t183_49 (h9))
      replace hr := hr.go (s_k t183_52)
      replace hr := hr.go (s_aload_n t183_53 rfl)
      replace hr := hr.go (s_getr t183_54 (h3))
      replace hr := hr.go (s_k t183_57)
      replace hr := hr.go (s_iaload t183_58 (l0))
      rw [e2] at hr
      replace hr := hr.go (s_iload_n t183_59 rfl)
      replace hr := hr.csI t183_60 rfl rfl (ct_found (a := 136) (fr := 0) (len := 12) (rows := T 2) l2 (by omega) (by decide) (fun i hi => (congrFun (xu_row (by decide)) _).trans (by rw [Nat.zero_add]; exact hT.2.2.1 2 (by decide) i hi 0 (by decide))))
      obtain ⟨rfl, hs⟩ := hr.iret t183_63
      exact ⟨_, _, hs, by unfold namV; rw [if_neg x0, if_pos rfl]⟩
    · replace hr := hr.go (s_lookup (q := 64) t183_6 (by
        show (6 : Int) + Op.lookupswitch.offset [(0, 26), (1, 42)] 58 x.toInt = 64
        rw [look_n x0 x1]
        rfl))
      replace hr := hr.go (s_k t183_64)
      obtain ⟨rfl, hs⟩ := hr.iret t183_65
      exact ⟨_, _, hs, by unfold namV; rw [if_neg x0, if_neg x1]⟩
theorem P_l : ([7, 31] : List Nat).all (fun P => Nat.blt (P + 4) qW.1.length && (Nat.blt (P + 6) qW.1.length && (decide (((afm qW (asrt qW (P + 4))).1, [0, 1, 1, 2, 3].getD (afm qW (asrt qW (P + 4))).2.1 9) = (0, 1)) && decide (((afm qW (asrt qW (P + 6))).1, [0, 1, 1, 2, 3].getD (afm qW (asrt qW (P + 6))).2.1 9) = (0, 1))))) = true := by decide +kernel
theorem named_pair {nf : Bool} {xs : List Int32} {d : Nat} {h h1 h2 : zH} {r1 r2 : Option Value} {x y : Int32} (hX : lX h) (hS : aSh qW h) (hS1 : aSh qW h1) (e1 : zEv (zXt nf xs) zIT zmcl zMt d 102 [.ref 0, .int x, .int y] h r1 h1) (e2 : zEv (zXt nf xs) zIT zmcl zMt d 183 [.ref 128, .int x, .int y] h1 r2 h2) (hr1 : ∀ t ∈ rfs, rd h1 t.1 t.2.1 = some (.ref t.2.2)) (hF : FM (gi h) (gi h1)) : r1 = r2 := by
  obtain ⟨x1, ⟨-, x2, -⟩, -, P, T, hP, y5, yc, yr⟩ := hX
  have hl : ∃ len1 len2 : Nat, gs h (P + 4) = (0, 1, len1) ∧ gs h (P + 6) = (0, 1, len2) := by
    have q := List.all_eq_true.mp P_l P (by rcases hP with rfl | rfl <;> decide)
    rw [Bool.and_eq_true, Bool.and_eq_true, Bool.and_eq_true] at q
    have z1 := gs_of hS (Nat.le_of_ble_eq_true q.1 : P + 4 < qW.1.length)
    have z2 := gs_of hS (Nat.le_of_ble_eq_true q.2.1 : P + 6 < qW.1.length)
    have u1 := Prod.mk.inj (of_decide_eq_true q.2.2.1)
    have u2 := Prod.mk.inj (of_decide_eq_true q.2.2.2)
    exact ⟨_, _, by rw [z1, u1.1, u1.2], by rw [z2, u2.1, u2.2]⟩
  obtain ⟨len1, len2, l1, l2⟩ := hl
  have m1 := fun w hw => P_m1 hP w hw
  have m2 := fun w hw => P_m2 hP w hw
  obtain ⟨n1, g1, hs1, c1, -⟩ := ct_namedC (T := T) (G := (gr h, gs h)) (gr_of y5) (rf_of x2 (m1 1 (by decide))) (rf_of x2 (m1 2 (by decide))) (rf_of x2 (m2 1 (by decide))) (rf_of x2 (m2 2 (by decide))) l1 l2 (yc 1 (by decide)) (yc 2 (by decide)) h r1 h1 (HS_of x1) e1
  have hG := gt_of hS1 hr1
  obtain ⟨n2, g2, hs2, c2⟩ := ct_namedR (T := T) (G := (gr h1, gs h1)) (rf_of hr1 (by decide +kernel)) (hG.1.2.2.1 4 (by decide) (by decide)) (hG.1.2.2.1 9 (by decide) (by decide)) (hG.2.2.1 130 18 (by decide)) (hG.2.2.1 131 12 (by decide)) (hG.2.2.1 136 12 (by decide)) (yr.of hF) h1 r2 h2 (HS_of (zEv_KT _ _ _ _ _ _ e1 x1)) e2
  rw [c1, c2]
