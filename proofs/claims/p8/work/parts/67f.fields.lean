/-! The class Reader: names and numbers. -/
theorem tld_f {r : List Int32} {rs : List (List Int32)} {j v : Int32} (h : ¬ (r.getD 0 0 = j ∧ r.getD 1 0 = v)) : tld (r :: rs) j v = tld rs j v := by
  show ((decide (r.getD 0 0 = j) && decide (r.getD 1 0 = v)) || tld rs j v) = _
  by_cases h1 : r.getD 0 0 = j
  · rw [decide_eq_false (p := r.getD 1 0 = v) (fun q => h ⟨h1, q⟩), Bool.and_false, Bool.false_or]
  · rw [decide_eq_false h1, Bool.false_and, Bool.false_or]
theorem tld_t {r : List Int32} {rs : List (List Int32)} {j v : Int32} (h1 : r.getD 0 0 = j) (h2 : r.getD 1 0 = v) : tld (r :: rs) j v = true := by
  show ((decide (r.getD 0 0 = j) && decide (r.getD 1 0 = v)) || tld rs j v) = true
  rw [decide_eq_true h1, decide_eq_true h2]
  rfl
theorem fnd_lt {v : Int32} : ∀ (rs : List (List Int32)) (i j : Nat), fnd v rs i = some j → i ≤ j ∧ j < i + rs.length
  | [], i, j, h => by cases h
  | r :: rs, i, j, h => by
    have h : (if r.getD 0 0 = v then some i else fnd v rs (i + 1)) = some j := h
    rw [List.length_cons]
    split at h
    · cases h; omega
    · have := fnd_lt rs (i + 1) j h
      omega
theorem oI_m1 {v : Int32} {rs : List (List Int32)} (hb : rs.length ≤ 8) : oI (fnd v rs 0) = -1 ↔ fnd v rs 0 = none := by
  cases h : fnd v rs 0 with
  | none => exact ⟨fun _ => rfl, fun _ => rfl⟩
  | some j =>
    have := fnd_lt rs 0 j h
    refine ⟨fun q => ?_, fun q => by cases q⟩
    have q2 := congrArg Int32.toInt (show Int32.ofNat j = -1 from q)
    rw [xn_int (by omega)] at q2
    have k1 : (-1 : Int32).toInt = -1 := rfl
    omega
theorem tbC_part {t c cols most : Nat} {rows : List (List Int32)} {m m' : xM} (h : tbC t c cols most rows m) (h1 : m' t = m t) (h2 : ∀ k : Nat, k < rows.length * cols → m' c k = m c k) : tbC t c cols most rows m' := by
  refine ⟨by rw [h1]; exact h.1, by rw [h1]; exact h.2.1, by rw [h1]; exact h.2.2.1, h.2.2.2.1, fun r hr k hk => ?_⟩
  rw [h2 (r * cols + k) ?_]
  · exact h.2.2.2.2 r hr k hk
  · have := Nat.mul_le_mul_right cols (show r + 1 ≤ rows.length by omega)
    rw [Nat.add_mul, Nat.one_mul] at this
    omega
theorem tbC_xu {t c cols most k : Nat} {v : Int32} {rows : List (List Int32)} {m : xM} (h : tbC t c cols most rows m) (h1 : ¬ t = c) : tbC t c cols most rows (xu m c (rows.length * cols + k) v) := tbC_part h (xu_row h1) (fun j hj => xu_oth (by omega))
theorem lp35 {nf : Bool} {xs : List Int32} {d : Nat} {g : xL} {G : xG} {r : Option Value} {h' : zH} {m : xM} {x1 x2 : Int32} {t cc most len : Nat} {rows : List (List Int32)} (hc : G.1 t 2 = some cc) (hl : G.2 cc = (0, 1, len)) (ht : tbC t cc 2 most rows m) (h8 : most ≤ 8) (hfull : rows.length < most) : ∀ (N i : Nat), i ≤ rows.length → RR nf xs d 4 false 4 (some .boolean) zt35 G r h' N (22, [(3, .int (Int32.ofNat i)), (2, .int x2), (1, .int x1), (0, .ref t)], [], m, g) → ∃ (m' : xM) (g' : xL), HS h' m' g' G ∧ PE (some (.int (bI (tld (rows.drop i) x1 x2)))) m g r m' g' := by
  have hb := ht.2.2.2.1
  have q2 : (Int32.ofNat rows.length).toInt = (rows.length : Int) := xn_int (by omega)
  intro N
  induction N with
  | zero => intro i _ hr; exact hr.no.elim
  | succ N ih =>
    intro i hle hr
    have q1 : (Int32.ofNat i).toInt = (i : Int) := xn_int (by omega)
    replace hr := hr.go1 (s_iload_n t35_22 rfl)
    replace hr := hr.go (s_aload_n t35_23 rfl)
    replace hr := hr.go (s_getf t35_24)
    rw [ht.2.2.1] at hr
    rcases hr.bGe t35_27 with ⟨b27, hr⟩ | ⟨b27, hr⟩
    · replace hr := hr.go (s_k t35_58)
      obtain ⟨rfl, hs⟩ := hr.iret t35_59
      rw [List.drop_eq_nil_of_le (by omega)]
      exact ⟨_, _, hs, rfl, rfl, rfl⟩
    · have hi : i < rows.length := by omega
      have hd : rows.drop i = rows.getD i [] :: rows.drop (i + 1) := by
        rw [List.getD_eq_getElem?_getD, List.getElem?_eq_getElem hi]
        exact List.drop_eq_getElem_cons hi
      replace hr := hr.go (s_aload_n t35_30 rfl)
      replace hr := hr.go (s_iload_n t35_31 rfl)
      replace hr := hr.go (s_k t35_32)
      replace hr := hr.cvI t35_33 rfl rfl (ct_at (ro := i) (k := 0) hc hl ht.1 ht.2.1 h8 (by omega) (by omega) (by omega))
      rw [ht.2.2.2.2 i hi 0 (by omega)] at hr
      replace hr := hr.go (s_iload_n t35_36 rfl)
      rcases hr.bNe t35_37 with ⟨b37, hr⟩ | ⟨b37, hr⟩
      · replace hr := hr.go (s_iinc (ls' := [(3, _), (2, _), (1, _), (0, _)]) t35_52 rfl rfl)
        replace hr := hr.go (s_goto t35_55)
        rw [hd, tld_f (fun q => b37 q.1)]
        exact ih (i + 1) (by omega) (by rw [← xn_1i]; exact hr)
      · replace hr := hr.go (s_aload_n t35_40 rfl)
        replace hr := hr.go (s_iload_n t35_41 rfl)
        replace hr := hr.go (s_k t35_42)
        replace hr := hr.cvI t35_43 rfl rfl (ct_at (ro := i) (k := 1) hc hl ht.1 ht.2.1 h8 (by omega) (by omega) (by omega))
        rw [ht.2.2.2.2 i hi 1 (by omega)] at hr
        replace hr := hr.go (s_iload_n t35_46 rfl)
        rcases hr.bNe t35_47 with ⟨b47, hr⟩ | ⟨b47, hr⟩
        · replace hr := hr.go (s_iinc (ls' := [(3, _), (2, _), (1, _), (0, _)]) t35_52 rfl rfl)
          replace hr := hr.go (s_goto t35_55)
          rw [hd, tld_f (fun q => b47 q.2)]
          exact ih (i + 1) (by omega) (by rw [← xn_1i]; exact hr)
        · replace hr := hr.go (s_k t35_50)
          obtain ⟨rfl, hs⟩ := hr.iret t35_51
          rw [hd, tld_t b37 b47]
          exact ⟨_, _, hs, rfl, rfl, rfl⟩
theorem ct_isTold {nf : Bool} {xs : List Int32} {d : Nat} {m : xM} {g : xL} {G : xG} {t cc most len : Nat} {rows : List (List Int32)} (hc : G.1 t 2 = some cc) (hl : G.2 cc = (0, 1, len)) (ht : tbC t cc 2 most rows m) (h8 : most ≤ 8) (hfull : rows.length < most) : CT nf xs d 35 [.ref t] m g G (PE (some (.int (bI (tld rows (m cc (rows.length * 2 + 0)) (m cc (rows.length * 2 + 1)))))) m g) := by
  refine CT.of (c := 4) (ini := false) (nL := 4) (rt := some .boolean) (tab := zt35) rfl (fun d' r h' N hd hr => ?_)
  replace hr : RR nf xs d' 4 false 4 (some .boolean) zt35 G r h' N (0, [(0, .ref t)], [], m, g) := hr
  have k1 : (1 : Int32).toInt = 1 := rfl
  replace hr := hr.go (s_aload_n t35_0 rfl)
  replace hr := hr.go (s_aload_n t35_1 rfl)
  replace hr := hr.go (s_getf t35_2)
  replace hr := hr.go (s_k t35_5)
  rw [ht.2.2.1] at hr
  replace hr := hr.cvI t35_6 rfl rfl (ct_at (ro := rows.length) (k := 0) hc hl ht.1 ht.2.1 h8 (by omega) hfull (by omega))
  replace hr := hr.go (s_istore_n (ls' := [(1, _), (0, _)]) t35_9 rfl)
  replace hr := hr.go (s_aload_n t35_10 rfl)
  replace hr := hr.go (s_aload_n t35_11 rfl)
  replace hr := hr.go (s_getf t35_12)
  replace hr := hr.go (s_k t35_15)
  rw [ht.2.2.1] at hr
  replace hr := hr.cvI t35_16 rfl rfl (ct_at (ro := rows.length) (k := 1) hc hl ht.1 ht.2.1 h8 (by omega) hfull (by omega))
  replace hr := hr.go (s_istore_n (ls' := [(2, _), (1, _), (0, _)]) t35_19 rfl)
  replace hr := hr.go (s_k t35_20)
  replace hr := hr.go (s_istore_n (ls' := [(3, _), (2, _), (1, _), (0, _)]) t35_21 rfl)
  exact lp35 hc hl ht h8 hfull N 0 (Nat.zero_le _) hr

theorem ct_readNumber {nf : Bool} {xs : List Int32} {d : Nat} {m : xM} {g : xL} {G : xG} {B : eB} {i P t cc cols most len w c : Nat} {rows : List (List Int32)} {row : List Int32} (hG : GP G P) (hE : EV B) (hs0 : sC B i m) (hc : G.1 t 2 = some cc) (hl : G.2 cc = (0, 1, len)) (ht : tbC t cc cols most rows m) (h8 : most ≤ 8) (h5 : cols ≤ 5) (hfull : rows.length < most) (hw : w < 8) (hcc : c < cols) (hrow : ∀ k : Nat, k < c → m cc (rows.length * cols + k) = row.getD k 0) (hw3 : w = 3 → cols = 2 ∧ c = 1) (h7 : 7 ≤ t) (h7c : 7 ≤ cc) (htc : ¬ t = cc) : CT nf xs d 32 [.ref 2, .ref t, .int (Int32.ofNat (32 + w)), .int (Int32.ofNat c)] m g G (OC B (numF B w c row rows i) g (fun v m' => sC B (i + 1) m' ∧ ∀ a : Nat, ¬ a = 3 → m' a = xu m cc (rows.length * cols + c) v a)) := by
  refine CT.of (c := 4) (ini := false) (nL := 5) (rt := some .boolean) (tab := zt32) rfl (fun d' r h' N hd hr => ?_)
  replace hr : RR nf xs d' 4 false 5 (some .boolean) zt32 G r h' N (0, [(0, .ref 2), (1, .ref t), (2, .int (Int32.ofNat (32 + w))), (3, .int (Int32.ofNat c))], [], m, g) := hr
  have k1 : (1 : Int32).toInt = 1 := rfl
  have k2 : (2 : Int32).toInt = 2 := rfl
  have k3 : (3 : Int32).toInt = 3 := rfl
  have k35 : (35 : Int32).toInt = 35 := rfl
  have z35 : Int32.ofNat (32 + w) = (35 : Int32) ↔ 32 + w = 35 := xn_eq (b := 35) (by omega) (by decide)
  replace hr := hr.go (s_aload_n t32_0 rfl)
  replace hr := hr.go (s_getr t32_1 (hG.2.1))
  replace hr := hr.go (s_getf t32_4)
  replace hr := hr.go (s_k t32_7)
  rw [hs0.2.2.2.2.1] at hr
  rcases hr.bEq t32_8 with ⟨b8, hr⟩ | ⟨b8, hr⟩
  · replace hr := hr.go (s_aload_n t32_17 rfl)
    replace hr := hr.go (s_getr t32_18 (hG.2.1))
    replace hr := hr.go (s_getf t32_21)
    rw [hs0.2.2.2.2.2.1] at hr
    replace hr := hr.go (s_istore (ls' := [(4, _), (0, _), (1, _), (2, _), (3, _)]) t32_24 rfl)
    replace hr := hr.go (s_iload t32_26 rfl)
    replace hr := hr.go (s_aload_n t32_28 rfl)
    replace hr := hr.go (s_iload_n t32_29 rfl)
    replace hr := hr.go (s_iload_n t32_30 rfl)
    replace hr := hr.csI t32_31 rfl rfl (ct_least (B := B) (row := row) hc hl ht h8 h5 hfull hw hcc (fun h => hrow 0 h))
    rcases hr.bLt t32_34 with ⟨b34, hr⟩ | ⟨b34, hr⟩
    · skip
      replace hr := hr.go (s_aload_n t32_47 rfl)
      replace hr := hr.go (s_k t32_48)
      obtain ⟨_, m1, _, ⟨rfl, rfl, ho⟩, hr⟩ := hr.callv t32_49 rfl rfl (ct_ref (B := B) (i := i) (f := 2) (α := Int32) (Q := fun _ _ => True) hG.2.1 hs0)
      obtain ⟨rfl, hs⟩ := hr.iret t32_52
      unfold numF
      rw [if_neg (fun q => q b8), if_pos (Or.inl b34)]
      exact ⟨_, _, hs, rfl, rfl, ho⟩
    · replace hr := hr.go (s_iload t32_37 rfl)
      replace hr := hr.go (s_iload_n t32_39 rfl)
      replace hr := hr.go (s_iload_n t32_40 rfl)
      replace hr := hr.csI t32_41 rfl rfl (ct_mostOf hw (by omega))
      rcases hr.bLe t32_44 with ⟨b44, hr⟩ | ⟨b44, hr⟩
      · replace hr := hr.go (s_aload_n t32_53 rfl)
        replace hr := hr.go (s_iload_n t32_54 rfl)
        replace hr := hr.go (s_iload t32_55 rfl)
        replace hr := hr.cvN t32_57 rfl rfl (ct_put (ro := rows.length) hc ht.1 ht.2.1 ht.2.2.1 h8 h5 hfull hcc)
        replace hr := hr.go (s_iload_n t32_60 rfl)
        replace hr := hr.go (s_k t32_61)
        rcases hr.bNe t32_63 with ⟨b63, hr⟩ | ⟨b63, hr⟩
        · skip
          replace hr := hr.go (s_aload_n t32_79 rfl)
          replace hr := hr.go (s_getr t32_80 (hG.2.1))
          obtain ⟨m2, ⟨hs2, hf⟩, hr⟩ := hr.fvN t32_83 rfl rfl (ct_advS hG.1 hE (sC_row hs0 (xu_row (by omega)) (xu_row (by omega)) (xu_row (by omega))))
          replace hr := hr.go (s_k t32_86)
          obtain ⟨rfl, hs⟩ := hr.iret t32_87
          unfold numF
          rw [if_neg (fun q => q b8), if_neg (by omega), if_neg (fun q => b63 (z35.mpr (by omega)))]
          exact ⟨_, _, hs, rfl, rfl, hs2, hf⟩
        · replace hr := hr.go (s_aload_n t32_66 rfl)
          replace hr := hr.csI t32_67 rfl rfl (ct_isTold (rows := rows) hc hl (by have := tbC_xu (k := c) (v := tV B i) ht htc; obtain ⟨rfl, rfl⟩ := hw3 (by have := z35.mp b63; omega); exact this) h8 hfull)
          have hT : tld rows (xu m cc (rows.length * cols + c) (tV B i) cc (rows.length * 2 + 0)) (xu m cc (rows.length * cols + c) (tV B i) cc (rows.length * 2 + 1)) = tld rows (row.getD 0 0) (tV B i) := by
            obtain ⟨rfl, rfl⟩ := hw3 (by have := z35.mp b63; omega)
            rw [xu_same, xu_oth (by omega), hrow 0 (by omega)]
          rcases hr.zEq t32_70 with ⟨b70, hr⟩ | ⟨b70, hr⟩
          · skip
            replace hr := hr.go (s_aload_n t32_79 rfl)
            replace hr := hr.go (s_getr t32_80 (hG.2.1))
            obtain ⟨m2, ⟨hs2, hf⟩, hr⟩ := hr.fvN t32_83 rfl rfl (ct_advS hG.1 hE (sC_row hs0 (xu_row (by omega)) (xu_row (by omega)) (xu_row (by omega))))
            replace hr := hr.go (s_k t32_86)
            obtain ⟨rfl, hs⟩ := hr.iret t32_87
            unfold numF
            rw [if_neg (fun q => q b8), if_neg (by omega), if_neg (fun q => by have := hT ▸ bI_0 b70; rw [q.2] at this; cases this)]
            exact ⟨_, _, hs, rfl, rfl, hs2, hf⟩
          · replace hr := hr.go (s_aload_n t32_73 rfl)
            replace hr := hr.go (s_k t32_74)
            obtain ⟨_, m1, _, ⟨rfl, rfl, ho⟩, hr⟩ := hr.callv t32_75 rfl rfl (ct_ref (B := B) (i := i) (f := 3) (α := Int32) (Q := fun _ _ => True) hG.2.1 (sC_row hs0 (xu_row (by omega)) (xu_row (by omega)) (xu_row (by omega))))
            obtain ⟨rfl, hs⟩ := hr.iret t32_78
            unfold numF
            rw [if_neg (fun q => q b8), if_neg (by omega), if_pos ⟨by have := z35.mp b63; omega, hT ▸ bI_1 b70⟩]
            exact ⟨_, _, hs, rfl, rfl, ho⟩
      · skip
        replace hr := hr.go (s_aload_n t32_47 rfl)
        replace hr := hr.go (s_k t32_48)
        obtain ⟨_, m1, _, ⟨rfl, rfl, ho⟩, hr⟩ := hr.callv t32_49 rfl rfl (ct_ref (B := B) (i := i) (f := 2) (α := Int32) (Q := fun _ _ => True) hG.2.1 hs0)
        obtain ⟨rfl, hs⟩ := hr.iret t32_52
        unfold numF
        rw [if_neg (fun q => q b8), if_pos (Or.inr b44)]
        exact ⟨_, _, hs, rfl, rfl, ho⟩
  · replace hr := hr.go (s_aload_n t32_11 rfl)
    replace hr := hr.go (s_k t32_12)
    obtain ⟨_, m1, _, ⟨rfl, rfl, ho⟩, hr⟩ := hr.callv t32_13 rfl rfl (ct_ref (B := B) (i := i) (f := 1) (α := Int32) (Q := fun _ _ => True) hG.2.1 hs0)
    obtain ⟨rfl, hs⟩ := hr.iret t32_16
    unfold numF
    rw [if_pos b8]
    exact ⟨_, _, hs, rfl, rfl, ho⟩

theorem ct_readName {nf : Bool} {xs : List Int32} {d : Nat} {m : xM} {g : xL} {G : xG} {B : eB} {i P w : Nat} {rows js : List (List Int32)} (hG : GP G P) (hE : EV B) (hs0 : sC B i m) (hw : w < 8) (ht : tbC (P + 1 + 2 * w) (P + 2 + 2 * w) (cN w) (mN w) rows m) (hj : tbC (P + 1 + 2 * 2) (P + 2 + 2 * 2) (cN 2) (mN 2) js m) (hfull : rows.length < mN w) : CT nf xs d 31 [.ref 2, .ref P, .int (Int32.ofNat (32 + w))] m g G (OC B (namF B w rows js i) g (fun v m' => sC B (i + 1) m' ∧ ∀ a : Nat, ¬ a = 3 → m' a = xu m (P + 2 + 2 * w) (rows.length * cN w + 0) v a)) := by
  refine CT.of (c := 4) (ini := false) (nL := 6) (rt := some .boolean) (tab := zt31) rfl (fun d' r h' N hd hr => ?_)
  replace hr : RR nf xs d' 4 false 6 (some .boolean) zt31 G r h' N (0, [(0, .ref 2), (1, .ref P), (2, .int (Int32.ofNat (32 + w)))], [], m, g) := hr
  have km1 : (-1 : Int32).toInt = -1 := rfl
  have k1 : (1 : Int32).toInt = 1 := rfl
  have k3 : (3 : Int32).toInt = 3 := rfl
  have k4 : (4 : Int32).toInt = 4 := rfl
  have k35 : (35 : Int32).toInt = 35 := rfl
  have z35 : Int32.ofNat (32 + w) = (35 : Int32) ↔ 32 + w = 35 := xn_eq (b := 35) (by omega) (by decide)
  have h7 := hG.2.2.2.2.1
  replace hr := hr.go (s_aload_n t31_0 rfl)
  replace hr := hr.go (s_getr t31_1 (hG.2.1))
  replace hr := hr.go (s_getf t31_4)
  replace hr := hr.go (s_k t31_7)
  rw [hs0.2.2.2.2.1] at hr
  rcases hr.bEq t31_8 with ⟨b8, hr⟩ | ⟨b8, hr⟩
  · replace hr := hr.go (s_aload_n t31_17 rfl)
    replace hr := hr.go (s_iload_n t31_18 rfl)
    replace hr := hr.cvI t31_19 rfl rfl (ct_table hG hw)
    replace hr := hr.go (s_astore_n (ls' := [(3, _), (0, _), (1, _), (2, _)]) t31_22 rfl)
    replace hr := hr.go (s_aload_n t31_23 rfl)
    replace hr := hr.go (s_getr t31_24 (hG.2.1))
    replace hr := hr.go (s_getf t31_27)
    rw [hs0.2.2.2.2.2.1] at hr
    replace hr := hr.go (s_istore (ls' := [(4, _), (3, _), (0, _), (1, _), (2, _)]) t31_30 rfl)
    replace hr := hr.go (s_iload_n t31_32 rfl)
    replace hr := hr.go (s_k t31_33)
    rcases hr.bNe t31_35 with ⟨b35, hr⟩ | ⟨b35, hr⟩
    · replace hr := hr.go (s_aload_n t31_71 rfl)
      replace hr := hr.go (s_iload t31_72 rfl)
      replace hr := hr.cvI t31_74 rfl rfl (ct_find (hG.2.2.2.2.2.1 w hw).2.1 (hG.2.2.2.2.2.1 w hw).2.2.choose_spec ht (mN_b w).1 (cN_b w).1 (cN_b w).2)
      replace hr := hr.go (s_k t31_77)
      rcases hr.bEq t31_78 with ⟨b78, hr⟩ | ⟨b78, hr⟩
      · skip
        replace hr := hr.go (s_aload_n t31_87 rfl)
        replace hr := hr.go (s_k t31_88)
        replace hr := hr.go (s_iload t31_89 rfl)
        replace hr := hr.cvN t31_91 rfl rfl (ct_put (ro := rows.length) (k := 0) (hG.2.2.2.2.2.1 w hw).2.1 ht.1 ht.2.1 ht.2.2.1 (mN_b w).1 (cN_b w).1 hfull (cN_b w).2)
        replace hr := hr.go (s_aload_n t31_94 rfl)
        replace hr := hr.go (s_getr t31_95 (hG.2.1))
        obtain ⟨m2, ⟨hs2, hf⟩, hr⟩ := hr.fvN t31_98 rfl rfl (ct_advS hG.1 hE (sC_row hs0 (xu_row (by omega)) (xu_row (by omega)) (xu_row (by omega))))
        replace hr := hr.go (s_k t31_101)
        obtain ⟨rfl, hs⟩ := hr.iret t31_102
        unfold namF
        rw [if_neg (fun q => q b8), if_neg (fun q => b35 (z35.mpr (by omega))), (oI_m1 (by have := ht.2.2.2.1; have := mN_b w; omega)).mp b78]
        exact ⟨_, _, hs, rfl, rfl, hs2, hf⟩
      · replace hr := hr.go (s_aload_n t31_81 rfl)
        replace hr := hr.go (s_k t31_82)
        obtain ⟨_, m1, _, ⟨rfl, rfl, ho⟩, hr⟩ := hr.callv t31_83 rfl rfl (ct_ref (B := B) (i := i) (f := 3) (α := Int32) (Q := fun _ _ => True) hG.2.1 hs0)
        obtain ⟨rfl, hs⟩ := hr.iret t31_86
        unfold namF
        rw [if_neg (fun q => q b8), if_neg (fun q => b35 (z35.mpr (by omega)))]
        cases hq : fnd (tV B i) rows 0 with
        | none => exact absurd ((oI_m1 (by have := ht.2.2.2.1; have := mN_b w; omega)).mpr hq) b78
        | some j => exact ⟨_, _, hs, rfl, rfl, ho⟩
    · replace hr := hr.go (s_aload_n t31_38 rfl)
      replace hr := hr.go (s_getr t31_39 ((hG.2.2.2.2.2.1 2 (by decide)).1))
      replace hr := hr.go (s_iload t31_42 rfl)
      replace hr := hr.cvI t31_44 rfl rfl (ct_find (hG.2.2.2.2.2.1 2 (by decide)).2.1 (hG.2.2.2.2.2.1 2 (by decide)).2.2.choose_spec hj (by decide) (by decide) (by decide))
      replace hr := hr.go (s_istore (ls' := [(5, _), (4, _), (3, _), (0, _), (1, _), (2, _)]) t31_47 rfl)
      replace hr := hr.go (s_iload t31_49 rfl)
      replace hr := hr.go (s_k t31_51)
      rcases hr.bNe t31_52 with ⟨b52, hr⟩ | ⟨b52, hr⟩
      · skip
        replace hr := hr.go (s_aload_n t31_61 rfl)
        replace hr := hr.go (s_k t31_62)
        replace hr := hr.go (s_iload t31_63 rfl)
        replace hr := hr.cvN t31_65 rfl rfl (ct_put (ro := rows.length) (k := 0) (hG.2.2.2.2.2.1 w hw).2.1 ht.1 ht.2.1 ht.2.2.1 (mN_b w).1 (cN_b w).1 hfull (cN_b w).2)
        replace hr := hr.go (s_goto t31_68)
        replace hr := hr.go (s_aload_n t31_94 rfl)
        replace hr := hr.go (s_getr t31_95 (hG.2.1))
        obtain ⟨m2, ⟨hs2, hf⟩, hr⟩ := hr.fvN t31_98 rfl rfl (ct_advS hG.1 hE (sC_row hs0 (xu_row (by omega)) (xu_row (by omega)) (xu_row (by omega))))
        replace hr := hr.go (s_k t31_101)
        obtain ⟨rfl, hs⟩ := hr.iret t31_102
        unfold namF
        rw [if_neg (fun q => q b8), if_pos (by have := z35.mp b35; omega)]
        cases hq : fnd (tV B i) js 0 with
        | none => exact absurd ((oI_m1 (by have := hj.2.2.2.1; have := mN_b 2; omega)).mpr hq) b52
        | some j =>
          rw [hq] at hf
          exact ⟨_, _, hs, rfl, rfl, hs2, hf⟩
      · replace hr := hr.go (s_aload_n t31_55 rfl)
        replace hr := hr.go (s_k t31_56)
        obtain ⟨_, m1, _, ⟨rfl, rfl, ho⟩, hr⟩ := hr.callv t31_57 rfl rfl (ct_ref (B := B) (i := i) (f := 4) (α := Int32) (Q := fun _ _ => True) hG.2.1 hs0)
        obtain ⟨rfl, hs⟩ := hr.iret t31_60
        unfold namF
        rw [if_neg (fun q => q b8), if_pos (by have := z35.mp b35; omega), (oI_m1 (by have := hj.2.2.2.1; have := mN_b 2; omega)).mp b52]
        exact ⟨_, _, hs, rfl, rfl, ho⟩
  · replace hr := hr.go (s_aload_n t31_11 rfl)
    replace hr := hr.go (s_k t31_12)
    obtain ⟨_, m1, _, ⟨rfl, rfl, ho⟩, hr⟩ := hr.callv t31_13 rfl rfl (ct_ref (B := B) (i := i) (f := 1) (α := Int32) (Q := fun _ _ => True) hG.2.1 hs0)
    obtain ⟨rfl, hs⟩ := hr.iret t31_16
    unfold namF
    rw [if_pos b8]
    exact ⟨_, _, hs, rfl, rfl, ho⟩

