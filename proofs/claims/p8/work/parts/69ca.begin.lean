/-! The class: a ride begun, exactly. -/
theorem lp17x {nf : Bool} {xs : List Int32} {d : Nat} {g : xL} {G : xG} {r : Option Value} {h' : zH} {p : Nat} {x y : Int32} {m0 : xM} (h9 : G.1 p 9 = some (p + 1)) : ∀ (N : Nat) (k : Int32) (m : xM), (∀ a : Nat, ¬ a = p + 1 → m a = m0 a) → RR nf xs d 2 false 4 none zt17 G r h' N (37, [(3, .int k), (0, .ref p), (1, .int x), (2, .int y)], [], m, g) → ∃ (m' : xM) (g' : xL), HS h' m' g' G ∧ PF none g (fun m' => (∀ a : Nat, ¬ a = p → ¬ a = p + 1 → m' a = m0 a) ∧ ∀ j : Nat, ¬ j = 0 → ¬ j = 3 → m' p j = m0 p j) r m' g' := by
  intro N
  induction N with
  | zero => intro k m _ hr; exact hr.no.elim
  | succ N ih =>
    intro k m hm hr
    replace hr := hr.go1 (s_iload_n t17_37 rfl)
    replace hr := hr.go (s_k t17_38)
    rcases hr.bGe t17_40 with ⟨b40, hr⟩ | ⟨b40, hr⟩
    · replace hr := hr.go (s_aload_n t17_56 rfl)
      replace hr := hr.cvN t17_57 rfl rfl (ct_board)
      obtain ⟨rfl, hs⟩ := hr.ret t17_60
      exact ⟨_, _, hs, rfl, rfl, fun a a1 a2 => by rw [xu_row a1, xu_row a1]; exact hm a a2, fun j j0 j3 => by rw [xu_oth (by omega), xu_oth (by omega), hm p (by omega)]⟩
    · replace hr := hr.go (s_aload_n t17_43 rfl)
      replace hr := hr.go (s_getr t17_44 (h9))
      replace hr := hr.go (s_iload_n t17_47 rfl)
      replace hr := hr.go (s_k t17_48)
      replace hr := hr.go (s_iastore t17_49)
      replace hr := hr.go (s_iinc (ls' := [(3, _), (0, _), (1, _), (2, _)]) t17_50 rfl rfl)
      replace hr := hr.go (s_goto t17_53)
      exact ih _ _ (fun a a2 => by rw [xu_row a2]; exact hm a a2) hr
theorem ct_pbeginX {nf : Bool} {xs : List Int32} {d : Nat} {m : xM} {g : xL} {G : xG} {p : Nat} {x y : Int32} (h9 : G.1 p 9 = some (p + 1)) : CT nf xs d 17 [.ref p, .int x, .int y] m g G (PF none g (fun m' => (∀ a : Nat, ¬ a = p → ¬ a = p + 1 → m' a = m a) ∧ m' p 2 = y ∧ m' p 4 = 0)) := by
  refine CT.of (c := 2) (ini := false) (nL := 4) (rt := none) (tab := zt17) rfl (fun d' r h' N hd' hr => ?_)
  replace hr : RR nf xs d' 2 false 4 none zt17 G r h' N (0, [(0, .ref p), (1, .int x), (2, .int y)], [], m, g) := hr
  replace hr := hr.go (s_aload_n t17_0 rfl)
  replace hr := hr.go (s_iload_n t17_1 rfl)
  replace hr := hr.go (s_putf t17_2)
  replace hr := hr.go (s_aload_n t17_5 rfl)
  replace hr := hr.go (s_iload_n t17_6 rfl)
  replace hr := hr.go (s_putf t17_7)
  replace hr := hr.go (s_aload_n t17_10 rfl)
  replace hr := hr.go (s_k t17_11)
  replace hr := hr.go (s_putf t17_12)
  replace hr := hr.go (s_aload_n t17_15 rfl)
  replace hr := hr.go (s_k t17_16)
  replace hr := hr.go (s_putf t17_17)
  replace hr := hr.go (s_aload_n t17_20 rfl)
  replace hr := hr.go (s_k t17_21)
  replace hr := hr.go (s_putf t17_22)
  replace hr := hr.go (s_aload_n t17_25 rfl)
  replace hr := hr.go (s_k t17_26)
  replace hr := hr.go (s_putf t17_27)
  replace hr := hr.go (s_aload_n t17_30 rfl)
  replace hr := hr.go (s_k t17_31)
  replace hr := hr.go (s_putf t17_32)
  replace hr := hr.go (s_k t17_35)
  replace hr := hr.go (s_istore_n (ls' := [(3, _), (0, _), (1, _), (2, _)]) t17_36 rfl)
  obtain ⟨m', g', hs, e1, e2, e3, e4⟩ := lp17x h9 _ _ _ (fun a _ => rfl) hr
  refine ⟨m', g', hs, e1, e2, fun a a1 a2 => ?_, ?_, ?_⟩
  · rw [e3 a a1 a2]
    repeat rw [xu_row a1]
  · rw [e4 2 (by decide) (by decide)]
    repeat (first | exact xu_same | rw [xu_oth (by omega)])
  · rw [e4 4 (by decide) (by decide)]
    repeat (first | exact xu_same | rw [xu_oth (by omega)])
theorem ct_setToldX {nf : Bool} {xs : List Int32} {d : Nat} {m : xM} {g : xL} {G : xG} {x y z : Int32} (h1 : G.1 55 1 = some 57) : CT nf xs d 50 [.ref 55, .int x, .int y, .int z] m g G (fun r m' g' => r = none ∧ m' = m ∧ (∀ c : Nat, ¬ c = 57 → g' c = g c) ∧ ∀ j : Nat, j < 6 → g' 57 j = if x = Int32.ofNat j then stB z y (g 57 j) else g 57 j) := by
  refine CT.of (c := 5) (ini := false) (nL := 4) (rt := none) (tab := zt50) rfl (fun d' r h' N hd' hr => ?_)
  replace hr : RR nf xs d' 5 false 4 none zt50 G r h' N (0, [(0, .ref 55), (1, .int x), (2, .int y), (3, .int z)], [], m, g) := hr
  have k6 : (6 : Int32).toInt = 6 := rfl
  have nm : x.toInt < 0 ∨ 6 ≤ x.toInt → ∀ j : Nat, j < 6 → g 57 j = if x = Int32.ofNat j then stB z y (g 57 j) else g 57 j := fun q j hj => by
    rw [if_neg (fun e => by
      have qj : (Int32.ofNat j).toInt = (j : Int) := xn_int (by omega)
      rw [e] at q
      omega)]
  have mt : ∀ w : Int64 → Int64, 0 ≤ x.toInt → x.toInt < 6 → ∀ j : Nat, j < 6 → xu g 57 x.toNatClampNeg (w (g 57 x.toNatClampNeg)) 57 j = if x = Int32.ofNat j then w (g 57 j) else g 57 j := fun w x0 x6 j hj => by
    obtain ⟨i, hi⟩ : ∃ i : Nat, i = x.toNatClampNeg := ⟨_, rfl⟩
    have ex : x = Int32.ofNat i := by rw [hi]; exact xn_of x0
    rw [← hi]
    by_cases e : j = i
    · subst e
      rw [if_pos ex, xu_same]
    · rw [if_neg (fun z => e (by
        have hi6 : i < 6 := by rw [hi, Int32.toNatClampNeg]; omega
        exact (xn_inj (by omega) (by omega) (ex.symm.trans z)).symm)), xu_oth (by omega)]
  replace hr := hr.go (s_iload_n t50_0 rfl)
  rcases hr.zLt t50_1 with ⟨b1, hr⟩ | ⟨b1, hr⟩
  · obtain ⟨rfl, hs⟩ := hr.ret t50_10
    exact ⟨_, _, hs, rfl, rfl, fun c _ => rfl, nm (Or.inl b1)⟩
  · replace hr := hr.go (s_iload_n t50_4 rfl)
    replace hr := hr.go (s_k t50_5)
    rcases hr.bLt t50_7 with ⟨b7, hr⟩ | ⟨b7, hr⟩
    · replace hr := hr.go (s_iload_n t50_11 rfl)
      rcases hr.zEq t50_12 with ⟨b12, hr⟩ | ⟨b12, hr⟩
      · replace hr := hr.go (s_aload_n t50_30 rfl)
        replace hr := hr.go (s_getr t50_31 (h1))
        replace hr := hr.go (s_iload_n t50_34 rfl)
        replace hr := hr.go (s_dup2 t50_35)
        replace hr := hr.go (s_laload t50_36)
        replace hr := hr.go (s_lconst t50_37)
        replace hr := hr.go (s_iload_n t50_38 rfl)
        replace hr := hr.go (s_lshl t50_39)
        replace hr := hr.go (s_ldc2 t50_40 rfl)
        replace hr := hr.go (s_lxor t50_43)
        replace hr := hr.go (s_land t50_44)
        replace hr := hr.go (s_lastore t50_45)
        obtain ⟨rfl, hs⟩ := hr.ret t50_46
        exact ⟨_, _, hs, rfl, rfl, fun c hc => xu_row hc, fun j hj => by rw [show stB z y (g 57 j) = (fun w => w &&& (((1 : Int64) <<< (y.toInt64 &&& 63)) ^^^ -1)) (g 57 j) from if_pos b12]; exact mt (fun w => w &&& (((1 : Int64) <<< (y.toInt64 &&& 63)) ^^^ -1)) b1 (by omega) j hj⟩
      · replace hr := hr.go (s_aload_n t50_15 rfl)
        replace hr := hr.go (s_getr t50_16 (h1))
        replace hr := hr.go (s_iload_n t50_19 rfl)
        replace hr := hr.go (s_dup2 t50_20)
        replace hr := hr.go (s_laload t50_21)
        replace hr := hr.go (s_lconst t50_22)
        replace hr := hr.go (s_iload_n t50_23 rfl)
        replace hr := hr.go (s_lshl t50_24)
        replace hr := hr.go (s_lor t50_25)
        replace hr := hr.go (s_lastore t50_26)
        replace hr := hr.go (s_goto t50_27)
        obtain ⟨rfl, hs⟩ := hr.ret t50_46
        exact ⟨_, _, hs, rfl, rfl, fun c hc => xu_row hc, fun j hj => by rw [show stB z y (g 57 j) = (fun w => w ||| ((1 : Int64) <<< (y.toInt64 &&& 63))) (g 57 j) from if_neg b12]; exact mt (fun w => w ||| ((1 : Int64) <<< (y.toInt64 &&& 63))) b1 (by omega) j hj⟩
    · obtain ⟨rfl, hs⟩ := hr.ret t50_10
      exact ⟨_, _, hs, rfl, rfl, fun c _ => rfl, nm (Or.inr (by omega))⟩
/-- what a row of tellings makes of a joke's bits -/
def tlO1 (j : Nat) (w : Int64) (r : List Int32) : Int64 := if r.getD 0 0 = Int32.ofNat j then stB 1 (r.getD 1 0) w else w
def tlF (rows : List (List Int32)) (j : Nat) (w : Int64) : Int64 := rows.foldl (tlO1 j) w
theorem tlF_drop {rows : List (List Int32)} {k j : Nat} {w : Int64} (hk : k < rows.length) : tlF (rows.drop k) j w = tlF (rows.drop (k + 1)) j (tlO1 j w (rows.getD k [])) := by
  unfold tlF
  rw [List.drop_eq_getElem_cons hk, List.foldl_cons, List.getD_eq_getElem?_getD, List.getElem?_eq_getElem hk]
  rfl
theorem tlF_bits {j : Nat} {v : Nat} (hv : v < 64) : ∀ (rows : List (List Int32)) (w : Int64), (∀ r : List Int32, r ∈ rows → 0 ≤ (r.getD 1 0).toInt ∧ (r.getD 1 0).toInt < 64) → bl (tlF rows j w) v = (bl w v || tld rows (Int32.ofNat j) (Int32.ofNat v))
  | [], w, _ => by
    show bl w v = (bl w v || false)
    rw [Bool.or_false]
  | r :: rs, w, h => by
    show bl (tlF rs j (tlO1 j w r)) v = (bl w v || ((decide (r.getD 0 0 = Int32.ofNat j) && decide (r.getD 1 0 = Int32.ofNat v)) || tld rs (Int32.ofNat j) (Int32.ofNat v)))
    rw [tlF_bits hv rs _ (fun q hq => h q (List.mem_cons_of_mem _ hq)), ← Bool.or_assoc]
    congr 1
    obtain ⟨h1, h2⟩ := h r List.mem_cons_self
    unfold tlO1
    by_cases e : r.getD 0 0 = Int32.ofNat j
    · rw [if_pos e, decide_eq_true e, Bool.true_and]
      obtain ⟨u, hu⟩ : ∃ u : Nat, u = (r.getD 1 0).toNatClampNeg := ⟨_, rfl⟩
      have eu : r.getD 1 0 = Int32.ofNat u := by rw [hu]; exact xn_of h1
      have u64 : u < 64 := by rw [hu, Int32.toNatClampNeg]; omega
      rw [eu]
      unfold stB
      rw [if_neg (by decide), bl_set u64 hv]
      congr 1
      by_cases f : u = v
      · rw [f, decide_eq_true rfl, decide_eq_true rfl]
      · rw [decide_eq_false f, decide_eq_false (fun z => f (xn_inj (by omega) (by omega) z))]
    · rw [if_neg e, decide_eq_false e, Bool.false_and, Bool.or_false]
theorem lp47cx {nf : Bool} {xs : List Int32} {d : Nat} {G : xG} {r : Option Value} {h' : zH} {P R : Nat} {m0 : xM} {rows : List (List Int32)} (hG : GR G P) (h2 : G.1 55 2 = some P) (hM : MR P R m0) (hr8 : ∀ r : Nat, r < R → m0 (P + 8) (r * 2 + 0) = (rows.getD r []).getD 0 0 ∧ m0 (P + 8) (r * 2 + 1) = (rows.getD r []).getD 1 0) (hlen : rows.length = R) : ∀ (N k : Nat) (m : xM) (g : xL), (∀ a : Nat, a < 56 → m a = m0 a) → k ≤ R → RR nf xs d 5 false 3 none zt47 G r h' N (134, [(2, .int (Int32.ofNat k)), (0, .ref 55), (1, .ref P)], [], m, g) → ∃ (m' : xM) (g' : xL), HS h' m' g' G ∧ r = none ∧ m' = m ∧ (∀ c : Nat, ¬ c = 57 → g' c = g c) ∧ ∀ j : Nat, j < 6 → g' 57 j = tlF (rows.drop k) j (g 57 j) := by
  intro N
  induction N with
  | zero => intro k m g _ _ hr; exact hr.no.elim
  | succ N ih =>
    intro k m g hm hk hr
    obtain ⟨v1, v2, v3, v4, v5, v6⟩ := MR.of hG.2.2.2.2.2.2.2.2.2 hM (fun a ha => hm a (by omega))
    obtain ⟨len8, hlen8⟩ := hG.2.2.2.2.2.2.2.2.1
    have qk : (Int32.ofNat k).toInt = (k : Int) := xn_int (by omega)
    have qR : (Int32.ofNat R).toInt = (R : Int) := xn_int (by omega)
    replace hr := hr.go1 (s_iload_n t47_134 rfl)
    replace hr := hr.go (s_aload_n t47_135 rfl)
    replace hr := hr.go (s_getr t47_136 (h2))
    replace hr := hr.go (s_getr t47_139 (hG.2.2.2.2.1))
    replace hr := hr.go (s_getf t47_142)
    rw [v5] at hr
    rcases hr.bGe t47_145 with ⟨b145, hr⟩ | ⟨b145, hr⟩
    · obtain ⟨rfl, hs⟩ := hr.ret t47_183
      exact ⟨_, _, hs, rfl, rfl, fun c _ => rfl, fun j _ => by rw [List.drop_of_length_le (by omega)]; rfl⟩
    · replace hr := hr.go (s_aload_n t47_148 rfl)
      replace hr := hr.go (s_aload_n t47_149 rfl)
      replace hr := hr.go (s_getr t47_150 (h2))
      replace hr := hr.go (s_getr t47_153 (hG.2.2.2.2.1))
      replace hr := hr.go (s_iload_n t47_156 rfl)
      replace hr := hr.go (s_k t47_157)
      replace hr := hr.cvI t47_158 rfl rfl (ct_at (t := P + 7) (c := P + 8) (cols := 2) (most := 8) (ro := k) (k := 0) hG.2.2.2.2.2.2.1 hlen8 v3 v4 (by decide) (by decide) (by omega) (by decide))
      replace hr := hr.go (s_aload_n t47_161 rfl)
      replace hr := hr.go (s_getr t47_162 (h2))
      replace hr := hr.go (s_getr t47_165 (hG.2.2.2.2.1))
      replace hr := hr.go (s_iload_n t47_168 rfl)
      replace hr := hr.go (s_k t47_169)
      replace hr := hr.cvI t47_170 rfl rfl (ct_at (t := P + 7) (c := P + 8) (cols := 2) (most := 8) (ro := k) (k := 1) hG.2.2.2.2.2.2.1 hlen8 v3 v4 (by decide) (by decide) (by omega) (by decide))
      replace hr := hr.go (s_k t47_173)
      obtain ⟨_, m1, g1, ⟨rfl, e1, e2, e3⟩, hr⟩ := hr.callv t47_174 rfl rfl (ct_setToldX hG.2.1)
      rw [e1] at hr
      replace hr : RR nf xs d 5 false 3 none zt47 G r h' N (177, [(2, .int (Int32.ofNat k)), (0, .ref 55), (1, .ref P)], [], m, g1) := hr
      replace hr := hr.go (s_iinc (ls' := [(2, _), (0, _), (1, _)]) t47_177 rfl rfl)
      rw [xn_1i] at hr
      replace hr := hr.go (s_goto t47_180)
      obtain ⟨m', g', hs, f1, f2, f3, f4⟩ := ih (k + 1) _ _ hm (by omega) hr
      have c8 := hr8 k (by omega)
      rw [← congrFun (hm (P + 8) (by have := hG.2.2.2.2.2.2.2.2.2; omega)) (k * 2 + 0), ← congrFun (hm (P + 8) (by have := hG.2.2.2.2.2.2.2.2.2; omega)) (k * 2 + 1)] at c8
      refine ⟨m', g', hs, f1, f2, fun c hc => (f3 c hc).trans (e2 c hc), fun j hj => ?_⟩
      rw [f4 j hj, e3 j hj, tlF_drop (show k < rows.length by omega), c8.1, c8.2]
      rfl
theorem lp47bx {nf : Bool} {xs : List Int32} {d : Nat} {G : xG} {r : Option Value} {h' : zH} {P R : Nat} {m0 : xM} {g0 : xL} {rows : List (List Int32)} (hG : GR G P) (h2 : G.1 55 2 = some P) (hM : MR P R m0) (hr8 : ∀ r : Nat, r < R → m0 (P + 8) (r * 2 + 0) = (rows.getD r []).getD 0 0 ∧ m0 (P + 8) (r * 2 + 1) = (rows.getD r []).getD 1 0) (hlen : rows.length = R) : ∀ (N k : Nat) (m : xM) (g : xL), (∀ a : Nat, a < 56 → m a = m0 a) → (∀ c : Nat, ¬ c = 57 → g c = g0 c) → (∀ j : Nat, j < k → g 57 j = 0) → k ≤ 6 → RR nf xs d 5 false 3 none zt47 G r h' N (113, [(2, .int (Int32.ofNat k)), (0, .ref 55), (1, .ref P)], [], m, g) → ∃ (m' : xM) (g' : xL), HS h' m' g' G ∧ r = none ∧ m' = m ∧ (∀ c : Nat, ¬ c = 57 → g' c = g0 c) ∧ ∀ j : Nat, j < 6 → g' 57 j = tlF rows j 0 := by
  intro N
  induction N with
  | zero => intro k m g _ _ _ _ hr; exact hr.no.elim
  | succ N ih =>
    intro k m g hm hg hz hk hr
    have qk : (Int32.ofNat k).toInt = (k : Int) := xn_int (by omega)
    have k6 : (6 : Int32).toInt = 6 := rfl
    replace hr := hr.go1 (s_iload_n t47_113 rfl)
    replace hr := hr.go (s_k t47_114)
    rcases hr.bGe t47_116 with ⟨b116, hr⟩ | ⟨b116, hr⟩
    · replace hr := hr.go (s_k t47_132)
      replace hr := hr.go (s_istore_n (ls' := [(2, _), (0, _), (1, _)]) t47_133 rfl)
      obtain ⟨m', g', hs, f1, f2, f3, f4⟩ := lp47cx hG h2 hM hr8 hlen N 0 m g hm (Nat.zero_le _) hr
      exact ⟨m', g', hs, f1, f2, fun c hc => (f3 c hc).trans (hg c hc), fun j hj => by rw [f4 j hj, hz j (by omega)]; rfl⟩
    · replace hr := hr.go (s_aload_n t47_119 rfl)
      replace hr := hr.go (s_getr t47_120 (hG.2.1))
      replace hr := hr.go (s_iload_n t47_123 rfl)
      replace hr := hr.go (s_lconst t47_124)
      replace hr := hr.go (s_lastore t47_125)
      rw [xn_nat (show k < 2147483648 by omega)] at hr
      replace hr := hr.go (s_iinc (ls' := [(2, _), (0, _), (1, _)]) t47_126 rfl rfl)
      rw [xn_1i] at hr
      replace hr := hr.go (s_goto t47_129)
      refine ih (k + 1) _ _ hm (fun c hc => (xu_row hc).trans (hg c hc)) (fun j hj => ?_) (by omega) hr
      by_cases e : j = k
      · subst e; exact xu_same
      · rw [xu_oth (by omega)]; exact hz j (by omega)
theorem lp47ax {nf : Bool} {xs : List Int32} {d : Nat} {G : xG} {r : Option Value} {h' : zH} {P R : Nat} {m0 : xM} {rows : List (List Int32)} (hG : GR G P) (h2 : G.1 55 2 = some P) (hM : MR P R m0) (hr8 : ∀ r : Nat, r < R → m0 (P + 8) (r * 2 + 0) = (rows.getD r []).getD 0 0 ∧ m0 (P + 8) (r * 2 + 1) = (rows.getD r []).getD 1 0) (hlen : rows.length = R) : ∀ (N k : Nat) (m : xM) (g : xL), (∀ a : Nat, a < 58 → m a = m0 a) → (∀ i : Nat, i < k → m (58 + 2 * i) 2 = m0 (P + 4) (i * 5 + 3) ∧ m (58 + 2 * i) 4 = 0) → k ≤ 6 → RR nf xs d 5 false 3 none zt47 G r h' N (66, [(2, .int (Int32.ofNat k)), (0, .ref 55), (1, .ref P)], [], m, g) → ∃ (m' : xM) (g' : xL), HS h' m' g' G ∧ r = none ∧ (∀ a : Nat, a < 58 → m' a = m0 a) ∧ (∀ i : Nat, i < 6 → m' (58 + 2 * i) 2 = m0 (P + 4) (i * 5 + 3) ∧ m' (58 + 2 * i) 4 = 0) ∧ (∀ c : Nat, ¬ c = 57 → g' c = g c) ∧ ∀ j : Nat, j < 6 → g' 57 j = tlF rows j 0 := by
  intro N
  induction N with
  | zero => intro k m g _ _ _ hr; exact hr.no.elim
  | succ N ih =>
    intro k m g hm hp hk hr
    obtain ⟨v1, v2, v3, v4, v5, v6⟩ := MR.of hG.2.2.2.2.2.2.2.2.2 hM (fun a ha => hm a (by omega))
    obtain ⟨len4, hlen4⟩ := hG.2.2.2.2.2.2.2.1
    have qk : (Int32.ofNat k).toInt = (k : Int) := xn_int (by omega)
    have k6 : (6 : Int32).toInt = 6 := rfl
    replace hr := hr.go1 (s_iload_n t47_66 rfl)
    replace hr := hr.go (s_k t47_67)
    rcases hr.bGe t47_69 with ⟨b69, hr⟩ | ⟨b69, hr⟩
    · replace hr := hr.go (s_k t47_111)
      replace hr := hr.go (s_istore_n (ls' := [(2, _), (0, _), (1, _)]) t47_112 rfl)
      obtain ⟨m', g', hs, f1, f2, f3, f4⟩ := lp47bx (g0 := g) hG h2 hM hr8 hlen N 0 m g (fun a ha => hm a (by omega)) (fun c _ => rfl) (fun j hj => absurd hj (Nat.not_lt_zero j)) (by decide) hr
      subst f2
      exact ⟨_, g', hs, f1, hm, fun i hi => hp i (by omega), f3, f4⟩
    · replace hr := hr.go (s_aload_n t47_72 rfl)
      replace hr := hr.go (s_getr t47_73 (hG.1))
      replace hr := hr.go (s_iload_n t47_76 rfl)
      replace hr := hr.go (s_aaload t47_77 (by rw [xn_nat (by omega)]; exact (hG.2.2.1 k (by omega)).1))
      replace hr := hr.go (s_aload_n t47_78 rfl)
      replace hr := hr.go (s_getr t47_79 (h2))
      replace hr := hr.go (s_getr t47_82 (hG.2.2.2.1))
      replace hr := hr.go (s_iload_n t47_85 rfl)
      replace hr := hr.go (s_k t47_86)
      replace hr := hr.cvI t47_87 rfl rfl (ct_at (t := P + 3) (c := P + 4) (cols := 5) (most := 6) (ro := k) (k := 2) hG.2.2.2.2.2.1 hlen4 v1 v2 (by decide) (by decide) (by omega) (by decide))
      replace hr := hr.go (s_aload_n t47_90 rfl)
      replace hr := hr.go (s_getr t47_91 (h2))
      replace hr := hr.go (s_getr t47_94 (hG.2.2.2.1))
      replace hr := hr.go (s_iload_n t47_97 rfl)
      replace hr := hr.go (s_k t47_98)
      replace hr := hr.cvI t47_99 rfl rfl (ct_at (t := P + 3) (c := P + 4) (cols := 5) (most := 6) (ro := k) (k := 3) hG.2.2.2.2.2.1 hlen4 v1 v2 (by decide) (by decide) (by omega) (by decide))
      obtain ⟨m1, q1, hr⟩ := hr.fvN t47_102 rfl rfl (ct_pbeginX (p := 58 + 2 * k) (hG.2.2.1 k (by omega)).2)
      skip
      replace hr := hr.go (s_iinc (ls' := [(2, _), (0, _), (1, _)]) t47_105 rfl rfl)
      rw [xn_1i] at hr
      replace hr := hr.go (s_goto t47_108)
      refine ih (k + 1) m1 _ (fun a ha => by rw [q1.1 a (by omega) (by omega)]; exact hm a ha) (fun i hi => ?_) (by omega) hr
      by_cases e : i = k
      · subst e
        exact ⟨q1.2.1.trans (congrFun (hm (P + 4) (by have := hG.2.2.2.2.2.2.2.2.2; omega)) _), q1.2.2⟩
      · rw [q1.1 _ (by omega) (by omega)]
        exact hp i (by omega)
theorem cg_rbeginX {nf : Bool} {xs : List Int32} {d : Nat} {m : xM} {g : xL} {G : xG} {P R : Nat} {rows : List (List Int32)} (hG : GR (xgu G 55 2 P) P) (hM : MR P R m) (hr8 : ∀ r : Nat, r < R → m (P + 8) (r * 2 + 0) = (rows.getD r []).getD 0 0 ∧ m (P + 8) (r * 2 + 1) = (rows.getD r []).getD 1 0) (hlen : rows.length = R) : CG nf xs d 47 [.ref 55, .ref P] m g G (fun r m' g' G' => r = none ∧ G' = xgu G 55 2 P ∧ (∀ a : Nat, a < 55 → m' a = m a) ∧ m' 55 3 = (if m (P + 3) 3 < 6 then m (P + 3) 3 else 6) ∧ m' 55 4 = 0 ∧ m' 55 5 = 0 ∧ (∀ i : Nat, i < 6 → m' (58 + 2 * i) 2 = m (P + 4) (i * 5 + 3) ∧ m' (58 + 2 * i) 4 = 0) ∧ ∀ j : Nat, j < 6 → g' 57 j = tlF rows j 0) := by
  refine CG.of (c := 5) (ini := false) (nL := 3) (rt := none) (tab := zt47) rfl (fun d' r h' N hd hr => ?_)
  replace hr : RR nf xs d' 5 false 3 none zt47 G r h' N (0, [(0, .ref 55), (1, .ref P)], [], m, g) := hr
  replace hr := hr.go (s_aload_n t47_0 rfl)
  replace hr := hr.go (s_aload_n t47_1 rfl)
  replace hr := hr.putr t47_2
  replace hr := hr.go (s_aload_n t47_5 rfl)
  replace hr := hr.go (s_k t47_6)
  replace hr := hr.go (s_aload_n t47_8 rfl)
  replace hr := hr.go (s_getr t47_9 (xgu_same))
  replace hr := hr.go (s_getr t47_12 (hG.2.2.2.1))
  replace hr := hr.go (s_getf t47_15)
  replace hr := hr.go (s_math6 t47_18)
  replace hr := hr.go (s_putf t47_21)
  replace hr := hr.go (s_aload_n t47_24 rfl)
  replace hr := hr.go (s_k t47_25)
  replace hr := hr.go (s_putf t47_26)
  replace hr := hr.go (s_aload_n t47_29 rfl)
  replace hr := hr.go (s_k t47_30)
  replace hr := hr.go (s_putf t47_31)
  replace hr := hr.go (s_aload_n t47_34 rfl)
  replace hr := hr.go (s_k t47_35)
  replace hr := hr.go (s_putf t47_36)
  replace hr := hr.go (s_aload_n t47_39 rfl)
  replace hr := hr.go (s_k t47_40)
  replace hr := hr.go (s_putf t47_41)
  replace hr := hr.go (s_aload_n t47_44 rfl)
  replace hr := hr.go (s_k t47_45)
  replace hr := hr.go (s_putf t47_46)
  replace hr := hr.go (s_aload_n t47_49 rfl)
  replace hr := hr.go (s_k t47_50)
  replace hr := hr.go (s_putf t47_51)
  replace hr := hr.go (s_aload_n t47_54 rfl)
  replace hr := hr.go (s_k t47_55)
  replace hr := hr.go (s_putf t47_56)
  replace hr := hr.go (s_aload_n t47_59 rfl)
  replace hr := hr.go (s_k t47_60)
  replace hr := hr.go (s_putf t47_61)
  replace hr := hr.go (s_k t47_64)
  replace hr := hr.go (s_istore_n (ls' := [(2, _), (0, _), (1, _)]) t47_65 rfl)
  have hP31 : P ≤ 31 := hG.2.2.2.2.2.2.2.2.2
  obtain ⟨m', g', hs, h1, h2, h3, h4, h5⟩ := lp47ax (m0 := _) (rows := rows) hG xgu_same (MR.of hP31 hM (fun a ha => by repeat rw [xu_row (by omega)])) (fun r hr2 => by (repeat rw [xu_row (by omega)]); exact hr8 r hr2) hlen N 0 _ g (fun a ha => rfl) (fun i hi => absurd hi (Nat.not_lt_zero i)) (by decide) hr
  refine ⟨m', g', _, hs, h1, rfl, fun a ha => ?_, ?_, ?_, ?_, fun i hi => ⟨?_, (h3 i hi).2⟩, h5⟩
  · rw [h2 a (by omega)]
    repeat rw [xu_row (by omega)]
  · rw [h2 55 (by decide)]
    repeat (first | rw [xu_same] | rw [xu_oth (by decide)])
  · rw [h2 55 (by decide)]
    repeat (first | rw [xu_same] | rw [xu_oth (by decide)])
  · rw [h2 55 (by decide)]
    repeat (first | rw [xu_same] | rw [xu_oth (by decide)])
  · rw [(h3 i hi).1]
    repeat rw [xu_row (by omega)]
