/-! The class Table: what its methods do. -/
theorem ct_at {nf : Bool} {xs : List Int32} {d : Nat} {m : xM} {g : xL} {G : xG} {t c cols most ro k len : Nat} (hc : G.1 t 2 = some c) (hl : G.2 c = (0, 1, len)) (h0 : m t 0 = Int32.ofNat cols) (h1 : m t 1 = Int32.ofNat most) (h8 : most ≤ 8) (h5 : cols ≤ 5) (hr1 : ro < most) (hk1 : k < cols) : CT nf xs d 83 [.ref t, .int (Int32.ofNat ro), .int (Int32.ofNat k)] m g G (PE (some (.int (m c (ro * cols + k)))) m g) := by
  refine CT.of (c := 7) (ini := false) (nL := 3) (rt := some .int) (tab := zt83) rfl (fun d' r h' N hd hr => ?_)
  replace hr : RR nf xs d' 7 false 3 (some .int) zt83 G r h' N (0, [(0, .ref t), (1, .int (Int32.ofNat ro)), (2, .int (Int32.ofNat k))], [], m, g) := hr
  have q0 : (Int32.ofNat cols).toInt = (cols : Int) := xn_int (by omega)
  have q1 : (Int32.ofNat most).toInt = (most : Int) := xn_int (by omega)
  have q2 : (Int32.ofNat ro).toInt = (ro : Int) := xn_int (by omega)
  have q3 : (Int32.ofNat k).toInt = (k : Int) := xn_int (by omega)
  replace hr := hr.go (s_iload_n t83_0 rfl)
  rcases hr.zLt t83_1 with ⟨c1, hr⟩ | ⟨c1, hr⟩
  · replace hr := hr.go (s_k t83_24)
    obtain ⟨rfl, hs⟩ := hr.iret t83_25
    exact (by omega : False).elim
  · replace hr := hr.go (s_iload_n t83_4 rfl)
    replace hr := hr.go (s_aload_n t83_5 rfl)
    replace hr := hr.go (s_getf t83_6)
    rw [h1] at hr
    rcases hr.bGe t83_9 with ⟨c2, hr⟩ | ⟨c2, hr⟩
    · replace hr := hr.go (s_k t83_24)
      obtain ⟨rfl, hs⟩ := hr.iret t83_25
      exact (by omega : False).elim
    · replace hr := hr.go (s_iload_n t83_12 rfl)
      rcases hr.zLt t83_13 with ⟨c3, hr⟩ | ⟨c3, hr⟩
      · replace hr := hr.go (s_k t83_24)
        obtain ⟨rfl, hs⟩ := hr.iret t83_25
        exact (by omega : False).elim
      · replace hr := hr.go (s_iload_n t83_16 rfl)
        replace hr := hr.go (s_aload_n t83_17 rfl)
        replace hr := hr.go (s_getf t83_18)
        rw [h0] at hr
        rcases hr.bLt t83_21 with ⟨c4, hr⟩ | ⟨c4, hr⟩
        · replace hr := hr.go (s_aload_n t83_26 rfl)
          replace hr := hr.go (s_getr t83_27 (hc))
          replace hr := hr.go (s_iload_n t83_30 rfl)
          replace hr := hr.go (s_aload_n t83_31 rfl)
          replace hr := hr.go (s_getf t83_32)
          replace hr := hr.go (s_imul t83_35)
          replace hr := hr.go (s_iload_n t83_36 rfl)
          replace hr := hr.go (s_iadd t83_37)
          replace hr := hr.go (s_iaload t83_38 (hl))
          obtain ⟨rfl, hs⟩ := hr.iret t83_39
          exact ⟨_, _, hs, by rw [h0, xn_ix (mul_b hr1 hk1 h8 h5)], rfl, rfl⟩
        · replace hr := hr.go (s_k t83_24)
          obtain ⟨rfl, hs⟩ := hr.iret t83_25
          exact (by omega : False).elim

theorem ct_put {nf : Bool} {xs : List Int32} {d : Nat} {m : xM} {g : xL} {G : xG} {t c cols most ro k : Nat} {v : Int32} (hc : G.1 t 2 = some c) (h0 : m t 0 = Int32.ofNat cols) (h1 : m t 1 = Int32.ofNat most) (h3 : m t 3 = Int32.ofNat ro) (h8 : most ≤ 8) (h5 : cols ≤ 5) (hr1 : ro < most) (hk1 : k < cols) : CT nf xs d 84 [.ref t, .int (Int32.ofNat k), .int v] m g G (PE none (xu m c (ro * cols + k) v) g) := by
  refine CT.of (c := 7) (ini := false) (nL := 3) (rt := none) (tab := zt84) rfl (fun d' r h' N hd hr => ?_)
  replace hr : RR nf xs d' 7 false 3 (none) zt84 G r h' N (0, [(0, .ref t), (1, .int (Int32.ofNat k)), (2, .int v)], [], m, g) := hr
  have q0 : (Int32.ofNat cols).toInt = (cols : Int) := xn_int (by omega)
  have q1 : (Int32.ofNat most).toInt = (most : Int) := xn_int (by omega)
  have q2 : (Int32.ofNat ro).toInt = (ro : Int) := xn_int (by omega)
  have q3 : (Int32.ofNat k).toInt = (k : Int) := xn_int (by omega)
  replace hr := hr.go (s_aload_n t84_0 rfl)
  replace hr := hr.go (s_getf t84_1)
  replace hr := hr.go (s_aload_n t84_4 rfl)
  replace hr := hr.go (s_getf t84_5)
  rw [h3, h1] at hr
  rcases hr.bGe t84_8 with ⟨c1, hr⟩ | ⟨c1, hr⟩
  · obtain ⟨rfl, hs⟩ := hr.ret t84_40
    exact (by omega : False).elim
  · replace hr := hr.go (s_iload_n t84_11 rfl)
    rcases hr.zLt t84_12 with ⟨c2, hr⟩ | ⟨c2, hr⟩
    · obtain ⟨rfl, hs⟩ := hr.ret t84_40
      exact (by omega : False).elim
    · replace hr := hr.go (s_iload_n t84_15 rfl)
      replace hr := hr.go (s_aload_n t84_16 rfl)
      replace hr := hr.go (s_getf t84_17)
      rw [h0] at hr
      rcases hr.bGe t84_20 with ⟨c3, hr⟩ | ⟨c3, hr⟩
      · obtain ⟨rfl, hs⟩ := hr.ret t84_40
        exact (by omega : False).elim
      · replace hr := hr.go (s_aload_n t84_23 rfl)
        replace hr := hr.go (s_getr t84_24 (hc))
        replace hr := hr.go (s_aload_n t84_27 rfl)
        replace hr := hr.go (s_getf t84_28)
        replace hr := hr.go (s_aload_n t84_31 rfl)
        replace hr := hr.go (s_getf t84_32)
        replace hr := hr.go (s_imul t84_35)
        replace hr := hr.go (s_iload_n t84_36 rfl)
        replace hr := hr.go (s_iadd t84_37)
        replace hr := hr.go (s_iload_n t84_38 rfl)
        replace hr := hr.go (s_iastore t84_39)
        obtain ⟨rfl, hs⟩ := hr.ret t84_40
        exact ⟨_, _, hs, rfl, by rw [h3, h0, xn_ix (mul_b hr1 hk1 h8 h5)], rfl⟩

theorem ct_endRow {nf : Bool} {xs : List Int32} {d : Nat} {m : xM} {g : xL} {G : xG} {t most ro : Nat} (h1 : m t 1 = Int32.ofNat most) (h3 : m t 3 = Int32.ofNat ro) (h8 : most ≤ 8) (hr1 : ro < most) : CT nf xs d 85 [.ref t] m g G (PE none (xu m t 3 (Int32.ofNat (ro + 1))) g) := by
  refine CT.of (c := 7) (ini := false) (nL := 1) (rt := none) (tab := zt85) rfl (fun d' r h' N hd hr => ?_)
  replace hr : RR nf xs d' 7 false 1 (none) zt85 G r h' N (0, [(0, .ref t)], [], m, g) := hr
  have k1 : (1 : Int32).toInt = 1 := rfl
  have q1 : (Int32.ofNat most).toInt = (most : Int) := xn_int (by omega)
  have q2 : (Int32.ofNat ro).toInt = (ro : Int) := xn_int (by omega)
  replace hr := hr.go (s_aload_n t85_0 rfl)
  replace hr := hr.go (s_getf t85_1)
  replace hr := hr.go (s_aload_n t85_4 rfl)
  replace hr := hr.go (s_getf t85_5)
  rw [h3, h1] at hr
  rcases hr.bGe t85_8 with ⟨c1, hr⟩ | ⟨c1, hr⟩
  · obtain ⟨rfl, hs⟩ := hr.ret t85_21
    exact (by omega : False).elim
  · replace hr := hr.go (s_aload_n t85_11 rfl)
    replace hr := hr.go (s_dup t85_12 rfl)
    replace hr := hr.go (s_getf t85_13)
    replace hr := hr.go (s_k t85_16)
    replace hr := hr.go (s_iadd t85_17)
    replace hr := hr.go (s_putf t85_18)
    obtain ⟨rfl, hs⟩ := hr.ret t85_21
    exact ⟨_, _, hs, rfl, by rw [h3, xn_1], rfl⟩

theorem ct_isFull {nf : Bool} {xs : List Int32} {d : Nat} {m : xM} {g : xL} {G : xG} {t most ro : Nat} (h1 : m t 1 = Int32.ofNat most) (h3 : m t 3 = Int32.ofNat ro) (h8 : most ≤ 8) (hr1 : ro ≤ most) : CT nf xs d 86 [.ref t] m g G (PE (some (.int (bI (decide (most ≤ ro))))) m g) := by
  refine CT.of (c := 7) (ini := false) (nL := 1) (rt := some .boolean) (tab := zt86) rfl (fun d' r h' N hd hr => ?_)
  replace hr : RR nf xs d' 7 false 1 (some .boolean) zt86 G r h' N (0, [(0, .ref t)], [], m, g) := hr
  have k1 : (1 : Int32).toInt = 1 := rfl
  have q1 : (Int32.ofNat most).toInt = (most : Int) := xn_int (by omega)
  have q2 : (Int32.ofNat ro).toInt = (ro : Int) := xn_int (by omega)
  replace hr := hr.go (s_aload_n t86_0 rfl)
  replace hr := hr.go (s_getf t86_1)
  replace hr := hr.go (s_aload_n t86_4 rfl)
  replace hr := hr.go (s_getf t86_5)
  rw [h3, h1] at hr
  rcases hr.bLt t86_8 with ⟨c1, hr⟩ | ⟨c1, hr⟩
  · replace hr := hr.go (s_k t86_15)
    obtain ⟨rfl, hs⟩ := hr.iret t86_16
    exact ⟨_, _, hs, by rw [decide_eq_false (by omega : ¬ most ≤ ro)]; rfl, rfl, rfl⟩
  · replace hr := hr.go (s_k t86_11)
    replace hr := hr.go (s_goto t86_12)
    obtain ⟨rfl, hs⟩ := hr.iret t86_16
    exact ⟨_, _, hs, by rw [decide_eq_true (by omega : most ≤ ro)]; rfl, rfl, rfl⟩

theorem lp87 {nf : Bool} {xs : List Int32} {d : Nat} {g : xL} {G : xG} {r : Option Value} {h' : zH} {m : xM} {t c cols most len : Nat} {v : Int32} {rows : List (List Int32)} (hc : G.1 t 2 = some c) (hl : G.2 c = (0, 1, len)) (ht : tbC t c cols most rows m) (h8 : most ≤ 8) (h5 : cols ≤ 5) (h50 : 0 < cols) : ∀ (N i : Nat), i ≤ rows.length → RR nf xs d 7 false 3 (some .int) zt87 G r h' N (2, [(2, .int (Int32.ofNat i)), (0, .ref t), (1, .int v)], [], m, g) → ∃ (m' : xM) (g' : xL), HS h' m' g' G ∧ PE (some (.int (oI (fnd v (rows.drop i) i)))) m g r m' g' := by
  have k1 : (1 : Int32).toInt = 1 := rfl
  have hb := ht.2.2.2.1
  have q2 : (Int32.ofNat rows.length).toInt = (rows.length : Int) := xn_int (by omega)
  intro N
  induction N with
  | zero => intro i _ hr; exact hr.no.elim
  | succ N ih =>
    intro i hle hr
    have q1 : (Int32.ofNat i).toInt = (i : Int) := xn_int (by omega)
    replace hr := hr.go1 (s_iload_n t87_2 rfl)
    replace hr := hr.go (s_aload_n t87_3 rfl)
    replace hr := hr.go (s_getf t87_4)
    rw [ht.2.2.1] at hr
    rcases hr.bGe t87_7 with ⟨c1, hr⟩ | ⟨c1, hr⟩
    · replace hr := hr.go (s_k t87_28)
      obtain ⟨rfl, hs⟩ := hr.iret t87_29
      have hd : rows.drop i = [] := List.drop_eq_nil_of_le (by omega)
      rw [hd]
      exact ⟨_, _, hs, rfl, rfl, rfl⟩
    · have hi : i < rows.length := by omega
      have hd : rows.drop i = rows.getD i [] :: rows.drop (i + 1) := by
        rw [List.getD_eq_getElem?_getD, List.getElem?_eq_getElem hi]
        exact List.drop_eq_getElem_cons hi
      replace hr := hr.go (s_aload_n t87_10 rfl)
      replace hr := hr.go (s_iload_n t87_11 rfl)
      replace hr := hr.go (s_k t87_12)
      replace hr := hr.cvI t87_13 rfl rfl (ct_at hc hl ht.1 ht.2.1 h8 h5 (show i < most by have := ht.2.2.2.1; omega) (k := 0) h50)
      have e0 : m c (i * cols + 0) = (rows.getD i []).getD 0 0 := ht.2.2.2.2 i hi 0 h50
      rw [e0] at hr
      replace hr := hr.go (s_iload_n t87_16 rfl)
      rcases hr.bNe t87_17 with ⟨c2, hr⟩ | ⟨c2, hr⟩
      · replace hr := hr.go (s_iinc (ls' := [(2, _), (0, _), (1, _)]) t87_22 rfl rfl)
        replace hr := hr.go (s_goto t87_25)
        rw [hd]
        replace hr := hr.to rfl
        obtain ⟨m1, g1, w1, w2, w3⟩ := ih (i + 1) (by omega) (by rw [← xn_1i]; exact hr)
        refine ⟨m1, g1, w1, ?_, w3⟩
        rw [w2]
        show some (Value.int (oI (fnd v (rows.drop (i + 1)) (i + 1)))) = some (Value.int (oI (if (rows.getD i []).getD 0 0 = v then some i else fnd v (rows.drop (i + 1)) (i + 1))))
        rw [if_neg c2]
      · replace hr := hr.go (s_iload_n t87_20 rfl)
        obtain ⟨rfl, hs⟩ := hr.iret t87_21
        rw [hd]
        refine ⟨_, _, hs, ?_, rfl, rfl⟩
        show some (Value.int (Int32.ofNat i)) = some (Value.int (oI (if (rows.getD i []).getD 0 0 = v then some i else fnd v (rows.drop (i + 1)) (i + 1))))
        rw [if_pos c2]
        rfl
theorem ct_find {nf : Bool} {xs : List Int32} {d : Nat} {m : xM} {g : xL} {G : xG} {t c cols most len : Nat} {v : Int32} {rows : List (List Int32)} (hc : G.1 t 2 = some c) (hl : G.2 c = (0, 1, len)) (ht : tbC t c cols most rows m) (h8 : most ≤ 8) (h5 : cols ≤ 5) (h50 : 0 < cols) : CT nf xs d 87 [.ref t, .int v] m g G (PE (some (.int (oI (fnd v rows 0)))) m g) := by
  refine CT.of (c := 7) (ini := false) (nL := 3) (rt := some .int) (tab := zt87) rfl (fun d' r h' N hd hr => ?_)
  replace hr : RR nf xs d' 7 false 3 (some .int) zt87 G r h' N (0, [(0, .ref t), (1, .int v)], [], m, g) := hr
  replace hr := hr.go (s_k t87_0)
  replace hr := hr.go (s_istore_n (ls' := [(2, _), (0, _), (1, _)]) t87_1 rfl)
  exact lp87 hc hl ht h8 h5 h50 N 0 (Nat.zero_le _) hr
