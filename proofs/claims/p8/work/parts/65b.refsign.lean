/-! The reference: bytes, signs. -/
def GM (G : xG) : Prop := G.1 128 1 = some 129 ∧ G.2 129 = (0, 1, 700)
def hre (m : xM) : Int32 := if (m 128 24).toInt < (m 128 23).toInt then m 129 (m 128 24).toNatClampNeg else -1
def byt (b : Nat → Int32) (n p : Nat) : Int32 := if p < n then b p else -1
theorem hre_p {m : xM} {b : Nat → Int32} {n p : Nat} (h1 : m 129 = b) (h2 : m 128 24 = Int32.ofNat p) (h3 : m 128 23 = Int32.ofNat n) (hp : p ≤ n) (hn : n ≤ 700) : hre m = byt b n p := by
  unfold hre byt
  rw [h2, h3, xn_int (by omega), xn_int (by omega), xn_nat (by omega), h1]
  by_cases h : p < n
  · rw [if_pos h, if_pos (by omega)]
  · rw [if_neg h, if_neg (by omega)]

theorem ct_here {nf : Bool} {xs : List Int32} {d : Nat} {m : xM} {g : xL} {G : xG} (hG : GM G) : CT nf xs d 151 [.ref 128] m g G (PE (some (.int (hre m))) m g) := by
  refine CT.of (c := 11) (ini := false) (nL := 1) (rt := some .int) (tab := zt151) rfl (fun d' r h' N hd hr => ?_)
  replace hr : RR nf xs d' 11 false 1 (some .int) zt151 G r h' N (0, [(0, .ref 128)], [], m, g) := hr
  have km1 : (-1 : Int32).toInt = -1 := rfl
  replace hr := hr.go (s_aload_n t151_0 rfl)
  replace hr := hr.go (s_getf t151_1)
  replace hr := hr.go (s_aload_n t151_4 rfl)
  replace hr := hr.go (s_getf t151_5)
  rcases hr.bGe t151_8 with ⟨c1, hr⟩ | ⟨c1, hr⟩
  · replace hr := hr.go (s_k t151_23)
    obtain ⟨rfl, hs⟩ := hr.iret t151_24
    exact ⟨_, _, hs, congrArg (fun z => some (Value.int z)) (by unfold hre; first | rw [if_pos (by omega)] | rw [if_neg (by omega)]), rfl, rfl⟩
  · replace hr := hr.go (s_aload_n t151_11 rfl)
    replace hr := hr.go (s_getr t151_12 (hG.1))
    replace hr := hr.go (s_aload_n t151_15 rfl)
    replace hr := hr.go (s_getf t151_16)
    replace hr := hr.go (s_iaload t151_19 (hG.2))
    replace hr := hr.go (s_goto t151_20)
    obtain ⟨rfl, hs⟩ := hr.iret t151_24
    exact ⟨_, _, hs, congrArg (fun z => some (Value.int z)) (by unfold hre; first | rw [if_pos (by omega)] | rw [if_neg (by omega)]), rfl, rfl⟩

theorem ct_here_p {nf : Bool} {xs : List Int32} {d : Nat} {m : xM} {g : xL} {G : xG} {b : Nat → Int32} {n p : Nat} (hG : GM G) (hn : n ≤ 700) (hp : p ≤ n) (h1 : m 129 = b) (h2 : m 128 24 = Int32.ofNat p) (h3 : m 128 23 = Int32.ofNat n) : CT nf xs d 151 [.ref 128] m g G (PE (some (.int (byt b n p))) m g) := by
  rw [← hre_p h1 h2 h3 hp hn]
  exact ct_here hG

theorem ct_small {nf : Bool} {xs : List Int32} {d : Nat} {m : xM} {g : xL} {G : xG} {x : Int32} : CT nf xs d 152 [.int x] m g G (PE (some (.int (bI (ltr x)))) m g) := by
  refine CT.of (c := 11) (ini := false) (nL := 1) (rt := some .boolean) (tab := zt152) rfl (fun d' r h' N hd hr => ?_)
  replace hr : RR nf xs d' 11 false 1 (some .boolean) zt152 G r h' N (0, [(0, .int x)], [], m, g) := hr
  have k1 : (1 : Int32).toInt = 1 := rfl
  have k97 : (97 : Int32).toInt = 97 := rfl
  have k122 : (122 : Int32).toInt = 122 := rfl
  replace hr := hr.go (s_iload_n t152_0 rfl)
  replace hr := hr.go (s_k t152_1)
  rcases hr.bLt t152_3 with ⟨c1, hr⟩ | ⟨c1, hr⟩
  · replace hr := hr.go (s_k t152_16)
    obtain ⟨rfl, hs⟩ := hr.iret t152_17
    exact ⟨_, _, hs, congrArg (fun z => some (Value.int z)) (by first | (rw [ltr_t (by omega)]; rfl) | (rw [ltr_f (by omega)]; rfl)), rfl, rfl⟩
  · replace hr := hr.go (s_iload_n t152_6 rfl)
    replace hr := hr.go (s_k t152_7)
    rcases hr.bGt t152_9 with ⟨c2, hr⟩ | ⟨c2, hr⟩
    · replace hr := hr.go (s_k t152_16)
      obtain ⟨rfl, hs⟩ := hr.iret t152_17
      exact ⟨_, _, hs, congrArg (fun z => some (Value.int z)) (by first | (rw [ltr_t (by omega)]; rfl) | (rw [ltr_f (by omega)]; rfl)), rfl, rfl⟩
    · replace hr := hr.go (s_k t152_12)
      replace hr := hr.go (s_goto t152_13)
      obtain ⟨rfl, hs⟩ := hr.iret t152_17
      exact ⟨_, _, hs, congrArg (fun z => some (Value.int z)) (by first | (rw [ltr_t (by omega)]; rfl) | (rw [ltr_f (by omega)]; rfl)), rfl, rfl⟩

theorem ct_digit {nf : Bool} {xs : List Int32} {d : Nat} {m : xM} {g : xL} {G : xG} {x : Int32} : CT nf xs d 153 [.int x] m g G (PE (some (.int (bI (dgt x)))) m g) := by
  refine CT.of (c := 11) (ini := false) (nL := 1) (rt := some .boolean) (tab := zt153) rfl (fun d' r h' N hd hr => ?_)
  replace hr : RR nf xs d' 11 false 1 (some .boolean) zt153 G r h' N (0, [(0, .int x)], [], m, g) := hr
  have k1 : (1 : Int32).toInt = 1 := rfl
  have k48 : (48 : Int32).toInt = 48 := rfl
  have k57 : (57 : Int32).toInt = 57 := rfl
  replace hr := hr.go (s_iload_n t153_0 rfl)
  replace hr := hr.go (s_k t153_1)
  rcases hr.bLt t153_3 with ⟨c1, hr⟩ | ⟨c1, hr⟩
  · replace hr := hr.go (s_k t153_16)
    obtain ⟨rfl, hs⟩ := hr.iret t153_17
    exact ⟨_, _, hs, congrArg (fun z => some (Value.int z)) (by first | (rw [dgt_t (by omega)]; rfl) | (rw [dgt_f (by omega)]; rfl)), rfl, rfl⟩
  · replace hr := hr.go (s_iload_n t153_6 rfl)
    replace hr := hr.go (s_k t153_7)
    rcases hr.bGt t153_9 with ⟨c2, hr⟩ | ⟨c2, hr⟩
    · replace hr := hr.go (s_k t153_16)
      obtain ⟨rfl, hs⟩ := hr.iret t153_17
      exact ⟨_, _, hs, congrArg (fun z => some (Value.int z)) (by first | (rw [dgt_t (by omega)]; rfl) | (rw [dgt_f (by omega)]; rfl)), rfl, rfl⟩
    · replace hr := hr.go (s_k t153_12)
      replace hr := hr.go (s_goto t153_13)
      obtain ⟨rfl, hs⟩ := hr.iret t153_17
      exact ⟨_, _, hs, congrArg (fun z => some (Value.int z)) (by first | (rw [dgt_t (by omega)]; rfl) | (rw [dgt_f (by omega)]; rfl)), rfl, rfl⟩

def isg (x : Int32) : Bool := decide (x = 59 ∨ x = 40 ∨ x = 41 ∨ x = 43 ∨ x = 45 ∨ x = 42 ∨ x = 47 ∨ x = 60 ∨ x = 61 ∨ x = 62)
def sgV (x y : Int32) : Int32 × Nat := if x = 60 then (if y = 61 then (256, 2) else if y = 62 then (257, 2) else (60, 1)) else if x = 62 then (if y = 61 then (258, 2) else (62, 1)) else (x, 1)

theorem sg_a {nf : Bool} {xs : List Int32} {d : Nat} {g : xL} {G : xG} {r : Option Value} {h' : zH} {N : Nat} {m : xM} {x : Int32} (hr : RR nf xs d 11 false 2 none zt155 G r h' N (0, [(0, .ref 128), (1, .int x)], [], m, g)) : RR nf xs d 11 false 2 none zt155 G r h' N (76, [(0, .ref 128), (1, .int x)], [.int (bif isg x then 3 else 5), .ref 128], xu m 128 24 (m 128 24 + 1), g) := by
  replace hr := hr.go (s_aload_n t155_0 rfl)
  replace hr := hr.go (s_dup t155_1 rfl)
  replace hr := hr.go (s_getf t155_2)
  replace hr := hr.go (s_k t155_5)
  replace hr := hr.go (s_iadd t155_6)
  replace hr := hr.go (s_putf t155_7)
  replace hr := hr.go (s_aload_n t155_10 rfl)
  replace hr := hr.go (s_iload_n t155_11 rfl)
  replace hr := hr.go (s_k t155_12)
  rcases hr.bEq t155_14 with ⟨c1, hr⟩ | ⟨c1, hr⟩
  · skip
    replace hr := hr.go (s_k t155_71)
    replace hr := hr.go (s_goto t155_72)
    rw [show isg x = true from decide_eq_true (Or.inl c1)]
    exact hr
  · replace hr := hr.go (s_iload_n t155_17 rfl)
    replace hr := hr.go (s_k t155_18)
    rcases hr.bEq t155_20 with ⟨c2, hr⟩ | ⟨c2, hr⟩
    · skip
      replace hr := hr.go (s_k t155_71)
      replace hr := hr.go (s_goto t155_72)
      rw [show isg x = true from decide_eq_true (Or.inr (Or.inl c2))]
      exact hr
    · replace hr := hr.go (s_iload_n t155_23 rfl)
      replace hr := hr.go (s_k t155_24)
      rcases hr.bEq t155_26 with ⟨c3, hr⟩ | ⟨c3, hr⟩
      · skip
        replace hr := hr.go (s_k t155_71)
        replace hr := hr.go (s_goto t155_72)
        rw [show isg x = true from decide_eq_true (Or.inr (Or.inr (Or.inl c3)))]
        exact hr
      · replace hr := hr.go (s_iload_n t155_29 rfl)
        replace hr := hr.go (s_k t155_30)
        rcases hr.bEq t155_32 with ⟨c4, hr⟩ | ⟨c4, hr⟩
        · skip
          replace hr := hr.go (s_k t155_71)
          replace hr := hr.go (s_goto t155_72)
          rw [show isg x = true from decide_eq_true (Or.inr (Or.inr (Or.inr (Or.inl c4))))]
          exact hr
        · replace hr := hr.go (s_iload_n t155_35 rfl)
          replace hr := hr.go (s_k t155_36)
          rcases hr.bEq t155_38 with ⟨c5, hr⟩ | ⟨c5, hr⟩
          · skip
            replace hr := hr.go (s_k t155_71)
            replace hr := hr.go (s_goto t155_72)
            rw [show isg x = true from decide_eq_true (Or.inr (Or.inr (Or.inr (Or.inr (Or.inl c5)))))]
            exact hr
          · replace hr := hr.go (s_iload_n t155_41 rfl)
            replace hr := hr.go (s_k t155_42)
            rcases hr.bEq t155_44 with ⟨c6, hr⟩ | ⟨c6, hr⟩
            · skip
              replace hr := hr.go (s_k t155_71)
              replace hr := hr.go (s_goto t155_72)
              rw [show isg x = true from decide_eq_true (Or.inr (Or.inr (Or.inr (Or.inr (Or.inr (Or.inl c6))))))]
              exact hr
            · replace hr := hr.go (s_iload_n t155_47 rfl)
              replace hr := hr.go (s_k t155_48)
              rcases hr.bEq t155_50 with ⟨c7, hr⟩ | ⟨c7, hr⟩
              · skip
                replace hr := hr.go (s_k t155_71)
                replace hr := hr.go (s_goto t155_72)
                rw [show isg x = true from decide_eq_true (Or.inr (Or.inr (Or.inr (Or.inr (Or.inr (Or.inr (Or.inl c7)))))))]
                exact hr
              · replace hr := hr.go (s_iload_n t155_53 rfl)
                replace hr := hr.go (s_k t155_54)
                rcases hr.bEq t155_56 with ⟨c8, hr⟩ | ⟨c8, hr⟩
                · skip
                  replace hr := hr.go (s_k t155_71)
                  replace hr := hr.go (s_goto t155_72)
                  rw [show isg x = true from decide_eq_true (Or.inr (Or.inr (Or.inr (Or.inr (Or.inr (Or.inr (Or.inr (Or.inl c8))))))))]
                  exact hr
                · replace hr := hr.go (s_iload_n t155_59 rfl)
                  replace hr := hr.go (s_k t155_60)
                  rcases hr.bEq t155_62 with ⟨c9, hr⟩ | ⟨c9, hr⟩
                  · skip
                    replace hr := hr.go (s_k t155_71)
                    replace hr := hr.go (s_goto t155_72)
                    rw [show isg x = true from decide_eq_true (Or.inr (Or.inr (Or.inr (Or.inr (Or.inr (Or.inr (Or.inr (Or.inr (Or.inl c9)))))))))]
                    exact hr
                  · replace hr := hr.go (s_iload_n t155_65 rfl)
                    replace hr := hr.go (s_k t155_66)
                    rcases hr.bNe t155_68 with ⟨c10, hr⟩ | ⟨c10, hr⟩
                    · skip
                      replace hr := hr.go (s_k t155_75)
                      rw [show isg x = false from decide_eq_false (by rintro (h | h | h | h | h | h | h | h | h | h) <;> contradiction)]
                      exact hr
                    · skip
                      replace hr := hr.go (s_k t155_71)
                      replace hr := hr.go (s_goto t155_72)
                      rw [show isg x = true from decide_eq_true (Or.inr (Or.inr (Or.inr (Or.inr (Or.inr (Or.inr (Or.inr (Or.inr (Or.inr (c10))))))))))]
                      exact hr
theorem xextM {m1 m2 : xM} (h3 : m1 128 24 = m2 128 24) (h4 : m1 128 26 = m2 128 26) (h5 : m1 128 27 = m2 128 27) (ho : ∀ a k : Nat, ¬ (a = 128 ∧ 24 ≤ k ∧ k ≤ 27 ∧ ¬ k = 25) → m1 a k = m2 a k) : m1 = m2 := by
  funext a k
  by_cases h : a = 128 ∧ 24 ≤ k ∧ k ≤ 27 ∧ ¬ k = 25
  · obtain ⟨rfl, q1, q2, q3⟩ := h
    rcases (show k = 24 ∨ k = 26 ∨ k = 27 by omega) with rfl | rfl | rfl
    · exact h3
    · exact h4
    · exact h5
  · exact ho a k h

theorem sg_ba {nf : Bool} {xs : List Int32} {d : Nat} {g : xL} {G : xG} {r : Option Value} {h' : zH} {N : Nat} {m : xM} {S : Int32} {b : Nat → Int32} {n s : Nat} (hG : GM G) (hn : n ≤ 700) (hsn : s + 1 ≤ n) (h1 : m 129 = b) (h2 : m 128 24 = Int32.ofNat (s + 1)) (h3 : m 128 23 = Int32.ofNat n) (hy : byt b n (s + 1) = 61) (hr : RR nf xs d 11 false 2 none zt155 G r h' N (76, [(0, .ref 128), (1, .int 60)], [.int S, .ref 128], m, g)) : ∃ (m' : xM) (g' : xL), HS h' m' g' G ∧ PE none (xu (xu (xu m 128 26 S) 128 27 (sgV 60 (byt b n (s + 1))).1) 128 24 (Int32.ofNat (s + (sgV 60 (byt b n (s + 1))).2))) g r m' g' := by
  have k256 : (256 : Int32).toInt = 256 := rfl
  replace hr := hr.go (s_putf t155_76)
  replace hr := hr.go (s_aload_n t155_79 rfl)
  replace hr := hr.go (s_iload_n t155_80 rfl)
  replace hr := hr.go (s_putf t155_81)
  replace hr := hr.go (s_iload_n t155_84 rfl)
  replace hr := hr.go (s_k t155_85)
  rcases hr.bNe t155_87 with ⟨c1, hr⟩ | ⟨c1, hr⟩
  · exact absurd c1 (by decide)
  · replace hr := hr.go (s_aload_n t155_90 rfl)
    replace hr := hr.cvI t155_91 rfl rfl (hy ▸ ct_here_p (b := b) (n := n) (p := s + 1) hG hn hsn (by (repeat rw [xu_row (by decide)]); exact h1) (by (repeat rw [xu_oth (by decide)]); exact h2) (by (repeat rw [xu_oth (by decide)]); exact h3))
    replace hr := hr.go (s_k t155_94)
    rcases hr.bNe t155_96 with ⟨c2, hr⟩ | ⟨c2, hr⟩
    · exact absurd c2 (by decide)
    · replace hr := hr.go (s_aload_n t155_99 rfl)
      replace hr := hr.go (s_k t155_100)
      replace hr := hr.go (s_putf t155_103)
      replace hr := hr.go (s_iload_n t155_106 rfl)
      replace hr := hr.go (s_k t155_107)
      rcases hr.bNe t155_109 with ⟨c3, hr⟩ | ⟨c3, hr⟩
      · exact absurd c3 (by decide)
      · replace hr := hr.go (s_aload_n t155_112 rfl)
        replace hr := hr.cvI t155_113 rfl rfl (hy ▸ ct_here_p (b := b) (n := n) (p := s + 1) hG hn hsn (by (repeat rw [xu_row (by decide)]); exact h1) (by (repeat rw [xu_oth (by decide)]); exact h2) (by (repeat rw [xu_oth (by decide)]); exact h3))
        replace hr := hr.go (s_k t155_116)
        rcases hr.bNe t155_118 with ⟨c4, hr⟩ | ⟨c4, hr⟩
        · replace hr := hr.go (s_iload_n t155_128 rfl)
          replace hr := hr.go (s_k t155_129)
          rcases hr.bNe t155_131 with ⟨c5, hr⟩ | ⟨c5, hr⟩
          · replace hr := hr.go (s_aload_n t155_150 rfl)
            replace hr := hr.go (s_getf t155_151)
            replace hr := hr.go (s_k t155_154)
            rcases hr.bLt t155_157 with ⟨c6, hr⟩ | ⟨c6, hr⟩
            · exact absurd c6 (by rw [xu_same]; decide)
            · replace hr := hr.go (s_aload_n t155_160 rfl)
              replace hr := hr.go (s_dup t155_161 rfl)
              replace hr := hr.go (s_getf t155_162)
              replace hr := hr.go (s_k t155_165)
              replace hr := hr.go (s_iadd t155_166)
              replace hr := hr.go (s_putf t155_167)
              obtain ⟨rfl, hs⟩ := hr.ret t155_170
              refine ⟨_, _, hs, rfl, ?_, rfl⟩
              rw [show sgV 60 (byt b n (s + 1)) = (256, 2) by unfold sgV; rw [if_pos rfl, if_pos hy]]
              exact xextM (by (repeat rw [xu_oth (by decide)]); rw [xu_same, xu_same]; (repeat rw [xu_oth (by decide)]); rw [h2, xn_1]; rfl) rfl rfl (fun a k h => by repeat rw [xu_oth (by omega)])
          · exact absurd c5 (by decide)
        · exact absurd c4 (by decide)
theorem sg_bb {nf : Bool} {xs : List Int32} {d : Nat} {g : xL} {G : xG} {r : Option Value} {h' : zH} {N : Nat} {m : xM} {S : Int32} {b : Nat → Int32} {n s : Nat} (hG : GM G) (hn : n ≤ 700) (hsn : s + 1 ≤ n) (h1 : m 129 = b) (h2 : m 128 24 = Int32.ofNat (s + 1)) (h3 : m 128 23 = Int32.ofNat n) (hy : byt b n (s + 1) = 62) (hr : RR nf xs d 11 false 2 none zt155 G r h' N (76, [(0, .ref 128), (1, .int 60)], [.int S, .ref 128], m, g)) : ∃ (m' : xM) (g' : xL), HS h' m' g' G ∧ PE none (xu (xu (xu m 128 26 S) 128 27 (sgV 60 (byt b n (s + 1))).1) 128 24 (Int32.ofNat (s + (sgV 60 (byt b n (s + 1))).2))) g r m' g' := by
  have k256 : (256 : Int32).toInt = 256 := rfl
  replace hr := hr.go (s_putf t155_76)
  replace hr := hr.go (s_aload_n t155_79 rfl)
  replace hr := hr.go (s_iload_n t155_80 rfl)
  replace hr := hr.go (s_putf t155_81)
  replace hr := hr.go (s_iload_n t155_84 rfl)
  replace hr := hr.go (s_k t155_85)
  rcases hr.bNe t155_87 with ⟨c1, hr⟩ | ⟨c1, hr⟩
  · exact absurd c1 (by decide)
  · replace hr := hr.go (s_aload_n t155_90 rfl)
    replace hr := hr.cvI t155_91 rfl rfl (hy ▸ ct_here_p (b := b) (n := n) (p := s + 1) hG hn hsn (by (repeat rw [xu_row (by decide)]); exact h1) (by (repeat rw [xu_oth (by decide)]); exact h2) (by (repeat rw [xu_oth (by decide)]); exact h3))
    replace hr := hr.go (s_k t155_94)
    rcases hr.bNe t155_96 with ⟨c2, hr⟩ | ⟨c2, hr⟩
    · replace hr := hr.go (s_iload_n t155_106 rfl)
      replace hr := hr.go (s_k t155_107)
      rcases hr.bNe t155_109 with ⟨c3, hr⟩ | ⟨c3, hr⟩
      · exact absurd c3 (by decide)
      · replace hr := hr.go (s_aload_n t155_112 rfl)
        replace hr := hr.cvI t155_113 rfl rfl (hy ▸ ct_here_p (b := b) (n := n) (p := s + 1) hG hn hsn (by (repeat rw [xu_row (by decide)]); exact h1) (by (repeat rw [xu_oth (by decide)]); exact h2) (by (repeat rw [xu_oth (by decide)]); exact h3))
        replace hr := hr.go (s_k t155_116)
        rcases hr.bNe t155_118 with ⟨c4, hr⟩ | ⟨c4, hr⟩
        · exact absurd c4 (by decide)
        · replace hr := hr.go (s_aload_n t155_121 rfl)
          replace hr := hr.go (s_k t155_122)
          replace hr := hr.go (s_putf t155_125)
          replace hr := hr.go (s_iload_n t155_128 rfl)
          replace hr := hr.go (s_k t155_129)
          rcases hr.bNe t155_131 with ⟨c5, hr⟩ | ⟨c5, hr⟩
          · replace hr := hr.go (s_aload_n t155_150 rfl)
            replace hr := hr.go (s_getf t155_151)
            replace hr := hr.go (s_k t155_154)
            rcases hr.bLt t155_157 with ⟨c6, hr⟩ | ⟨c6, hr⟩
            · exact absurd c6 (by rw [xu_same]; decide)
            · replace hr := hr.go (s_aload_n t155_160 rfl)
              replace hr := hr.go (s_dup t155_161 rfl)
              replace hr := hr.go (s_getf t155_162)
              replace hr := hr.go (s_k t155_165)
              replace hr := hr.go (s_iadd t155_166)
              replace hr := hr.go (s_putf t155_167)
              obtain ⟨rfl, hs⟩ := hr.ret t155_170
              refine ⟨_, _, hs, rfl, ?_, rfl⟩
              rw [show sgV 60 (byt b n (s + 1)) = (257, 2) by unfold sgV; rw [if_pos rfl, if_neg (by rw [hy]; decide), if_pos hy]]
              exact xextM (by (repeat rw [xu_oth (by decide)]); rw [xu_same, xu_same]; (repeat rw [xu_oth (by decide)]); rw [h2, xn_1]; rfl) rfl rfl (fun a k h => by repeat rw [xu_oth (by omega)])
          · exact absurd c5 (by decide)
    · exact absurd c2 (by decide)
theorem sg_bc {nf : Bool} {xs : List Int32} {d : Nat} {g : xL} {G : xG} {r : Option Value} {h' : zH} {N : Nat} {m : xM} {S : Int32} {b : Nat → Int32} {n s : Nat} (hG : GM G) (hn : n ≤ 700) (hsn : s + 1 ≤ n) (h1 : m 129 = b) (h2 : m 128 24 = Int32.ofNat (s + 1)) (h3 : m 128 23 = Int32.ofNat n) (hy1 : ¬ byt b n (s + 1) = 61) (hy2 : ¬ byt b n (s + 1) = 62) (hr : RR nf xs d 11 false 2 none zt155 G r h' N (76, [(0, .ref 128), (1, .int 60)], [.int S, .ref 128], m, g)) : ∃ (m' : xM) (g' : xL), HS h' m' g' G ∧ PE none (xu (xu (xu m 128 26 S) 128 27 (sgV 60 (byt b n (s + 1))).1) 128 24 (Int32.ofNat (s + (sgV 60 (byt b n (s + 1))).2))) g r m' g' := by
  have k256 : (256 : Int32).toInt = 256 := rfl
  replace hr := hr.go (s_putf t155_76)
  replace hr := hr.go (s_aload_n t155_79 rfl)
  replace hr := hr.go (s_iload_n t155_80 rfl)
  replace hr := hr.go (s_putf t155_81)
  replace hr := hr.go (s_iload_n t155_84 rfl)
  replace hr := hr.go (s_k t155_85)
  rcases hr.bNe t155_87 with ⟨c1, hr⟩ | ⟨c1, hr⟩
  · exact absurd c1 (by decide)
  · replace hr := hr.go (s_aload_n t155_90 rfl)
    replace hr := hr.cvI t155_91 rfl rfl (ct_here_p (b := b) (n := n) (p := s + 1) hG hn hsn (by (repeat rw [xu_row (by decide)]); exact h1) (by (repeat rw [xu_oth (by decide)]); exact h2) (by (repeat rw [xu_oth (by decide)]); exact h3))
    replace hr := hr.go (s_k t155_94)
    rcases hr.bNe t155_96 with ⟨c2, hr⟩ | ⟨c2, hr⟩
    · replace hr := hr.go (s_iload_n t155_106 rfl)
      replace hr := hr.go (s_k t155_107)
      rcases hr.bNe t155_109 with ⟨c3, hr⟩ | ⟨c3, hr⟩
      · exact absurd c3 (by decide)
      · replace hr := hr.go (s_aload_n t155_112 rfl)
        replace hr := hr.cvI t155_113 rfl rfl (ct_here_p (b := b) (n := n) (p := s + 1) hG hn hsn (by (repeat rw [xu_row (by decide)]); exact h1) (by (repeat rw [xu_oth (by decide)]); exact h2) (by (repeat rw [xu_oth (by decide)]); exact h3))
        replace hr := hr.go (s_k t155_116)
        rcases hr.bNe t155_118 with ⟨c4, hr⟩ | ⟨c4, hr⟩
        · replace hr := hr.go (s_iload_n t155_128 rfl)
          replace hr := hr.go (s_k t155_129)
          rcases hr.bNe t155_131 with ⟨c5, hr⟩ | ⟨c5, hr⟩
          · replace hr := hr.go (s_aload_n t155_150 rfl)
            replace hr := hr.go (s_getf t155_151)
            replace hr := hr.go (s_k t155_154)
            rcases hr.bLt t155_157 with ⟨c6, hr⟩ | ⟨c6, hr⟩
            · obtain ⟨rfl, hs⟩ := hr.ret t155_170
              refine ⟨_, _, hs, rfl, ?_, rfl⟩
              rw [show sgV 60 (byt b n (s + 1)) = (60, 1) by unfold sgV; rw [if_pos rfl, if_neg hy1, if_neg hy2]]
              exact xextM (by (repeat rw [xu_oth (by decide)]); rw [xu_same, h2]) rfl rfl (fun a k h => by repeat rw [xu_oth (by omega)])
            · exact absurd c6 (by rw [xu_same]; decide)
          · exact absurd c5 (by decide)
        · exact absurd c4 hy2
    · exact absurd c2 hy1
theorem sg_bd {nf : Bool} {xs : List Int32} {d : Nat} {g : xL} {G : xG} {r : Option Value} {h' : zH} {N : Nat} {m : xM} {S : Int32} {b : Nat → Int32} {n s : Nat} (hG : GM G) (hn : n ≤ 700) (hsn : s + 1 ≤ n) (h1 : m 129 = b) (h2 : m 128 24 = Int32.ofNat (s + 1)) (h3 : m 128 23 = Int32.ofNat n) (hy : byt b n (s + 1) = 61) (hr : RR nf xs d 11 false 2 none zt155 G r h' N (76, [(0, .ref 128), (1, .int 62)], [.int S, .ref 128], m, g)) : ∃ (m' : xM) (g' : xL), HS h' m' g' G ∧ PE none (xu (xu (xu m 128 26 S) 128 27 (sgV 62 (byt b n (s + 1))).1) 128 24 (Int32.ofNat (s + (sgV 62 (byt b n (s + 1))).2))) g r m' g' := by
  have k256 : (256 : Int32).toInt = 256 := rfl
  replace hr := hr.go (s_putf t155_76)
  replace hr := hr.go (s_aload_n t155_79 rfl)
  replace hr := hr.go (s_iload_n t155_80 rfl)
  replace hr := hr.go (s_putf t155_81)
  replace hr := hr.go (s_iload_n t155_84 rfl)
  replace hr := hr.go (s_k t155_85)
  rcases hr.bNe t155_87 with ⟨c1, hr⟩ | ⟨c1, hr⟩
  · replace hr := hr.go (s_iload_n t155_106 rfl)
    replace hr := hr.go (s_k t155_107)
    rcases hr.bNe t155_109 with ⟨c2, hr⟩ | ⟨c2, hr⟩
    · replace hr := hr.go (s_iload_n t155_128 rfl)
      replace hr := hr.go (s_k t155_129)
      rcases hr.bNe t155_131 with ⟨c3, hr⟩ | ⟨c3, hr⟩
      · exact absurd c3 (by decide)
      · replace hr := hr.go (s_aload_n t155_134 rfl)
        replace hr := hr.cvI t155_135 rfl rfl (hy ▸ ct_here_p (b := b) (n := n) (p := s + 1) hG hn hsn (by (repeat rw [xu_row (by decide)]); exact h1) (by (repeat rw [xu_oth (by decide)]); exact h2) (by (repeat rw [xu_oth (by decide)]); exact h3))
        replace hr := hr.go (s_k t155_138)
        rcases hr.bNe t155_140 with ⟨c4, hr⟩ | ⟨c4, hr⟩
        · exact absurd c4 (by decide)
        · replace hr := hr.go (s_aload_n t155_143 rfl)
          replace hr := hr.go (s_k t155_144)
          replace hr := hr.go (s_putf t155_147)
          replace hr := hr.go (s_aload_n t155_150 rfl)
          replace hr := hr.go (s_getf t155_151)
          replace hr := hr.go (s_k t155_154)
          rcases hr.bLt t155_157 with ⟨c5, hr⟩ | ⟨c5, hr⟩
          · exact absurd c5 (by rw [xu_same]; decide)
          · replace hr := hr.go (s_aload_n t155_160 rfl)
            replace hr := hr.go (s_dup t155_161 rfl)
            replace hr := hr.go (s_getf t155_162)
            replace hr := hr.go (s_k t155_165)
            replace hr := hr.go (s_iadd t155_166)
            replace hr := hr.go (s_putf t155_167)
            obtain ⟨rfl, hs⟩ := hr.ret t155_170
            refine ⟨_, _, hs, rfl, ?_, rfl⟩
            rw [show sgV 62 (byt b n (s + 1)) = (258, 2) by unfold sgV; rw [if_neg (by decide), if_pos rfl, if_pos hy]]
            exact xextM (by (repeat rw [xu_oth (by decide)]); rw [xu_same, xu_same]; (repeat rw [xu_oth (by decide)]); rw [h2, xn_1]; rfl) rfl rfl (fun a k h => by repeat rw [xu_oth (by omega)])
    · exact absurd c2 (by decide)
  · exact absurd c1 (by decide)
theorem sg_be {nf : Bool} {xs : List Int32} {d : Nat} {g : xL} {G : xG} {r : Option Value} {h' : zH} {N : Nat} {m : xM} {S : Int32} {b : Nat → Int32} {n s : Nat} (hG : GM G) (hn : n ≤ 700) (hsn : s + 1 ≤ n) (h1 : m 129 = b) (h2 : m 128 24 = Int32.ofNat (s + 1)) (h3 : m 128 23 = Int32.ofNat n) (hy1 : ¬ byt b n (s + 1) = 61) (hr : RR nf xs d 11 false 2 none zt155 G r h' N (76, [(0, .ref 128), (1, .int 62)], [.int S, .ref 128], m, g)) : ∃ (m' : xM) (g' : xL), HS h' m' g' G ∧ PE none (xu (xu (xu m 128 26 S) 128 27 (sgV 62 (byt b n (s + 1))).1) 128 24 (Int32.ofNat (s + (sgV 62 (byt b n (s + 1))).2))) g r m' g' := by
  have k256 : (256 : Int32).toInt = 256 := rfl
  replace hr := hr.go (s_putf t155_76)
  replace hr := hr.go (s_aload_n t155_79 rfl)
  replace hr := hr.go (s_iload_n t155_80 rfl)
  replace hr := hr.go (s_putf t155_81)
  replace hr := hr.go (s_iload_n t155_84 rfl)
  replace hr := hr.go (s_k t155_85)
  rcases hr.bNe t155_87 with ⟨c1, hr⟩ | ⟨c1, hr⟩
  · replace hr := hr.go (s_iload_n t155_106 rfl)
    replace hr := hr.go (s_k t155_107)
    rcases hr.bNe t155_109 with ⟨c2, hr⟩ | ⟨c2, hr⟩
    · replace hr := hr.go (s_iload_n t155_128 rfl)
      replace hr := hr.go (s_k t155_129)
      rcases hr.bNe t155_131 with ⟨c3, hr⟩ | ⟨c3, hr⟩
      · exact absurd c3 (by decide)
      · replace hr := hr.go (s_aload_n t155_134 rfl)
        replace hr := hr.cvI t155_135 rfl rfl (ct_here_p (b := b) (n := n) (p := s + 1) hG hn hsn (by (repeat rw [xu_row (by decide)]); exact h1) (by (repeat rw [xu_oth (by decide)]); exact h2) (by (repeat rw [xu_oth (by decide)]); exact h3))
        replace hr := hr.go (s_k t155_138)
        rcases hr.bNe t155_140 with ⟨c4, hr⟩ | ⟨c4, hr⟩
        · replace hr := hr.go (s_aload_n t155_150 rfl)
          replace hr := hr.go (s_getf t155_151)
          replace hr := hr.go (s_k t155_154)
          rcases hr.bLt t155_157 with ⟨c5, hr⟩ | ⟨c5, hr⟩
          · obtain ⟨rfl, hs⟩ := hr.ret t155_170
            refine ⟨_, _, hs, rfl, ?_, rfl⟩
            rw [show sgV 62 (byt b n (s + 1)) = (62, 1) by unfold sgV; rw [if_neg (by decide), if_pos rfl, if_neg hy1]]
            exact xextM (by (repeat rw [xu_oth (by decide)]); rw [xu_same, h2]) rfl rfl (fun a k h => by repeat rw [xu_oth (by omega)])
          · exact absurd c5 (by rw [xu_same]; decide)
        · exact absurd c4 hy1
    · exact absurd c2 (by decide)
  · exact absurd c1 (by decide)
theorem sg_bf {nf : Bool} {xs : List Int32} {d : Nat} {g : xL} {G : xG} {r : Option Value} {h' : zH} {N : Nat} {m : xM} {S : Int32} {x : Int32} {b : Nat → Int32} {n s : Nat} (hG : GM G) (hn : n ≤ 700) (hsn : s + 1 ≤ n) (h1 : m 129 = b) (h2 : m 128 24 = Int32.ofNat (s + 1)) (h3 : m 128 23 = Int32.ofNat n) (hx1 : ¬ x = 60) (hx2 : ¬ x = 62) (hx3 : x.toInt < 256) (hr : RR nf xs d 11 false 2 none zt155 G r h' N (76, [(0, .ref 128), (1, .int x)], [.int S, .ref 128], m, g)) : ∃ (m' : xM) (g' : xL), HS h' m' g' G ∧ PE none (xu (xu (xu m 128 26 S) 128 27 (sgV x (byt b n (s + 1))).1) 128 24 (Int32.ofNat (s + (sgV x (byt b n (s + 1))).2))) g r m' g' := by
  have k256 : (256 : Int32).toInt = 256 := rfl
  replace hr := hr.go (s_putf t155_76)
  replace hr := hr.go (s_aload_n t155_79 rfl)
  replace hr := hr.go (s_iload_n t155_80 rfl)
  replace hr := hr.go (s_putf t155_81)
  replace hr := hr.go (s_iload_n t155_84 rfl)
  replace hr := hr.go (s_k t155_85)
  rcases hr.bNe t155_87 with ⟨c1, hr⟩ | ⟨c1, hr⟩
  · replace hr := hr.go (s_iload_n t155_106 rfl)
    replace hr := hr.go (s_k t155_107)
    rcases hr.bNe t155_109 with ⟨c2, hr⟩ | ⟨c2, hr⟩
    · replace hr := hr.go (s_iload_n t155_128 rfl)
      replace hr := hr.go (s_k t155_129)
      rcases hr.bNe t155_131 with ⟨c3, hr⟩ | ⟨c3, hr⟩
      · replace hr := hr.go (s_aload_n t155_150 rfl)
        replace hr := hr.go (s_getf t155_151)
        replace hr := hr.go (s_k t155_154)
        rcases hr.bLt t155_157 with ⟨c4, hr⟩ | ⟨c4, hr⟩
        · obtain ⟨rfl, hs⟩ := hr.ret t155_170
          refine ⟨_, _, hs, rfl, ?_, rfl⟩
          rw [show sgV x (byt b n (s + 1)) = (x, 1) by unfold sgV; rw [if_neg hx1, if_neg hx2]]
          exact xextM (by (repeat rw [xu_oth (by decide)]); rw [xu_same, h2]) rfl rfl (fun a k h => by repeat rw [xu_oth (by omega)])
        · exact absurd hx3 (by rw [xu_same, k256] at c4; omega)
      · exact absurd c3 hx2
    · exact absurd c2 hx1
  · exact absurd c1 hx1
theorem ct_signM {nf : Bool} {xs : List Int32} {d : Nat} {m : xM} {g : xL} {G : xG} {b : Nat → Int32} {n s : Nat} {x : Int32} (hG : GM G) (hn : n ≤ 700) (hsn : s < n) (hx : x.toInt < 256) (h1 : m 129 = b) (h2 : m 128 24 = Int32.ofNat s) (h3 : m 128 23 = Int32.ofNat n) : CT nf xs d 155 [.ref 128, .int x] m g G (PE none (xu (xu (xu m 128 26 (bif isg x then 3 else 5)) 128 27 (sgV x (byt b n (s + 1))).1) 128 24 (Int32.ofNat (s + (sgV x (byt b n (s + 1))).2))) g) := by
  refine CT.of (c := 11) (ini := false) (nL := 2) (rt := none) (tab := zt155) rfl (fun d' r h' N hd hr => ?_)
  replace hr : RR nf xs d' 11 false 2 none zt155 G r h' N (0, [(0, .ref 128), (1, .int x)], [], m, g) := hr
  replace hr := sg_a hr
  have q1 : xu m 128 24 (m 128 24 + 1) 129 = b := by rw [xu_row (by decide)]; exact h1
  have q2 : xu m 128 24 (m 128 24 + 1) 128 24 = Int32.ofNat (s + 1) := by rw [xu_same, h2, xn_1]
  have q3 : xu m 128 24 (m 128 24 + 1) 128 23 = Int32.ofNat n := by rw [xu_oth (by decide)]; exact h3
  suffices hq : ∃ (m' : xM) (g' : xL), HS h' m' g' G ∧ PE none (xu (xu (xu (xu m 128 24 (m 128 24 + 1)) 128 26 (bif isg x then 3 else 5)) 128 27 (sgV x (byt b n (s + 1))).1) 128 24 (Int32.ofNat (s + (sgV x (byt b n (s + 1))).2))) g r m' g' by
    obtain ⟨m', g', w1, w2, w3, w4⟩ := hq
    refine ⟨m', g', w1, w2, w3.trans ?_, w4⟩
    exact xextM rfl rfl rfl (fun a k h => by repeat rw [xu_oth (by omega)])
  by_cases hx1 : x = 60
  · subst hx1
    by_cases hy : byt b n (s + 1) = 61
    · exact sg_ba hG hn hsn q1 q2 q3 hy hr
    · by_cases hy2 : byt b n (s + 1) = 62
      · exact sg_bb hG hn hsn q1 q2 q3 hy2 hr
      · exact sg_bc hG hn hsn q1 q2 q3 hy hy2 hr
  · by_cases hx2 : x = 62
    · subst hx2
      by_cases hy : byt b n (s + 1) = 61
      · exact sg_bd hG hn hsn q1 q2 q3 hy hr
      · exact sg_be hG hn hsn q1 q2 q3 hy hr
    · exact sg_bf hG hn hsn q1 q2 q3 hx1 hx2 hx hr
