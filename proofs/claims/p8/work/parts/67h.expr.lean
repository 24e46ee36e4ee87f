/-! The class Reader: a token where a value begins, a token behind a value. -/
def begF (B : eB) (i kn op : Nat) (W : List Int32) : (Nat × Nat) ⊕ (Nat × Nat × Bool × List Int32) :=
  if tK B i = 5 then (if 8 ≤ op then .inl (2, i) else .inr (kn, op + 1, true, 5 :: W))
  else if tK B i = 46 then (if 3 < str (W.headD 0) then .inl (1, i) else if 64 ≤ kn then .inl (2, i) else .inr (kn + 1, op, true, 46 :: W))
  else if ¬ tK B i = 2 ∧ qty (tK B i) = false then .inl (1, i) else if tK B i = 2 ∧ 9999 < (tV B i).toInt then .inl (2, i) else if 64 ≤ kn then .inl (2, i) else .inr (kn + 1, op, false, W)
def behF (B : eB) (i kn op : Nat) (W : List Int32) : (Nat × Nat) ⊕ (Nat × Nat × Bool × List Int32) :=
  if tK B i = 6 then (if op = 0 then .inl (1, i) else .inr (kn, op - 1, false, (relW 1 W).tail))
  else if str (tK B i) = 0 ∨ tK B i = 46 then .inl (1, i)
  else if str (tK B i) = 4 ∧ str ((relW 5 W).headD 0) = 4 then .inl (1, i)
  else if 64 ≤ kn then .inl (2, i) else .inr (kn + 1, op, true, tK B i :: relW (if str (tK B i) = 4 then 5 else str (tK B i)) W)
/-- what stands in the Reader within an expression -/
def ft (m : xM) : Prop := m 2 5 = 0 ∧ m 2 6 = -1
theorem ft_row {m m' : xM} (h : ft m) (h2 : m' 2 = m 2) : ft m' := by
  unfold ft
  rw [h2]
  exact h
def xst (P : Nat) (W : List Int32) (kn op : Nat) (m : xM) : Prop := stk W m ∧ m 2 3 = Int32.ofNat op ∧ m 2 4 = Int32.ofNat kn ∧ 0 ≤ (m (P + 17) 4).toInt ∧ ft m
def xfr (P : Nat) (m m' : xM) : Prop := ∀ a : Nat, ¬ a = 2 → ¬ a = 6 → ¬ a = P + 17 → ¬ a = P + 18 → ¬ a = P + 19 → m' a = m a
def c5 : List Int32 → Nat
  | [] => 0
  | x :: r => (if x = 5 then 1 else 0) + c5 r
def xin (W : List Int32) (kn op : Nat) : Prop := c5 W = op ∧ W.length ≤ op + kn ∧ op ≤ 8 ∧ kn ≤ 64 ∧ ∀ x ∈ W, x = 5 ∨ 1 ≤ str x
theorem str5 : str 5 = 0 := by decide
theorem str46 : str 46 = 3 := by decide
theorem relW_mem {s : Nat} : ∀ (W : List Int32) (x : Int32), x ∈ relW s W → x ∈ W
  | [], _, h => h
  | y :: r, x, h => by
    have h : x ∈ (if s ≤ str y then relW s r else y :: r) := h
    split at h
    · exact List.mem_cons_of_mem _ (relW_mem r x h)
    · exact h
theorem relW_c5 {s : Nat} (hs : 1 ≤ s) : ∀ W : List Int32, c5 (relW s W) = c5 W
  | [] => rfl
  | y :: r => by
    show c5 (if s ≤ str y then relW s r else y :: r) = (if y = 5 then 1 else 0) + c5 r
    split
    · next h => rw [relW_c5 hs r, if_neg (fun q => by rw [q, str5] at h; omega), Nat.zero_add]
    · rfl
theorem relW_hd {s : Nat} : ∀ (W : List Int32) (x : Int32) (R : List Int32), relW s W = x :: R → ¬ s ≤ str x
  | [], _, _, h => by cases h
  | y :: r, x, R, h => by
    have h : (if s ≤ str y then relW s r else y :: r) = x :: R := h
    split at h
    · exact relW_hd r x R h
    · next q => cases h; exact q
/-- behind all signs an open bracket waits -/
theorem rel_open {W : List Int32} {kn op : Nat} (h : xin W kn op) (ho : ¬ op = 0) : ∃ R : List Int32, relW 1 W = 5 :: R := by
  have h1 := relW_c5 (s := 1) (by omega) W
  cases hR : relW 1 W with
  | nil =>
    rw [hR, h.1] at h1
    exact absurd h1.symm ho
  | cons x R =>
    have h2 := relW_hd W x R hR
    rcases h.2.2.2.2 x (relW_mem W x (by rw [hR]; exact List.mem_cons_self)) with q | q
    · rw [q]; exact ⟨R, rfl⟩
    · exact absurd q h2
theorem ct_begin {nf : Bool} {xs : List Int32} {d : Nat} {m : xM} {g : xL} {G : xG} {B : eB} {P i kn op : Nat} {W : List Int32} (hG : GP G P) (hs0 : sC B i m) (hX : xst P W kn op m) (hI : xin W kn op) : CT nf xs d 39 [.ref 2, .ref (P + 17)] m g G (OC B (begF B i kn op W) g (fun s m' => xst P s.2.2.2 s.1 s.2.1 m' ∧ xfr P m m')) := by
  refine CT.of (c := 4) (ini := false) (nL := 3) (rt := some .boolean) (tab := zt39) rfl (fun d' r h' N hd hr => ?_)
  replace hr : RR nf xs d' 4 false 3 (some .boolean) zt39 G r h' N (0, [(0, .ref 2), (1, .ref (P + 17))], [], m, g) := hr
  have k1 : (1 : Int32).toInt = 1 := rfl
  have k2 : (2 : Int32).toInt = 2 := rfl
  have k5 : (5 : Int32).toInt = 5 := rfl
  have k8 : (8 : Int32).toInt = 8 := rfl
  have k46 : (46 : Int32).toInt = 46 := rfl
  have k9999 : (9999 : Int32).toInt = 9999 := rfl
  have h7 := hG.2.2.2.2.1
  have hW := hX.1
  obtain ⟨i1, i2, i3, i4, i5⟩ := hI
  have q1 : (Int32.ofNat op).toInt = (op : Int) := xn_int (by omega)
  replace hr := hr.go (s_aload_n t39_0 rfl)
  replace hr := hr.go (s_getr t39_1 (hG.2.1))
  replace hr := hr.go (s_getf t39_4)
  rw [hs0.2.2.2.2.1] at hr
  replace hr := hr.go (s_istore_n (ls' := [(2, _), (0, _), (1, _)]) t39_7 rfl)
  replace hr := hr.go (s_iload_n t39_8 rfl)
  replace hr := hr.go (s_k t39_9)
  rcases hr.bNe t39_10 with ⟨b10, hr⟩ | ⟨b10, hr⟩
  · replace hr := hr.go (s_iload_n t39_45 rfl)
    replace hr := hr.go (s_k t39_46)
    rcases hr.bNe t39_48 with ⟨b48, hr⟩ | ⟨b48, hr⟩
    · replace hr := hr.go (s_iload_n t39_82 rfl)
      replace hr := hr.go (s_k t39_83)
      rcases hr.bEq t39_84 with ⟨b84, hr⟩ | ⟨b84, hr⟩
      · skip
        replace hr := hr.go (s_iload_n t39_100 rfl)
        replace hr := hr.go (s_k t39_101)
        rcases hr.bNe t39_102 with ⟨b102, hr⟩ | ⟨b102, hr⟩
        · skip
          replace hr := hr.go (s_aload_n t39_124 rfl)
          replace hr := hr.go (s_iload_n t39_125 rfl)
          replace hr := hr.go (s_aload_n t39_126 rfl)
          replace hr := hr.go (s_getr t39_127 (hG.2.1))
          replace hr := hr.go (s_getf t39_130)
          obtain ⟨m2, ⟨hz2, hf2⟩, hr⟩ := hr.fvN t39_133 rfl rfl (ct_lput hG hX.2.2.2.1)
          replace hr := hr.go (s_aload_n t39_136 rfl)
          obtain ⟨r1, m1, _, ⟨rfl, ho⟩, hr⟩ := hr.callv t39_137 rfl rfl (ct_count (kn := kn) hG (sC_row hs0 (hf2 1 (by omega) (by omega) (by omega)) (hf2 4 (by omega) (by omega) (by omega)) (hf2 3 (by omega) (by omega) (by omega))) (by rw [hf2 2 (by omega) (by omega) (by omega)]; exact hX.2.2.1) i4)
          rcases Nat.lt_or_ge kn 64 with h64 | h64
          · skip
            unfold cntF at ho
            rw [if_neg (by omega)] at ho
            obtain ⟨rfl, rfl⟩ := ho
            obtain ⟨rfl, hs⟩ := hr.iret t39_140
            unfold begF
            rw [if_neg b10, if_neg b48, if_neg (fun q => q.1 b84), if_neg (fun q => b102 q.1), if_neg (by omega)]
            refine ⟨_, _, hs, rfl, rfl, ⟨?_, ?_, ?_, ?_, ?_⟩, fun a a1 a2 a3 a4 a5 => ?_⟩
            · exact stk_row hW (by rw [xu_oth (by decide), hf2 2 (by omega) (by omega) (by omega)]) (by rw [xu_row (by decide), hf2 6 (by omega) (by omega) (by omega)])
            · rw [xu_oth (by decide), hf2 2 (by omega) (by omega) (by omega)]; exact hX.2.1
            · rw [xu_same]
            · rw [xu_row (by omega)]; exact hz2
            · exact ⟨by rw [xu_oth (by decide), hf2 2 (by omega) (by omega) (by omega)]; exact hX.2.2.2.2.1, by rw [xu_oth (by decide), hf2 2 (by omega) (by omega) (by omega)]; exact hX.2.2.2.2.2⟩
            · rw [xu_row a1, hf2 a a3 a4 a5]
          · skip
            unfold cntF at ho
            rw [if_pos h64] at ho
            obtain ⟨rfl, ho⟩ := ho
            obtain ⟨rfl, hs⟩ := hr.iret t39_140
            unfold begF
            rw [if_neg b10, if_neg b48, if_neg (fun q => q.1 b84), if_neg (fun q => b102 q.1), if_pos h64]
            exact ⟨_, _, hs, rfl, rfl, ho⟩
        · replace hr := hr.go (s_aload_n t39_105 rfl)
          replace hr := hr.go (s_getr t39_106 (hG.2.1))
          replace hr := hr.go (s_getf t39_109)
          rw [hs0.2.2.2.2.2.1] at hr
          replace hr := hr.go (s_k t39_112)
          rcases hr.bLe t39_115 with ⟨b115, hr⟩ | ⟨b115, hr⟩
          · skip
            replace hr := hr.go (s_aload_n t39_124 rfl)
            replace hr := hr.go (s_iload_n t39_125 rfl)
            replace hr := hr.go (s_aload_n t39_126 rfl)
            replace hr := hr.go (s_getr t39_127 (hG.2.1))
            replace hr := hr.go (s_getf t39_130)
            obtain ⟨m2, ⟨hz2, hf2⟩, hr⟩ := hr.fvN t39_133 rfl rfl (ct_lput hG hX.2.2.2.1)
            replace hr := hr.go (s_aload_n t39_136 rfl)
            obtain ⟨r1, m1, _, ⟨rfl, ho⟩, hr⟩ := hr.callv t39_137 rfl rfl (ct_count (kn := kn) hG (sC_row hs0 (hf2 1 (by omega) (by omega) (by omega)) (hf2 4 (by omega) (by omega) (by omega)) (hf2 3 (by omega) (by omega) (by omega))) (by rw [hf2 2 (by omega) (by omega) (by omega)]; exact hX.2.2.1) i4)
            rcases Nat.lt_or_ge kn 64 with h64 | h64
            · skip
              unfold cntF at ho
              rw [if_neg (by omega)] at ho
              obtain ⟨rfl, rfl⟩ := ho
              obtain ⟨rfl, hs⟩ := hr.iret t39_140
              unfold begF
              rw [if_neg b10, if_neg b48, if_neg (fun q => q.1 b84), if_neg (by omega), if_neg (by omega)]
              refine ⟨_, _, hs, rfl, rfl, ⟨?_, ?_, ?_, ?_, ?_⟩, fun a a1 a2 a3 a4 a5 => ?_⟩
              · exact stk_row hW (by rw [xu_oth (by decide), hf2 2 (by omega) (by omega) (by omega)]) (by rw [xu_row (by decide), hf2 6 (by omega) (by omega) (by omega)])
              · rw [xu_oth (by decide), hf2 2 (by omega) (by omega) (by omega)]; exact hX.2.1
              · rw [xu_same]
              · rw [xu_row (by omega)]; exact hz2
              · exact ⟨by rw [xu_oth (by decide), hf2 2 (by omega) (by omega) (by omega)]; exact hX.2.2.2.2.1, by rw [xu_oth (by decide), hf2 2 (by omega) (by omega) (by omega)]; exact hX.2.2.2.2.2⟩
              · rw [xu_row a1, hf2 a a3 a4 a5]
            · skip
              unfold cntF at ho
              rw [if_pos h64] at ho
              obtain ⟨rfl, ho⟩ := ho
              obtain ⟨rfl, hs⟩ := hr.iret t39_140
              unfold begF
              rw [if_neg b10, if_neg b48, if_neg (fun q => q.1 b84), if_neg (by omega), if_pos h64]
              exact ⟨_, _, hs, rfl, rfl, ho⟩
          · replace hr := hr.go (s_aload_n t39_118 rfl)
            replace hr := hr.go (s_k t39_119)
            obtain ⟨_, m1, _, ⟨rfl, rfl, ho⟩, hr⟩ := hr.callv t39_120 rfl rfl (ct_ref (B := B) (i := i) (f := 2) (α := Unit) (Q := fun _ _ => True) hG.2.1 (hs0))
            obtain ⟨rfl, hs⟩ := hr.iret t39_123
            unfold begF
            rw [if_neg b10, if_neg b48, if_neg (fun q => q.1 b84), if_pos ⟨b102, by omega⟩]
            exact ⟨_, _, hs, rfl, rfl, ho⟩
      · replace hr := hr.go (s_iload_n t39_87 rfl)
        replace hr := hr.csI t39_88 rfl rfl (ct_isQ)
        rcases hr.zNe t39_91 with ⟨b91, hr⟩ | ⟨b91, hr⟩
        · skip
          replace hr := hr.go (s_iload_n t39_100 rfl)
          replace hr := hr.go (s_k t39_101)
          rcases hr.bNe t39_102 with ⟨b102, hr⟩ | ⟨b102, hr⟩
          · skip
            replace hr := hr.go (s_aload_n t39_124 rfl)
            replace hr := hr.go (s_iload_n t39_125 rfl)
            replace hr := hr.go (s_aload_n t39_126 rfl)
            replace hr := hr.go (s_getr t39_127 (hG.2.1))
            replace hr := hr.go (s_getf t39_130)
            obtain ⟨m2, ⟨hz2, hf2⟩, hr⟩ := hr.fvN t39_133 rfl rfl (ct_lput hG hX.2.2.2.1)
            replace hr := hr.go (s_aload_n t39_136 rfl)
            obtain ⟨r1, m1, _, ⟨rfl, ho⟩, hr⟩ := hr.callv t39_137 rfl rfl (ct_count (kn := kn) hG (sC_row hs0 (hf2 1 (by omega) (by omega) (by omega)) (hf2 4 (by omega) (by omega) (by omega)) (hf2 3 (by omega) (by omega) (by omega))) (by rw [hf2 2 (by omega) (by omega) (by omega)]; exact hX.2.2.1) i4)
            rcases Nat.lt_or_ge kn 64 with h64 | h64
            · skip
              unfold cntF at ho
              rw [if_neg (by omega)] at ho
              obtain ⟨rfl, rfl⟩ := ho
              obtain ⟨rfl, hs⟩ := hr.iret t39_140
              unfold begF
              rw [if_neg b10, if_neg b48, if_neg (fun q => by rw [bI_1 b91] at q; exact absurd q.2 (by decide)), if_neg (fun q => b102 q.1), if_neg (by omega)]
              refine ⟨_, _, hs, rfl, rfl, ⟨?_, ?_, ?_, ?_, ?_⟩, fun a a1 a2 a3 a4 a5 => ?_⟩
              · exact stk_row hW (by rw [xu_oth (by decide), hf2 2 (by omega) (by omega) (by omega)]) (by rw [xu_row (by decide), hf2 6 (by omega) (by omega) (by omega)])
              · rw [xu_oth (by decide), hf2 2 (by omega) (by omega) (by omega)]; exact hX.2.1
              · rw [xu_same]
              · rw [xu_row (by omega)]; exact hz2
              · exact ⟨by rw [xu_oth (by decide), hf2 2 (by omega) (by omega) (by omega)]; exact hX.2.2.2.2.1, by rw [xu_oth (by decide), hf2 2 (by omega) (by omega) (by omega)]; exact hX.2.2.2.2.2⟩
              · rw [xu_row a1, hf2 a a3 a4 a5]
            · skip
              unfold cntF at ho
              rw [if_pos h64] at ho
              obtain ⟨rfl, ho⟩ := ho
              obtain ⟨rfl, hs⟩ := hr.iret t39_140
              unfold begF
              rw [if_neg b10, if_neg b48, if_neg (fun q => by rw [bI_1 b91] at q; exact absurd q.2 (by decide)), if_neg (fun q => b102 q.1), if_pos h64]
              exact ⟨_, _, hs, rfl, rfl, ho⟩
          · replace hr := hr.go (s_aload_n t39_105 rfl)
            replace hr := hr.go (s_getr t39_106 (hG.2.1))
            replace hr := hr.go (s_getf t39_109)
            rw [hs0.2.2.2.2.2.1] at hr
            replace hr := hr.go (s_k t39_112)
            rcases hr.bLe t39_115 with ⟨b115, hr⟩ | ⟨b115, hr⟩
            · skip
              replace hr := hr.go (s_aload_n t39_124 rfl)
              replace hr := hr.go (s_iload_n t39_125 rfl)
              replace hr := hr.go (s_aload_n t39_126 rfl)
              replace hr := hr.go (s_getr t39_127 (hG.2.1))
              replace hr := hr.go (s_getf t39_130)
              obtain ⟨m2, ⟨hz2, hf2⟩, hr⟩ := hr.fvN t39_133 rfl rfl (ct_lput hG hX.2.2.2.1)
              replace hr := hr.go (s_aload_n t39_136 rfl)
              obtain ⟨r1, m1, _, ⟨rfl, ho⟩, hr⟩ := hr.callv t39_137 rfl rfl (ct_count (kn := kn) hG (sC_row hs0 (hf2 1 (by omega) (by omega) (by omega)) (hf2 4 (by omega) (by omega) (by omega)) (hf2 3 (by omega) (by omega) (by omega))) (by rw [hf2 2 (by omega) (by omega) (by omega)]; exact hX.2.2.1) i4)
              rcases Nat.lt_or_ge kn 64 with h64 | h64
              · skip
                unfold cntF at ho
                rw [if_neg (by omega)] at ho
                obtain ⟨rfl, rfl⟩ := ho
                obtain ⟨rfl, hs⟩ := hr.iret t39_140
                unfold begF
                rw [if_neg b10, if_neg b48, if_neg (fun q => by rw [bI_1 b91] at q; exact absurd q.2 (by decide)), if_neg (by omega), if_neg (by omega)]
                refine ⟨_, _, hs, rfl, rfl, ⟨?_, ?_, ?_, ?_, ?_⟩, fun a a1 a2 a3 a4 a5 => ?_⟩
                · exact stk_row hW (by rw [xu_oth (by decide), hf2 2 (by omega) (by omega) (by omega)]) (by rw [xu_row (by decide), hf2 6 (by omega) (by omega) (by omega)])
                · rw [xu_oth (by decide), hf2 2 (by omega) (by omega) (by omega)]; exact hX.2.1
                · rw [xu_same]
                · rw [xu_row (by omega)]; exact hz2
                · exact ⟨by rw [xu_oth (by decide), hf2 2 (by omega) (by omega) (by omega)]; exact hX.2.2.2.2.1, by rw [xu_oth (by decide), hf2 2 (by omega) (by omega) (by omega)]; exact hX.2.2.2.2.2⟩
                · rw [xu_row a1, hf2 a a3 a4 a5]
              · skip
                unfold cntF at ho
                rw [if_pos h64] at ho
                obtain ⟨rfl, ho⟩ := ho
                obtain ⟨rfl, hs⟩ := hr.iret t39_140
                unfold begF
                rw [if_neg b10, if_neg b48, if_neg (fun q => by rw [bI_1 b91] at q; exact absurd q.2 (by decide)), if_neg (by omega), if_pos h64]
                exact ⟨_, _, hs, rfl, rfl, ho⟩
            · replace hr := hr.go (s_aload_n t39_118 rfl)
              replace hr := hr.go (s_k t39_119)
              obtain ⟨_, m1, _, ⟨rfl, rfl, ho⟩, hr⟩ := hr.callv t39_120 rfl rfl (ct_ref (B := B) (i := i) (f := 2) (α := Unit) (Q := fun _ _ => True) hG.2.1 (hs0))
              obtain ⟨rfl, hs⟩ := hr.iret t39_123
              unfold begF
              rw [if_neg b10, if_neg b48, if_neg (fun q => by rw [bI_1 b91] at q; exact absurd q.2 (by decide)), if_pos ⟨b102, by omega⟩]
              exact ⟨_, _, hs, rfl, rfl, ho⟩
        · replace hr := hr.go (s_aload_n t39_94 rfl)
          replace hr := hr.go (s_k t39_95)
          obtain ⟨_, m1, _, ⟨rfl, rfl, ho⟩, hr⟩ := hr.callv t39_96 rfl rfl (ct_ref (B := B) (i := i) (f := 1) (α := Unit) (Q := fun _ _ => True) hG.2.1 (hs0))
          obtain ⟨rfl, hs⟩ := hr.iret t39_99
          unfold begF
          rw [if_neg b10, if_neg b48, if_pos ⟨b84, bI_0 b91⟩]
          exact ⟨_, _, hs, rfl, rfl, ho⟩
    · replace hr := hr.go (s_aload_n t39_51 rfl)
      replace hr := hr.cvI t39_52 rfl rfl (ct_top hG hW)
      replace hr := hr.csI t39_55 rfl rfl (ct_str)
      replace hr := hr.go (s_k t39_58)
      replace hr := hr.csI t39_60 rfl rfl (ct_str)
      have q2 : (Int32.ofNat (str (W.headD 0))).toInt = ((str (W.headD 0) : Nat) : Int) := xn_int (by have := str_le (W.headD 0); omega)
      rcases hr.bLe t39_63 with ⟨b63, hr⟩ | ⟨b63, hr⟩
      · replace hr := hr.go (s_aload_n t39_72 rfl)
        replace hr := hr.go (s_iload_n t39_73 rfl)
        replace hr := hr.cvN t39_74 rfl rfl (ct_hold hG hW)
        rcases Nat.lt_or_ge kn 64 with h64 | h64
        · skip
          rw [if_pos (by omega : W.length < 72)] at hr
          skip
          replace hr := hr.go (s_aload_n t39_77 rfl)
          obtain ⟨r1, m1, _, ⟨rfl, ho⟩, hr⟩ := hr.callv t39_78 rfl rfl (ct_count (kn := kn) hG (sC_row hs0 (by rw [xu_row (by decide), xu_row (by decide)]) (by rw [xu_row (by decide), xu_row (by decide)]) (by rw [xu_row (by decide), xu_row (by decide)])) (by rw [xu_oth (by decide), xu_row (by decide)]; exact hX.2.2.1) i4)
          unfold cntF at ho
          rw [if_neg (by omega)] at ho
          obtain ⟨rfl, rfl⟩ := ho
          obtain ⟨rfl, hs⟩ := hr.iret t39_81
          unfold begF
          rw [if_neg b10, if_pos b48, if_neg (by rw [str46] at b63; have k3 : (Int32.ofNat 3).toInt = 3 := rfl; omega), if_neg (by omega)]
          refine ⟨_, _, hs, rfl, rfl, ⟨?_, ?_, ?_, ?_, ?_⟩, fun a a1 a2 a3 a4 a5 => ?_⟩
          · rw [b48]
            exact stk_row (stk_push hW (by omega)) (xu_oth (by decide)) (xu_row (by decide))
          · rw [xu_oth (by decide), xu_oth (by decide), xu_row (by decide)]; exact hX.2.1
          · rw [xu_same]
          · rw [xu_row (by omega), xu_row (by omega), xu_row (by omega)]; exact hX.2.2.2.1
          · exact ⟨by rw [xu_oth (by decide), xu_oth (by decide), xu_row (by decide)]; exact hX.2.2.2.2.1, by rw [xu_oth (by decide), xu_oth (by decide), xu_row (by decide)]; exact hX.2.2.2.2.2⟩
          · rw [xu_row a1, xu_row a1, xu_row a2]
        · skip
          generalize hM : (if W.length < 72 then xu (xu m 6 W.length (tK B i)) 2 2 (Int32.ofNat (W.length + 1)) else m) = M at hr
          have hM1 : sC B i M := by
            rw [← hM]
            split
            · exact sC_row hs0 (by rw [xu_row (by decide), xu_row (by decide)]) (by rw [xu_row (by decide), xu_row (by decide)]) (by rw [xu_row (by decide), xu_row (by decide)])
            · exact hs0
          have hM2 : M 2 4 = Int32.ofNat kn := by
            rw [← hM]
            split
            · rw [xu_oth (by decide), xu_row (by decide)]; exact hX.2.2.1
            · exact hX.2.2.1
          skip
          replace hr := hr.go (s_aload_n t39_77 rfl)
          obtain ⟨r1, m1, _, ⟨rfl, ho⟩, hr⟩ := hr.callv t39_78 rfl rfl (ct_count (kn := kn) hG (hM1) (hM2) i4)
          unfold cntF at ho
          rw [if_pos h64] at ho
          obtain ⟨rfl, ho⟩ := ho
          obtain ⟨rfl, hs⟩ := hr.iret t39_81
          unfold begF
          rw [if_neg b10, if_pos b48, if_neg (by rw [str46] at b63; have k3 : (Int32.ofNat 3).toInt = 3 := rfl; omega), if_pos h64]
          exact ⟨_, _, hs, rfl, rfl, ho⟩
      · replace hr := hr.go (s_aload_n t39_66 rfl)
        replace hr := hr.go (s_k t39_67)
        obtain ⟨_, m1, _, ⟨rfl, rfl, ho⟩, hr⟩ := hr.callv t39_68 rfl rfl (ct_ref (B := B) (i := i) (f := 1) (α := Unit) (Q := fun _ _ => True) hG.2.1 (hs0))
        obtain ⟨rfl, hs⟩ := hr.iret t39_71
        unfold begF
        rw [if_neg b10, if_pos b48, if_pos (by rw [str46] at b63; have k3 : (Int32.ofNat 3).toInt = 3 := rfl; omega)]
        exact ⟨_, _, hs, rfl, rfl, ho⟩
  · replace hr := hr.go (s_aload_n t39_13 rfl)
    replace hr := hr.go (s_getf t39_14)
    replace hr := hr.go (s_k t39_17)
    rw [hX.2.1] at hr
    rcases hr.bLt t39_19 with ⟨b19, hr⟩ | ⟨b19, hr⟩
    · replace hr := hr.go (s_aload_n t39_28 rfl)
      replace hr := hr.go (s_dup t39_29 rfl)
      replace hr := hr.go (s_getf t39_30)
      replace hr := hr.go (s_k t39_33)
      replace hr := hr.go (s_iadd t39_34)
      replace hr := hr.go (s_putf t39_35)
      replace hr := hr.go (s_aload_n t39_38 rfl)
      replace hr := hr.go (s_iload_n t39_39 rfl)
      replace hr := hr.cvN t39_40 rfl rfl (ct_hold hG (stk_row hW (xu_oth (by decide)) (xu_row (by decide))))
      rw [if_pos (by omega : W.length < 72)] at hr
      replace hr := hr.go (s_k t39_43)
      obtain ⟨rfl, hs⟩ := hr.iret t39_44
      unfold begF
      rw [if_pos b10, if_neg (by omega)]
      refine ⟨_, _, hs, rfl, rfl, ⟨?_, ?_, ?_, ?_, ?_⟩, fun a a1 a2 a3 a4 a5 => ?_⟩
      · rw [b10]
        exact stk_push (stk_row hW (xu_oth (by decide)) (xu_row (by decide))) (by omega)
      · rw [xu_oth (by decide), xu_row (by decide), xu_same, hX.2.1, xn_1]
      · rw [xu_oth (by decide), xu_row (by decide), xu_oth (by decide)]; exact hX.2.2.1
      · rw [xu_row (by omega), xu_row (by omega), xu_row (by omega)]; exact hX.2.2.2.1
      · exact ⟨by rw [xu_oth (by decide), xu_row (by decide), xu_oth (by decide)]; exact hX.2.2.2.2.1, by rw [xu_oth (by decide), xu_row (by decide), xu_oth (by decide)]; exact hX.2.2.2.2.2⟩
      · rw [xu_row a1, xu_row a2, xu_row a1]
    · replace hr := hr.go (s_aload_n t39_22 rfl)
      replace hr := hr.go (s_k t39_23)
      obtain ⟨_, m1, _, ⟨rfl, rfl, ho⟩, hr⟩ := hr.callv t39_24 rfl rfl (ct_ref (B := B) (i := i) (f := 2) (α := Unit) (Q := fun _ _ => True) hG.2.1 (hs0))
      obtain ⟨rfl, hs⟩ := hr.iret t39_27
      unfold begF
      rw [if_pos b10, if_pos (by omega)]
      exact ⟨_, _, hs, rfl, rfl, ho⟩

