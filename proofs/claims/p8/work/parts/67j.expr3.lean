/-! The class Reader: an expression. -/
/-- token by token; none: not at its end yet -/
def gxs (B : eB) : Nat → Nat → Nat → Nat → Bool → List Int32 → Option ((Nat × Nat) ⊕ (Nat × Nat))
  | 0, _, _, _, _, _ => none
  | f + 1, i, kn, op, wt, W => bif wt then (match begF B i kn op W with
      | .inl e => some (.inl e)
      | .inr s => gxs B f (i + 1) s.1 s.2.1 s.2.2.1 s.2.2.2)
    else if tK B i = 4 ∧ op = 0 then some (.inr (kn, i)) else (match behF B i kn op W with
      | .inl e => some (.inl e)
      | .inr s => gxs B f (i + 1) s.1 s.2.1 s.2.2.1 s.2.2.2)
theorem gxs_b1 {B : eB} {f i kn op : Nat} {W : List Int32} {e : Nat × Nat} (h : begF B i kn op W = .inl e) : gxs B (f + 1) i kn op true W = some (.inl e) := by
  show (match begF B i kn op W with
      | .inl e => some (Sum.inl e)
      | .inr s => gxs B f (i + 1) s.1 s.2.1 s.2.2.1 s.2.2.2) = _
  rw [h]
theorem gxs_b2 {B : eB} {f i kn op : Nat} {W : List Int32} {s : Nat × Nat × Bool × List Int32} (h : begF B i kn op W = .inr s) : gxs B (f + 1) i kn op true W = gxs B f (i + 1) s.1 s.2.1 s.2.2.1 s.2.2.2 := by
  show (match begF B i kn op W with
      | .inl e => some (Sum.inl e)
      | .inr s => gxs B f (i + 1) s.1 s.2.1 s.2.2.1 s.2.2.2) = _
  rw [h]
theorem gxs_h1 {B : eB} {f i kn op : Nat} {W : List Int32} {e : Nat × Nat} (hn : ¬ (tK B i = 4 ∧ op = 0)) (h : behF B i kn op W = .inl e) : gxs B (f + 1) i kn op false W = some (.inl e) := by
  show (if tK B i = 4 ∧ op = 0 then some (.inr (kn, i)) else (match behF B i kn op W with
      | .inl e => some (.inl e)
      | .inr s => gxs B f (i + 1) s.1 s.2.1 s.2.2.1 s.2.2.2)) = _
  rw [if_neg hn, h]
theorem gxs_h2 {B : eB} {f i kn op : Nat} {W : List Int32} {s : Nat × Nat × Bool × List Int32} (hn : ¬ (tK B i = 4 ∧ op = 0)) (h : behF B i kn op W = .inr s) : gxs B (f + 1) i kn op false W = gxs B f (i + 1) s.1 s.2.1 s.2.2.1 s.2.2.2 := by
  show (if tK B i = 4 ∧ op = 0 then some (.inr (kn, i)) else (match behF B i kn op W with
      | .inl e => some (.inl e)
      | .inr s => gxs B f (i + 1) s.1 s.2.1 s.2.2.1 s.2.2.2)) = _
  rw [if_neg hn, h]
theorem gxs_e {B : eB} {f i kn op : Nat} {W : List Int32} (hn : tK B i = 4 ∧ op = 0) : gxs B (f + 1) i kn op false W = some (.inr (kn, i)) := by
  show (if tK B i = 4 ∧ op = 0 then some (.inr (kn, i)) else (match behF B i kn op W with
      | .inl e => some (.inl e)
      | .inr s => gxs B f (i + 1) s.1 s.2.1 s.2.2.1 s.2.2.2)) = _
  rw [if_pos hn]
theorem gxs_up {B : eB} : ∀ (f f' i kn op : Nat) (wt : Bool) (W : List Int32) (o : (Nat × Nat) ⊕ (Nat × Nat)), gxs B f i kn op wt W = some o → f ≤ f' → gxs B f' i kn op wt W = some o := by
  intro f
  induction f with
  | zero => intro f' i kn op wt W o h; cases h
  | succ f ih =>
    intro f' i kn op wt W o h hle
    obtain ⟨f', rfl⟩ : ∃ k : Nat, f' = k + 1 := ⟨f' - 1, by omega⟩
    cases wt with
    | true =>
      cases hb : begF B i kn op W with
      | inl e => rw [gxs_b1 hb] at h ⊢; exact h
      | inr s => rw [gxs_b2 hb] at h ⊢; exact ih f' _ _ _ _ _ _ h (by omega)
    | false =>
      by_cases hn : tK B i = 4 ∧ op = 0
      · rw [gxs_e hn] at h ⊢; exact h
      · cases hb : behF B i kn op W with
        | inl e => rw [gxs_h1 hn hb] at h ⊢; exact h
        | inr s => rw [gxs_h2 hn hb] at h ⊢; exact ih f' _ _ _ _ _ _ h (by omega)
theorem gxs_det {B : eB} {f f' i kn op : Nat} {wt : Bool} {W : List Int32} {o o' : (Nat × Nat) ⊕ (Nat × Nat)} (h : gxs B f i kn op wt W = some o) (h' : gxs B f' i kn op wt W = some o') : o = o' := by
  have h1 := gxs_up f (f + f') _ _ _ _ _ _ h (by omega)
  have h2 := gxs_up f' (f + f') _ _ _ _ _ _ h' (by omega)
  rw [h1] at h2
  cases h2
  rfl
theorem gxs_i {B : eB} : ∀ (f i kn op : Nat) (wt : Bool) (W : List Int32) (s : Nat × Nat), gxs B f i kn op wt W = some (.inr s) → i ≤ s.2 := by
  intro f
  induction f with
  | zero => intro i kn op wt W s h; cases h
  | succ f ih =>
    intro i kn op wt W s h
    cases wt with
    | true =>
      cases hb : begF B i kn op W with
      | inl e => rw [gxs_b1 hb] at h; cases h
      | inr t => rw [gxs_b2 hb] at h; have := ih _ _ _ _ _ _ h; omega
    | false =>
      by_cases hn : tK B i = 4 ∧ op = 0
      · rw [gxs_e hn] at h; cases h; exact Nat.le_refl _
      · cases hb : behF B i kn op W with
        | inl e => rw [gxs_h1 hn hb] at h; cases h
        | inr t => rw [gxs_h2 hn hb] at h; have := ih _ _ _ _ _ _ h; omega
theorem beg_in {B : eB} {i kn op : Nat} {W : List Int32} {s : Nat × Nat × Bool × List Int32} (h : begF B i kn op W = .inr s) (hI : xin W kn op) : xin s.2.2.2 s.1 s.2.1 ∧ ¬ tK B i = 0 ∧ s.2.2.1 = !(decide (tK B i = 2) || qty (tK B i)) := by
  obtain ⟨i1, i2, i3, i4, i5⟩ := hI
  unfold begF at h
  split at h
  · next c1 =>
    split at h
    · cases h
    · cases h
      refine ⟨⟨?_, ?_, ?_, i4, fun x hx => ?_⟩, by rw [c1]; decide, by rw [c1]; exact (by decide : true = !(decide ((5 : Int32) = 2) || qty 5))⟩
      · show (if (5 : Int32) = 5 then 1 else 0) + c5 W = op + 1
        rw [if_pos rfl]; omega
      · show W.length + 1 ≤ op + 1 + kn; omega
      · show op + 1 ≤ 8; omega
      · rcases List.mem_cons.mp hx with q | q
        · exact Or.inl q
        · exact i5 x q
  · split at h
    · next c1 =>
      split at h
      · cases h
      · split at h
        · cases h
        · cases h
          refine ⟨⟨?_, ?_, i3, ?_, fun x hx => ?_⟩, by rw [c1]; decide, by rw [c1]; exact (by decide : true = !(decide ((46 : Int32) = 2) || qty 46))⟩
          · show (if (46 : Int32) = 5 then 1 else 0) + c5 W = op
            rw [if_neg (by decide)]; omega
          · show W.length + 1 ≤ op + (kn + 1); omega
          · show kn + 1 ≤ 64; omega
          · rcases List.mem_cons.mp hx with q | q
            · exact Or.inr (by rw [q]; decide)
            · exact i5 x q
    · split at h
      · cases h
      · next c3 =>
        split at h
        · cases h
        · split at h
          · cases h
          · cases h
            have hq : (decide (tK B i = 2) || qty (tK B i)) = true := by
              by_cases z : tK B i = 2
              · rw [decide_eq_true z]; rfl
              · cases hb : qty (tK B i) with
                | true => rw [Bool.or_true]
                | false => exact absurd ⟨z, hb⟩ c3
            refine ⟨⟨i1, ?_, i3, ?_, i5⟩, fun z => ?_, ?_⟩
            · show W.length ≤ op + (kn + 1); omega
            · show kn + 1 ≤ 64; omega
            · rw [z] at hq; exact absurd hq (by decide)
            · rw [hq]; rfl
theorem beh_in {B : eB} {i kn op : Nat} {W : List Int32} {s : Nat × Nat × Bool × List Int32} (h : behF B i kn op W = .inr s) (hI : xin W kn op) : xin s.2.2.2 s.1 s.2.1 ∧ ¬ tK B i = 0 ∧ s.2.2.1 = !decide (tK B i = 6) := by
  have hI0 := hI
  obtain ⟨i1, i2, i3, i4, i5⟩ := hI
  unfold behF at h
  split at h
  · next c1 =>
    split at h
    · cases h
    · next c2 =>
      cases h
      obtain ⟨R, hR⟩ := rel_open hI0 c2
      have h1 := relW_c5 (s := 1) (by omega) W
      have h2 := relW_len (s := 1) W
      have h3 := fun x => relW_mem (s := 1) W x
      dsimp only
      rw [hR] at h1 h2 h3 ⊢
      have h1 : (if (5 : Int32) = 5 then 1 else 0) + c5 R = c5 W := h1
      rw [if_pos rfl] at h1
      rw [List.length_cons] at h2
      refine ⟨⟨?_, ?_, ?_, i4, fun x hx => i5 x (h3 x (List.mem_cons_of_mem _ hx))⟩, by rw [c1]; decide, by rw [c1]; decide⟩
      · show c5 R = op - 1; omega
      · show R.length ≤ op - 1 + kn; omega
      · show op - 1 ≤ 8; omega
  · next c1 =>
    split at h
    · cases h
    · next c2 =>
      split at h
      · cases h
      · split at h
        · cases h
        · cases h
          have hs : 1 ≤ str (tK B i) := by
            have : ¬ str (tK B i) = 0 := fun q => c2 (Or.inl q)
            omega
          have h5 : ¬ tK B i = 5 := fun q => by rw [q, str5] at hs; omega
          have hx1 : 1 ≤ (if str (tK B i) = 4 then 5 else str (tK B i)) := by split <;> omega
          have h1 := relW_c5 hx1 W
          have h2 := relW_len (s := if str (tK B i) = 4 then 5 else str (tK B i)) W
          refine ⟨⟨?_, ?_, i3, ?_, fun x hx => ?_⟩, fun z => by rw [z] at hs; exact absurd hs (by decide), by rw [decide_eq_false c1]; rfl⟩
          · show (if tK B i = 5 then 1 else 0) + c5 (relW _ W) = op
            rw [if_neg h5, h1]; omega
          · show (relW _ W).length + 1 ≤ op + (kn + 1); omega
          · show kn + 1 ≤ 64; omega
          · rcases List.mem_cons.mp hx with q | q
            · exact Or.inr (by rw [q]; exact hs)
            · exact i5 x (relW_mem W x q)
def efr (P : Nat) (m m' : xM) : Prop := ∀ a : Nat, ¬ a = 2 → ¬ a = 3 → ¬ a = 6 → ¬ a = P + 17 → ¬ a = P + 18 → ¬ a = P + 19 → m' a = m a
/-- behind an expression: knots counted, the token -/
def eQ (B : eB) (P : Nat) (m : xM) (s : Nat × Nat) (m' : xM) : Prop := sC B s.2 m' ∧ tK B s.2 = 4 ∧ m' 2 4 = Int32.ofNat s.1 ∧ s.1 ≤ 64 ∧ 0 ≤ (m' (P + 17) 4).toInt ∧ ft m' ∧ efr P m m'
theorem xst_row {P : Nat} {W : List Int32} {kn op : Nat} {m m' : xM} (h : xst P W kn op m) (h2 : m' 2 = m 2) (h6 : m' 6 = m 6) (h7 : m' (P + 17) = m (P + 17)) : xst P W kn op m' := by
  unfold xst
  rw [h2, h7]
  exact ⟨stk_row h.1 (by rw [h2]) h6, h.2.1, h.2.2.1, h.2.2.2.1, ft_row h.2.2.2.2 h2⟩
theorem lp37 {nf : Bool} {xs : List Int32} {d : Nat} {g : xL} {G : xG} {r : Option Value} {h' : zH} {B : eB} {P : Nat} (hG : GP G P) (hE : EV B) : ∀ (N q i kn op : Nat) (wt : Bool) (W : List Int32) (m : xM), sC B i m → xst P W kn op m → xin W kn op → q ≤ tps B i → RR nf xs d 4 false 5 (some .boolean) zt37 G r h' N (34, [(4, .int (tK B i)), (3, .int (Int32.ofNat q)), (2, .int (bI wt)), (0, .ref 2), (1, .ref (P + 17))], [], m, g) → ∃ (m' : xM) (g' : xL), HS h' m' g' G ∧ ∃ (f : Nat) (o : (Nat × Nat) ⊕ (Nat × Nat)), gxs B f i kn op wt W = some o ∧ OC B o g (eQ B P m) r m' g' := by
  have h7 := hG.2.2.2.2.1
  have h700 := hE.1
  have qn : (Int32.ofNat B.2.2).toInt = (B.2.2 : Int) := xn_int (by omega)
  intro N
  induction N with
  | zero => intro q i kn op wt W m _ _ _ _ hr; exact hr.no.elim
  | succ N ih =>
    intro q i kn op wt W m hS hX hI hq hr
    have hle1 := tps_le hE (i + 1)
    have hle0 := tps_le hE i
    replace hr := hr.go1 (s_iload_n t37_34 rfl)
    rcases hr.zEq t37_35 with ⟨b35, hr⟩ | ⟨b35, hr⟩
    · obtain rfl : wt = false := bI_0 b35
      replace hr := hr.go (s_iload t37_71 rfl)
      replace hr := hr.go (s_k t37_73)
      rcases hr.bNe t37_74 with ⟨b74, hr⟩ | ⟨b74, hr⟩
      · replace hr := hr.go (s_aload_n t37_92 rfl)
        replace hr := hr.go (s_aload_n t37_93 rfl)
        have hn4 : ¬ (tK B i = 4 ∧ op = 0) := fun q => b74 q.1
        obtain ⟨r1, m1, _, ⟨rfl, ho⟩, hr⟩ := hr.callv t37_94 rfl rfl (ct_behind hG hS hX hI)
        cases hb : behF B i kn op W with
        | inl e =>
          rw [hb] at ho
          obtain ⟨rfl, ho⟩ := ho
          rcases hr.zNe t37_97 with ⟨b97, hr⟩ | ⟨b97, hr⟩
          · exact absurd b97 (by decide)
          · replace hr := hr.go (s_k t37_100)
            obtain ⟨rfl, hs⟩ := hr.iret t37_101
            exact ⟨_, _, hs, 1, .inl e, gxs_h1 hn4 hb, rfl, rfl, ho⟩
        | inr s =>
          rw [hb] at ho
          obtain ⟨rfl, hX1, hf1⟩ := ho
          obtain ⟨hI1, hk0, hwt⟩ := beh_in hb hI
          rcases hr.zNe t37_97 with ⟨b97, hr⟩ | ⟨b97, hr⟩
          · replace hr := hr.go (s_iload t37_102 rfl)
            replace hr := hr.go (s_k t37_104)
            rcases hr.bEq t37_106 with ⟨b106, hr⟩ | ⟨b106, hr⟩
            · have hwv : s.2.2.1 = false := by rw [hwt, decide_eq_true b106]; rfl
              replace hr := hr.go (s_k t37_113)
              replace hr := hr.go (s_istore_n (ls' := [(2, _), (4, _), (3, _), (0, _), (1, _)]) t37_114 rfl)
              replace hr := hr.go (s_aload_n t37_115 rfl)
              replace hr := hr.go (s_getr t37_116 (hG.2.1))
              obtain ⟨m2, ⟨hS2, hf2⟩, hr⟩ := hr.fvN t37_119 rfl rfl (ct_advS hG.1 hE (sC_row hS (hf1 1 (by omega) (by omega) (by omega) (by omega) (by omega)) (hf1 4 (by omega) (by omega) (by omega) (by omega) (by omega)) (hf1 3 (by omega) (by omega) (by omega) (by omega) (by omega))))
              have hgo := tk_go hE hk0
              replace hr := hr.go (s_iinc (ls' := [(3, _), (2, _), (4, _), (0, _), (1, _)]) t37_122 rfl rfl)
              replace hr := hr.go (s_goto t37_125)
              replace hr := hr.go (s_iload_n t37_14 rfl)
              replace hr := hr.go (s_aload_n t37_15 rfl)
              replace hr := hr.go (s_getr t37_16 (hG.2.1))
              replace hr := hr.go (s_getf t37_19)
              rw [hS2.2.2.1, xn_1i] at hr
              have qq : (Int32.ofNat (q + 1)).toInt = ((q + 1 : Nat) : Int) := xn_int (by omega)
              rcases hr.bGt t37_22 with ⟨b22, hr⟩ | ⟨b22, hr⟩
              · exact (by omega : False).elim
              · replace hr := hr.go (s_aload_n t37_25 rfl)
                replace hr := hr.go (s_getr t37_26 (hG.2.1))
                replace hr := hr.go (s_getf t37_29)
                rw [hS2.2.2.2.2.1] at hr
                replace hr := hr.go (s_istore (ls' := [(4, _), (3, _), (2, _), (0, _), (1, _)]) t37_32 rfl)
                obtain ⟨m', g', w1, f, o, w2, w3⟩ := ih (q + 1) (i + 1) s.1 s.2.1 s.2.2.1 s.2.2.2 m2 hS2 (xst_row hX1 (hf2 2 (by decide)) (hf2 6 (by decide)) (hf2 (P + 17) (by omega))) hI1 (by omega) (by rw [hwv]; exact hr)
                refine ⟨m', g', w1, f + 1, o, (gxs_h2 hn4 hb).trans w2, w3.1, ?_⟩
                have w4 := w3.2
                cases o with
                | inl e => exact w4
                | inr t => exact ⟨w4.1, w4.2.1, w4.2.2.1, w4.2.2.2.1, w4.2.2.2.2.1, w4.2.2.2.2.2.1, w4.2.2.2.2.2.2.1, fun a a1 a2 a3 a4 a5 a6 => by rw [w4.2.2.2.2.2.2.2 a a1 a2 a3 a4 a5 a6, hf2 a a2, hf1 a a1 a3 a4 a5 a6]⟩
            · have hwv : s.2.2.1 = true := by rw [hwt, decide_eq_false b106]; rfl
              replace hr := hr.go (s_k t37_109)
              replace hr := hr.go (s_goto t37_110)
              replace hr := hr.go (s_istore_n (ls' := [(2, _), (4, _), (3, _), (0, _), (1, _)]) t37_114 rfl)
              replace hr := hr.go (s_aload_n t37_115 rfl)
              replace hr := hr.go (s_getr t37_116 (hG.2.1))
              obtain ⟨m2, ⟨hS2, hf2⟩, hr⟩ := hr.fvN t37_119 rfl rfl (ct_advS hG.1 hE (sC_row hS (hf1 1 (by omega) (by omega) (by omega) (by omega) (by omega)) (hf1 4 (by omega) (by omega) (by omega) (by omega) (by omega)) (hf1 3 (by omega) (by omega) (by omega) (by omega) (by omega))))
              have hgo := tk_go hE hk0
              replace hr := hr.go (s_iinc (ls' := [(3, _), (2, _), (4, _), (0, _), (1, _)]) t37_122 rfl rfl)
              replace hr := hr.go (s_goto t37_125)
              replace hr := hr.go (s_iload_n t37_14 rfl)
              replace hr := hr.go (s_aload_n t37_15 rfl)
              replace hr := hr.go (s_getr t37_16 (hG.2.1))
              replace hr := hr.go (s_getf t37_19)
              rw [hS2.2.2.1, xn_1i] at hr
              have qq : (Int32.ofNat (q + 1)).toInt = ((q + 1 : Nat) : Int) := xn_int (by omega)
              rcases hr.bGt t37_22 with ⟨b22, hr⟩ | ⟨b22, hr⟩
              · exact (by omega : False).elim
              · replace hr := hr.go (s_aload_n t37_25 rfl)
                replace hr := hr.go (s_getr t37_26 (hG.2.1))
                replace hr := hr.go (s_getf t37_29)
                rw [hS2.2.2.2.2.1] at hr
                replace hr := hr.go (s_istore (ls' := [(4, _), (3, _), (2, _), (0, _), (1, _)]) t37_32 rfl)
                obtain ⟨m', g', w1, f, o, w2, w3⟩ := ih (q + 1) (i + 1) s.1 s.2.1 s.2.2.1 s.2.2.2 m2 hS2 (xst_row hX1 (hf2 2 (by decide)) (hf2 6 (by decide)) (hf2 (P + 17) (by omega))) hI1 (by omega) (by rw [hwv]; exact hr)
                refine ⟨m', g', w1, f + 1, o, (gxs_h2 hn4 hb).trans w2, w3.1, ?_⟩
                have w4 := w3.2
                cases o with
                | inl e => exact w4
                | inr t => exact ⟨w4.1, w4.2.1, w4.2.2.1, w4.2.2.2.1, w4.2.2.2.2.1, w4.2.2.2.2.2.1, w4.2.2.2.2.2.2.1, fun a a1 a2 a3 a4 a5 a6 => by rw [w4.2.2.2.2.2.2.2 a a1 a2 a3 a4 a5 a6, hf2 a a2, hf1 a a1 a3 a4 a5 a6]⟩
          · exact absurd b97 (by decide)
      · replace hr := hr.go (s_aload_n t37_77 rfl)
        replace hr := hr.go (s_getf t37_78)
        rw [hX.2.1] at hr
        rcases hr.zNe t37_81 with ⟨b81, hr⟩ | ⟨b81, hr⟩
        · replace hr := hr.go (s_aload_n t37_92 rfl)
          replace hr := hr.go (s_aload_n t37_93 rfl)
          have hn4 : ¬ (tK B i = 4 ∧ op = 0) := fun q => b81 (by rw [q.2]; rfl)
          obtain ⟨r1, m1, _, ⟨rfl, ho⟩, hr⟩ := hr.callv t37_94 rfl rfl (ct_behind hG hS hX hI)
          cases hb : behF B i kn op W with
          | inl e =>
            rw [hb] at ho
            obtain ⟨rfl, ho⟩ := ho
            rcases hr.zNe t37_97 with ⟨b97, hr⟩ | ⟨b97, hr⟩
            · exact absurd b97 (by decide)
            · replace hr := hr.go (s_k t37_100)
              obtain ⟨rfl, hs⟩ := hr.iret t37_101
              exact ⟨_, _, hs, 1, .inl e, gxs_h1 hn4 hb, rfl, rfl, ho⟩
          | inr s =>
            rw [hb] at ho
            obtain ⟨rfl, hX1, hf1⟩ := ho
            obtain ⟨hI1, hk0, hwt⟩ := beh_in hb hI
            rcases hr.zNe t37_97 with ⟨b97, hr⟩ | ⟨b97, hr⟩
            · replace hr := hr.go (s_iload t37_102 rfl)
              replace hr := hr.go (s_k t37_104)
              rcases hr.bEq t37_106 with ⟨b106, hr⟩ | ⟨b106, hr⟩
              · have hwv : s.2.2.1 = false := by rw [hwt, decide_eq_true b106]; rfl
                replace hr := hr.go (s_k t37_113)
                replace hr := hr.go (s_istore_n (ls' := [(2, _), (4, _), (3, _), (0, _), (1, _)]) t37_114 rfl)
                replace hr := hr.go (s_aload_n t37_115 rfl)
                replace hr := hr.go (s_getr t37_116 (hG.2.1))
                obtain ⟨m2, ⟨hS2, hf2⟩, hr⟩ := hr.fvN t37_119 rfl rfl (ct_advS hG.1 hE (sC_row hS (hf1 1 (by omega) (by omega) (by omega) (by omega) (by omega)) (hf1 4 (by omega) (by omega) (by omega) (by omega) (by omega)) (hf1 3 (by omega) (by omega) (by omega) (by omega) (by omega))))
                have hgo := tk_go hE hk0
                replace hr := hr.go (s_iinc (ls' := [(3, _), (2, _), (4, _), (0, _), (1, _)]) t37_122 rfl rfl)
                replace hr := hr.go (s_goto t37_125)
                replace hr := hr.go (s_iload_n t37_14 rfl)
                replace hr := hr.go (s_aload_n t37_15 rfl)
                replace hr := hr.go (s_getr t37_16 (hG.2.1))
                replace hr := hr.go (s_getf t37_19)
                rw [hS2.2.2.1, xn_1i] at hr
                have qq : (Int32.ofNat (q + 1)).toInt = ((q + 1 : Nat) : Int) := xn_int (by omega)
                rcases hr.bGt t37_22 with ⟨b22, hr⟩ | ⟨b22, hr⟩
                · exact (by omega : False).elim
                · replace hr := hr.go (s_aload_n t37_25 rfl)
                  replace hr := hr.go (s_getr t37_26 (hG.2.1))
                  replace hr := hr.go (s_getf t37_29)
                  rw [hS2.2.2.2.2.1] at hr
                  replace hr := hr.go (s_istore (ls' := [(4, _), (3, _), (2, _), (0, _), (1, _)]) t37_32 rfl)
                  obtain ⟨m', g', w1, f, o, w2, w3⟩ := ih (q + 1) (i + 1) s.1 s.2.1 s.2.2.1 s.2.2.2 m2 hS2 (xst_row hX1 (hf2 2 (by decide)) (hf2 6 (by decide)) (hf2 (P + 17) (by omega))) hI1 (by omega) (by rw [hwv]; exact hr)
                  refine ⟨m', g', w1, f + 1, o, (gxs_h2 hn4 hb).trans w2, w3.1, ?_⟩
                  have w4 := w3.2
                  cases o with
                  | inl e => exact w4
                  | inr t => exact ⟨w4.1, w4.2.1, w4.2.2.1, w4.2.2.2.1, w4.2.2.2.2.1, w4.2.2.2.2.2.1, w4.2.2.2.2.2.2.1, fun a a1 a2 a3 a4 a5 a6 => by rw [w4.2.2.2.2.2.2.2 a a1 a2 a3 a4 a5 a6, hf2 a a2, hf1 a a1 a3 a4 a5 a6]⟩
              · have hwv : s.2.2.1 = true := by rw [hwt, decide_eq_false b106]; rfl
                replace hr := hr.go (s_k t37_109)
                replace hr := hr.go (s_goto t37_110)
                replace hr := hr.go (s_istore_n (ls' := [(2, _), (4, _), (3, _), (0, _), (1, _)]) t37_114 rfl)
                replace hr := hr.go (s_aload_n t37_115 rfl)
                replace hr := hr.go (s_getr t37_116 (hG.2.1))
                obtain ⟨m2, ⟨hS2, hf2⟩, hr⟩ := hr.fvN t37_119 rfl rfl (ct_advS hG.1 hE (sC_row hS (hf1 1 (by omega) (by omega) (by omega) (by omega) (by omega)) (hf1 4 (by omega) (by omega) (by omega) (by omega) (by omega)) (hf1 3 (by omega) (by omega) (by omega) (by omega) (by omega))))
                have hgo := tk_go hE hk0
                replace hr := hr.go (s_iinc (ls' := [(3, _), (2, _), (4, _), (0, _), (1, _)]) t37_122 rfl rfl)
                replace hr := hr.go (s_goto t37_125)
                replace hr := hr.go (s_iload_n t37_14 rfl)
                replace hr := hr.go (s_aload_n t37_15 rfl)
                replace hr := hr.go (s_getr t37_16 (hG.2.1))
                replace hr := hr.go (s_getf t37_19)
                rw [hS2.2.2.1, xn_1i] at hr
                have qq : (Int32.ofNat (q + 1)).toInt = ((q + 1 : Nat) : Int) := xn_int (by omega)
                rcases hr.bGt t37_22 with ⟨b22, hr⟩ | ⟨b22, hr⟩
                · exact (by omega : False).elim
                · replace hr := hr.go (s_aload_n t37_25 rfl)
                  replace hr := hr.go (s_getr t37_26 (hG.2.1))
                  replace hr := hr.go (s_getf t37_29)
                  rw [hS2.2.2.2.2.1] at hr
                  replace hr := hr.go (s_istore (ls' := [(4, _), (3, _), (2, _), (0, _), (1, _)]) t37_32 rfl)
                  obtain ⟨m', g', w1, f, o, w2, w3⟩ := ih (q + 1) (i + 1) s.1 s.2.1 s.2.2.1 s.2.2.2 m2 hS2 (xst_row hX1 (hf2 2 (by decide)) (hf2 6 (by decide)) (hf2 (P + 17) (by omega))) hI1 (by omega) (by rw [hwv]; exact hr)
                  refine ⟨m', g', w1, f + 1, o, (gxs_h2 hn4 hb).trans w2, w3.1, ?_⟩
                  have w4 := w3.2
                  cases o with
                  | inl e => exact w4
                  | inr t => exact ⟨w4.1, w4.2.1, w4.2.2.1, w4.2.2.2.1, w4.2.2.2.2.1, w4.2.2.2.2.2.1, w4.2.2.2.2.2.2.1, fun a a1 a2 a3 a4 a5 a6 => by rw [w4.2.2.2.2.2.2.2 a a1 a2 a3 a4 a5 a6, hf2 a a2, hf1 a a1 a3 a4 a5 a6]⟩
            · exact absurd b97 (by decide)
        · replace hr := hr.go (s_aload_n t37_84 rfl)
          replace hr := hr.go (s_aload_n t37_85 rfl)
          replace hr := hr.go (s_k t37_86)
          obtain ⟨m3, ⟨hW3, hz3, hf3, hg3⟩, hr⟩ := hr.fvN t37_87 rfl rfl (ct_release (sn := 1) hG (by omega) (by omega) hX.1 hX.2.2.2.1)
          replace hr := hr.go (s_k t37_90)
          obtain ⟨rfl, hs⟩ := hr.iret t37_91
          have h40 : tK B i = 4 ∧ op = 0 := ⟨b74, by
            have := congrArg Int32.toInt b81
            rw [xn_int (by have := hI.2.2.1; omega)] at this
            have k0 : (0 : Int32).toInt = 0 := rfl
            omega⟩
          exact ⟨_, _, hs, 1, .inr (kn, i), gxs_e h40, rfl, rfl, sC_row hS (hf3 1 (by omega) (by omega) (by omega) (by omega)) (hf3 4 (by omega) (by omega) (by omega) (by omega)) (hf3 3 (by omega) (by omega) (by omega) (by omega)), b74, (hg3 4 (by decide)).trans hX.2.2.1, hI.2.2.2.1, hz3, ⟨(hg3 5 (by decide)).trans hX.2.2.2.2.1, (hg3 6 (by decide)).trans hX.2.2.2.2.2⟩, fun a a1 a2 a3 a4 a5 a6 => hf3 a a1 a4 a5 a6⟩
    · obtain rfl : wt = true := bI_1 b35
      replace hr := hr.go (s_aload_n t37_38 rfl)
      replace hr := hr.go (s_aload_n t37_39 rfl)
      obtain ⟨r1, m1, _, ⟨rfl, ho⟩, hr⟩ := hr.callv t37_40 rfl rfl (ct_begin hG hS hX hI)
      cases hb : begF B i kn op W with
      | inl e =>
        rw [hb] at ho
        obtain ⟨rfl, ho⟩ := ho
        rcases hr.zNe t37_43 with ⟨b43, hr⟩ | ⟨b43, hr⟩
        · exact absurd b43 (by decide)
        · replace hr := hr.go (s_k t37_46)
          obtain ⟨rfl, hs⟩ := hr.iret t37_47
          exact ⟨_, _, hs, 1, .inl e, gxs_b1 hb, rfl, rfl, ho⟩
      | inr s =>
        rw [hb] at ho
        obtain ⟨rfl, hX1, hf1⟩ := ho
        obtain ⟨hI1, hk0, hwt⟩ := beg_in hb hI
        rcases hr.zNe t37_43 with ⟨b43, hr⟩ | ⟨b43, hr⟩
        · replace hr := hr.go (s_iload t37_48 rfl)
          replace hr := hr.go (s_k t37_50)
          rcases hr.bEq t37_51 with ⟨b51, hr⟩ | ⟨b51, hr⟩
          · have hwv : s.2.2.1 = false := by rw [hwt, decide_eq_true b51]; rfl
            replace hr := hr.go (s_k t37_66)
            replace hr := hr.go (s_istore_n (ls' := [(2, _), (4, _), (3, _), (0, _), (1, _)]) t37_67 rfl)
            replace hr := hr.go (s_goto t37_68)
            replace hr := hr.go (s_aload_n t37_115 rfl)
            replace hr := hr.go (s_getr t37_116 (hG.2.1))
            obtain ⟨m2, ⟨hS2, hf2⟩, hr⟩ := hr.fvN t37_119 rfl rfl (ct_advS hG.1 hE (sC_row hS (hf1 1 (by omega) (by omega) (by omega) (by omega) (by omega)) (hf1 4 (by omega) (by omega) (by omega) (by omega) (by omega)) (hf1 3 (by omega) (by omega) (by omega) (by omega) (by omega))))
            have hgo := tk_go hE hk0
            replace hr := hr.go (s_iinc (ls' := [(3, _), (2, _), (4, _), (0, _), (1, _)]) t37_122 rfl rfl)
            replace hr := hr.go (s_goto t37_125)
            replace hr := hr.go (s_iload_n t37_14 rfl)
            replace hr := hr.go (s_aload_n t37_15 rfl)
            replace hr := hr.go (s_getr t37_16 (hG.2.1))
            replace hr := hr.go (s_getf t37_19)
            rw [hS2.2.2.1, xn_1i] at hr
            have qq : (Int32.ofNat (q + 1)).toInt = ((q + 1 : Nat) : Int) := xn_int (by omega)
            rcases hr.bGt t37_22 with ⟨b22, hr⟩ | ⟨b22, hr⟩
            · exact (by omega : False).elim
            · replace hr := hr.go (s_aload_n t37_25 rfl)
              replace hr := hr.go (s_getr t37_26 (hG.2.1))
              replace hr := hr.go (s_getf t37_29)
              rw [hS2.2.2.2.2.1] at hr
              replace hr := hr.go (s_istore (ls' := [(4, _), (3, _), (2, _), (0, _), (1, _)]) t37_32 rfl)
              obtain ⟨m', g', w1, f, o, w2, w3⟩ := ih (q + 1) (i + 1) s.1 s.2.1 s.2.2.1 s.2.2.2 m2 hS2 (xst_row hX1 (hf2 2 (by decide)) (hf2 6 (by decide)) (hf2 (P + 17) (by omega))) hI1 (by omega) (by rw [hwv]; exact hr)
              refine ⟨m', g', w1, f + 1, o, (gxs_b2 hb).trans w2, w3.1, ?_⟩
              have w4 := w3.2
              cases o with
              | inl e => exact w4
              | inr t => exact ⟨w4.1, w4.2.1, w4.2.2.1, w4.2.2.2.1, w4.2.2.2.2.1, w4.2.2.2.2.2.1, w4.2.2.2.2.2.2.1, fun a a1 a2 a3 a4 a5 a6 => by rw [w4.2.2.2.2.2.2.2 a a1 a2 a3 a4 a5 a6, hf2 a a2, hf1 a a1 a3 a4 a5 a6]⟩
          · replace hr := hr.go (s_iload t37_54 rfl)
            replace hr := hr.csI t37_56 rfl rfl (ct_isQ)
            rcases hr.zNe t37_59 with ⟨b59, hr⟩ | ⟨b59, hr⟩
            · have hwv : s.2.2.1 = false := by rw [hwt, bI_1 b59, Bool.or_true]; rfl
              replace hr := hr.go (s_k t37_66)
              replace hr := hr.go (s_istore_n (ls' := [(2, _), (4, _), (3, _), (0, _), (1, _)]) t37_67 rfl)
              replace hr := hr.go (s_goto t37_68)
              replace hr := hr.go (s_aload_n t37_115 rfl)
              replace hr := hr.go (s_getr t37_116 (hG.2.1))
              obtain ⟨m2, ⟨hS2, hf2⟩, hr⟩ := hr.fvN t37_119 rfl rfl (ct_advS hG.1 hE (sC_row hS (hf1 1 (by omega) (by omega) (by omega) (by omega) (by omega)) (hf1 4 (by omega) (by omega) (by omega) (by omega) (by omega)) (hf1 3 (by omega) (by omega) (by omega) (by omega) (by omega))))
              have hgo := tk_go hE hk0
              replace hr := hr.go (s_iinc (ls' := [(3, _), (2, _), (4, _), (0, _), (1, _)]) t37_122 rfl rfl)
              replace hr := hr.go (s_goto t37_125)
              replace hr := hr.go (s_iload_n t37_14 rfl)
              replace hr := hr.go (s_aload_n t37_15 rfl)
              replace hr := hr.go (s_getr t37_16 (hG.2.1))
              replace hr := hr.go (s_getf t37_19)
              rw [hS2.2.2.1, xn_1i] at hr
              have qq : (Int32.ofNat (q + 1)).toInt = ((q + 1 : Nat) : Int) := xn_int (by omega)
              rcases hr.bGt t37_22 with ⟨b22, hr⟩ | ⟨b22, hr⟩
              · exact (by omega : False).elim
              · replace hr := hr.go (s_aload_n t37_25 rfl)
                replace hr := hr.go (s_getr t37_26 (hG.2.1))
                replace hr := hr.go (s_getf t37_29)
                rw [hS2.2.2.2.2.1] at hr
                replace hr := hr.go (s_istore (ls' := [(4, _), (3, _), (2, _), (0, _), (1, _)]) t37_32 rfl)
                obtain ⟨m', g', w1, f, o, w2, w3⟩ := ih (q + 1) (i + 1) s.1 s.2.1 s.2.2.1 s.2.2.2 m2 hS2 (xst_row hX1 (hf2 2 (by decide)) (hf2 6 (by decide)) (hf2 (P + 17) (by omega))) hI1 (by omega) (by rw [hwv]; exact hr)
                refine ⟨m', g', w1, f + 1, o, (gxs_b2 hb).trans w2, w3.1, ?_⟩
                have w4 := w3.2
                cases o with
                | inl e => exact w4
                | inr t => exact ⟨w4.1, w4.2.1, w4.2.2.1, w4.2.2.2.1, w4.2.2.2.2.1, w4.2.2.2.2.2.1, w4.2.2.2.2.2.2.1, fun a a1 a2 a3 a4 a5 a6 => by rw [w4.2.2.2.2.2.2.2 a a1 a2 a3 a4 a5 a6, hf2 a a2, hf1 a a1 a3 a4 a5 a6]⟩
            · have hwv : s.2.2.1 = true := by rw [hwt, decide_eq_false b51, bI_0 b59]; rfl
              replace hr := hr.go (s_k t37_62)
              replace hr := hr.go (s_goto t37_63)
              replace hr := hr.go (s_istore_n (ls' := [(2, _), (4, _), (3, _), (0, _), (1, _)]) t37_67 rfl)
              replace hr := hr.go (s_goto t37_68)
              replace hr := hr.go (s_aload_n t37_115 rfl)
              replace hr := hr.go (s_getr t37_116 (hG.2.1))
              obtain ⟨m2, ⟨hS2, hf2⟩, hr⟩ := hr.fvN t37_119 rfl rfl (ct_advS hG.1 hE (sC_row hS (hf1 1 (by omega) (by omega) (by omega) (by omega) (by omega)) (hf1 4 (by omega) (by omega) (by omega) (by omega) (by omega)) (hf1 3 (by omega) (by omega) (by omega) (by omega) (by omega))))
              have hgo := tk_go hE hk0
              replace hr := hr.go (s_iinc (ls' := [(3, _), (2, _), (4, _), (0, _), (1, _)]) t37_122 rfl rfl)
              replace hr := hr.go (s_goto t37_125)
              replace hr := hr.go (s_iload_n t37_14 rfl)
              replace hr := hr.go (s_aload_n t37_15 rfl)
              replace hr := hr.go (s_getr t37_16 (hG.2.1))
              replace hr := hr.go (s_getf t37_19)
              rw [hS2.2.2.1, xn_1i] at hr
              have qq : (Int32.ofNat (q + 1)).toInt = ((q + 1 : Nat) : Int) := xn_int (by omega)
              rcases hr.bGt t37_22 with ⟨b22, hr⟩ | ⟨b22, hr⟩
              · exact (by omega : False).elim
              · replace hr := hr.go (s_aload_n t37_25 rfl)
                replace hr := hr.go (s_getr t37_26 (hG.2.1))
                replace hr := hr.go (s_getf t37_29)
                rw [hS2.2.2.2.2.1] at hr
                replace hr := hr.go (s_istore (ls' := [(4, _), (3, _), (2, _), (0, _), (1, _)]) t37_32 rfl)
                obtain ⟨m', g', w1, f, o, w2, w3⟩ := ih (q + 1) (i + 1) s.1 s.2.1 s.2.2.1 s.2.2.2 m2 hS2 (xst_row hX1 (hf2 2 (by decide)) (hf2 6 (by decide)) (hf2 (P + 17) (by omega))) hI1 (by omega) (by rw [hwv]; exact hr)
                refine ⟨m', g', w1, f + 1, o, (gxs_b2 hb).trans w2, w3.1, ?_⟩
                have w4 := w3.2
                cases o with
                | inl e => exact w4
                | inr t => exact ⟨w4.1, w4.2.1, w4.2.2.1, w4.2.2.2.1, w4.2.2.2.2.1, w4.2.2.2.2.2.1, w4.2.2.2.2.2.2.1, fun a a1 a2 a3 a4 a5 a6 => by rw [w4.2.2.2.2.2.2.2 a a1 a2 a3 a4 a5 a6, hf2 a a2, hf1 a a1 a3 a4 a5 a6]⟩
        · exact absurd b43 (by decide)
theorem ct_expr {nf : Bool} {xs : List Int32} {d : Nat} {m : xM} {g : xL} {G : xG} {B : eB} {P i kn : Nat} (hG : GP G P) (hE : EV B) (hS : sC B i m) (hk : m 2 4 = Int32.ofNat kn) (hkb : kn ≤ 64) (hz : 0 ≤ (m (P + 17) 4).toInt) (hft : ft m) : CT nf xs d 37 [.ref 2, .ref (P + 17)] m g G (fun r m' g' => ∃ (f : Nat) (o : (Nat × Nat) ⊕ (Nat × Nat)), gxs B f i kn 0 true [] = some o ∧ OC B o g (eQ B P m) r m' g') := by
  refine CT.of (c := 4) (ini := false) (nL := 5) (rt := some .boolean) (tab := zt37) rfl (fun d' r h' N hd hr => ?_)
  replace hr : RR nf xs d' 4 false 5 (some .boolean) zt37 G r h' N (0, [(0, .ref 2), (1, .ref (P + 17))], [], m, g) := hr
  have k1 : (1 : Int32).toInt = 1 := rfl
  have k2 : (2 : Int32).toInt = 2 := rfl
  have k4 : (4 : Int32).toInt = 4 := rfl
  have k6 : (6 : Int32).toInt = 6 := rfl
  have h7 := hG.2.2.2.2.1
  have h700 := hE.1
  have k0 : (0 : Int32).toInt = 0 := rfl
  have qn : (Int32.ofNat B.2.2).toInt = (B.2.2 : Int) := xn_int (by omega)
  have hX0 : xst P [] kn 0 (xu (xu m 2 2 0) 2 3 0) := ⟨⟨by rw [xu_oth (by decide), xu_same]; rfl, by decide, fun k hk => absurd hk (by simp)⟩, by rw [xu_same]; rfl, by rw [xu_oth (by decide), xu_oth (by decide)]; exact hk, by rw [xu_row (by omega), xu_row (by omega)]; exact hz, by rw [xu_oth (by decide), xu_oth (by decide)]; exact hft.1, by rw [xu_oth (by decide), xu_oth (by decide)]; exact hft.2⟩
  replace hr := hr.go (s_aload_n t37_0 rfl)
  replace hr := hr.go (s_k t37_1)
  replace hr := hr.go (s_putf t37_2)
  replace hr := hr.go (s_aload_n t37_5 rfl)
  replace hr := hr.go (s_k t37_6)
  replace hr := hr.go (s_putf t37_7)
  replace hr := hr.go (s_k t37_10)
  replace hr := hr.go (s_istore_n (ls' := [(2, _), (0, _), (1, _)]) t37_11 rfl)
  replace hr := hr.go (s_k t37_12)
  replace hr := hr.go (s_istore_n (ls' := [(3, _), (2, _), (0, _), (1, _)]) t37_13 rfl)
  replace hr := hr.go (s_iload_n t37_14 rfl)
  replace hr := hr.go (s_aload_n t37_15 rfl)
  replace hr := hr.go (s_getr t37_16 (hG.2.1))
  replace hr := hr.go (s_getf t37_19)
  rw [xu_row (by decide), xu_row (by decide), hS.2.2.1] at hr
  rcases hr.bGt t37_22 with ⟨b22, hr⟩ | ⟨b22, hr⟩
  · exact (by omega : False).elim
  · replace hr := hr.go (s_aload_n t37_25 rfl)
    replace hr := hr.go (s_getr t37_26 (hG.2.1))
    replace hr := hr.go (s_getf t37_29)
    rw [xu_row (by decide), xu_row (by decide), hS.2.2.2.2.1] at hr
    replace hr := hr.go (s_istore (ls' := [(4, _), (3, _), (2, _), (0, _), (1, _)]) t37_32 rfl)
    exact lp37 hG hE N 0 i kn 0 true [] _ (sC_row hS (by rw [xu_row (by decide), xu_row (by decide)]) (by rw [xu_row (by decide), xu_row (by decide)]) (by rw [xu_row (by decide), xu_row (by decide)])) hX0 ⟨rfl, Nat.zero_le _, Nat.zero_le _, hkb, fun x hx => by cases hx⟩ (Nat.zero_le _) hr |>.imp (fun m' h => h.imp (fun g' h => ⟨h.1, h.2.imp (fun f h => h.imp (fun o h => ⟨h.1, h.2.1, by
      have w4 := h.2.2
      cases o with
      | inl e => exact w4
      | inr t => exact ⟨w4.1, w4.2.1, w4.2.2.1, w4.2.2.2.1, w4.2.2.2.2.1, w4.2.2.2.2.2.1, w4.2.2.2.2.2.2.1, fun a a1 a2 a3 a4 a5 a6 => by rw [w4.2.2.2.2.2.2.2 a a1 a2 a3 a4 a5 a6, xu_row a1, xu_row a1]⟩⟩))⟩))

