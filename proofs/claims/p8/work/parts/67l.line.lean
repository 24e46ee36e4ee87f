/-! The class Reader: a line. -/
theorem rowF_l {B : eB} {w f c i : Nat} {rows : List (List Int32)} {row : List Int32} {e : Nat × Nat} (h : numF B w c row rows i = .inl e) : rowF B w rows (f + 1) c row i = .inl e := by
  show (match numF B w c row rows i with
    | .inl e => Sum.inl e
    | .inr v => rowF B w rows f (c + 1) (row ++ [v]) (i + 1)) = _
  rw [h]
theorem rowF_r {B : eB} {w f c i : Nat} {rows : List (List Int32)} {row : List Int32} {v : Int32} (h : numF B w c row rows i = .inr v) : rowF B w rows (f + 1) c row i = rowF B w rows f (c + 1) (row ++ [v]) (i + 1) := by
  show (match numF B w c row rows i with
    | .inl e => Sum.inl e
    | .inr v => rowF B w rows f (c + 1) (row ++ [v]) (i + 1)) = _
  rw [h]
def oMap {α β : Type} (F : α → β) (o : (Nat × Nat) ⊕ α) : (Nat × Nat) ⊕ β := match o with
  | .inl e => .inl e
  | .inr q => .inr (F q)
theorem OC_map {α β : Type} {B : eB} {o : (Nat × Nat) ⊕ α} {g g' : xL} {Q : α → xM → Prop} {Q' : β → xM → Prop} {r : Option Value} {m' : xM} {F : α → β} {o' : (Nat × Nat) ⊕ β} (h : OC B o g Q r m' g') (ho : o' = oMap F o) (hq : ∀ q : α, Q q m' → Q' (F q) m') : OC B o' g Q' r m' g' := by
  subst ho
  refine ⟨h.1, ?_⟩
  have h := h.2
  cases o with
  | inl e => exact h
  | inr q => exact ⟨h.1, hq q h.2⟩
theorem OC_mono {α : Type} {B : eB} {o : (Nat × Nat) ⊕ α} {g g' : xL} {Q Q' : α → xM → Prop} {r : Option Value} {m' : xM} (h : OC B o g Q r m' g') (hq : ∀ q : α, Q q m' → Q' q m') : OC B o g Q' r m' g' := by
  refine ⟨h.1, ?_⟩
  have h := h.2
  cases o with
  | inl e => exact h
  | inr q => exact ⟨h.1, hq q h.2⟩
theorem tbC_end {t c cols most : Nat} {rows : List (List Int32)} {row : List Int32} {m m' : xM} (h : tbC t c cols most rows m) (hfull : rows.length < most) (hrow : ∀ k : Nat, k < cols → m c (rows.length * cols + k) = row.getD k 0) (h0 : m' t 0 = m t 0) (h1 : m' t 1 = m t 1) (h3 : m' t 3 = Int32.ofNat (rows.length + 1)) (hc : m' c = m c) : tbC t c cols most (rows ++ [row]) m' := by
  refine ⟨by rw [h0]; exact h.1, by rw [h1]; exact h.2.1, by rw [h3, List.length_append, List.length_singleton], by rw [List.length_append, List.length_singleton]; omega, fun r hr k hk => ?_⟩
  rw [List.length_append, List.length_singleton] at hr
  rw [hc]
  by_cases hl : r < rows.length
  · rw [h.2.2.2.2 r hl k hk]
    congr 1
    rw [List.getD_eq_getElem?_getD, List.getD_eq_getElem?_getD, List.getElem?_append_left hl]
  · have e : r = rows.length := by omega
    rw [e, hrow k hk]
    congr 1
    rw [List.getD_eq_getElem?_getD, List.getElem?_append_right (Nat.le_refl _), Nat.sub_self]
    rfl
theorem rend_0 {B : eB} {w c i : Nat} {rows : List (List Int32)} {row : List Int32} : rendF B (rowF B w rows 0 c row i) = (match endF B i with
    | .inl e => .inl e
    | .inr _ => .inr (row, i + 1)) := rfl
theorem wrd_n {x : Int32} (h : ¬ (32 ≤ x.toInt ∧ x.toInt ≤ 40)) : wrd x = none := by unfold wrd; rw [if_neg h]
theorem wrd_k {x : Int32} (h : 32 ≤ x.toInt ∧ x.toInt ≤ 40) : ∃ w : Nat, w < 9 ∧ wrd x = some w ∧ x = Int32.ofNat (32 + w) := by
  have h0 := xn_of (x := x) (by omega)
  have h1 : x.toNatClampNeg = x.toInt.toNat := rfl
  refine ⟨x.toNatClampNeg - 32, by omega, by unfold wrd; rw [if_pos h], ?_⟩
  rw [show 32 + (x.toNatClampNeg - 32) = x.toNatClampNeg by omega]
  exact h0
theorem getD_app {l : List Int32} {v : Int32} : (l ++ [v]).getD l.length 0 = v := by
  rw [List.getD_eq_getElem?_getD, List.getElem?_append_right (Nat.le_refl _), Nat.sub_self]
  rfl
theorem getD_app2 {l : List Int32} {v : Int32} {k : Nat} (h : k < l.length) : (l ++ [v]).getD k 0 = l.getD k 0 := by
  rw [List.getD_eq_getElem?_getD, List.getD_eq_getElem?_getD, List.getElem?_append_left h]
theorem lp29 {nf : Bool} {xs : List Int32} {d : Nat} {g : xL} {G : xG} {r : Option Value} {h' : zH} {B : eB} {P w : Nat} {y : Int32} {rows : List (List Int32)} (hG : GP G P) (hE : EV B) (hw : w < 8) (hfull : rows.length < mN w) : ∀ (N c i : Nat) (row : List Int32) (m : xM), sC B i m → tbC (P + 1 + 2 * w) (P + 2 + 2 * w) (cN w) (mN w) rows m → (∀ k : Nat, k < c → m (P + 2 + 2 * w) (rows.length * cN w + k) = row.getD k 0) → row.length = c → c ≤ cN w → (w = 3 → 1 ≤ c) → RR nf xs d 4 false 6 (some .boolean) zt29 G r h' N (126, [(5, .int (Int32.ofNat c)), (4, .int y), (3, .ref (P + 1 + 2 * w)), (2, .int (Int32.ofNat (32 + w))), (0, .ref 2), (1, .ref P)], [], m, g) → ∃ (m' : xM) (g' : xL), HS h' m' g' G ∧ OC B (rendF B (rowF B w rows (cN w - c) c row i)) g (fun q m' => i < q.2 ∧ sC B q.2 m' ∧ tbC (P + 1 + 2 * w) (P + 2 + 2 * w) (cN w) (mN w) (rows ++ [q.1]) m' ∧ ∀ a : Nat, ¬ a = 3 → ¬ a = P + 1 + 2 * w → ¬ a = P + 2 + 2 * w → m' a = m a) r m' g' := by
  have h7 := hG.2.2.2.2.1
  have hcb := cN_b w
  have hmb := mN_b w
  have hgt := hG.2.2.2.2.2.1 w hw
  have q2 : (Int32.ofNat (cN w)).toInt = (cN w : Int) := xn_int (by omega)
  intro N
  induction N with
  | zero => intro c i row m _ _ _ _ _ _ hr; exact hr.no.elim
  | succ N ih =>
    intro c i row m hs0 ht hrow hrl hcn hw3 hr
    have q1 : (Int32.ofNat c).toInt = (c : Int) := xn_int (by omega)
    replace hr := hr.go1 (s_iload t29_126 rfl)
    replace hr := hr.go (s_aload_n t29_128 rfl)
    replace hr := hr.go (s_getf t29_129)
    rw [ht.1] at hr
    rcases hr.bGe t29_132 with ⟨b132, hr⟩ | ⟨b132, hr⟩
    · replace hr := hr.go (s_aload_n t29_154 rfl)
      replace hr := hr.cvN t29_155 rfl rfl (ct_endRow (ro := rows.length) ht.2.1 ht.2.2.1 hmb.1 hfull)
      replace hr := hr.go (s_aload_n t29_158 rfl)
      obtain ⟨r1, m1, _, ⟨rfl, ho⟩, hr⟩ := hr.callv t29_159 rfl rfl (ct_readEnd hG hE (sC_row hs0 (xu_row (by omega)) (xu_row (by omega)) (xu_row (by omega))))
      have hc0 : c = cN w := by omega
      rw [show cN w - c = 0 by omega]
      rw [rend_0]
      cases hb : endF B i with
      | inl e =>
        rw [hb] at ho
        obtain ⟨rfl, ho⟩ := ho
        obtain ⟨rfl, hs⟩ := hr.iret t29_162
        exact ⟨_, _, hs, rfl, rfl, ho⟩
      | inr u =>
        rw [hb] at ho
        obtain ⟨rfl, hs1, hf1⟩ := ho
        obtain ⟨rfl, hs⟩ := hr.iret t29_162
        refine ⟨_, _, hs, rfl, rfl, by dsimp only; omega, hs1, tbC_end ht hfull (fun k hk => hrow k (by omega)) ?_ ?_ ?_ ?_, fun a a1 a2 a3 => ?_⟩
        · rw [hf1 _ (by omega), xu_oth (by omega)]
        · rw [hf1 _ (by omega), xu_oth (by omega)]
        · rw [hf1 _ (by omega), xu_same]
        · rw [hf1 _ (by omega), xu_row (by omega)]
        · rw [hf1 a a1, xu_row a2]
    · replace hr := hr.go (s_aload_n t29_135 rfl)
      replace hr := hr.go (s_aload_n t29_136 rfl)
      replace hr := hr.go (s_iload_n t29_137 rfl)
      replace hr := hr.go (s_iload t29_138 rfl)
      have hcl : c < cN w := by omega
      obtain ⟨r1, m1, _, ⟨rfl, ho⟩, hr⟩ := hr.callv t29_140 rfl rfl (ct_readNumber (row := row) hG hE hs0 hgt.2.1 hgt.2.2.choose_spec ht hmb.1 hcb.1 hfull hw hcl hrow (fun h => by subst h; have : c < 2 := hcl; exact ⟨rfl, by have := hw3 rfl; omega⟩) (by omega) (by omega) (by omega))
      cases hb : numF B w c row rows i with
      | inl e =>
        rw [hb] at ho
        obtain ⟨rfl, ho⟩ := ho
        rcases hr.zNe t29_143 with ⟨b143, hr⟩ | ⟨b143, hr⟩
        · exact absurd b143 (by decide)
        · replace hr := hr.go (s_k t29_146)
          obtain ⟨rfl, hs⟩ := hr.iret t29_147
          rw [show cN w - c = (cN w - (c + 1)) + 1 by omega, rowF_l hb]
          exact ⟨_, _, hs, rfl, rfl, ho⟩
      | inr v =>
        rw [hb] at ho
        obtain ⟨rfl, hs1, hf1⟩ := ho
        rcases hr.zNe t29_143 with ⟨b143, hr⟩ | ⟨b143, hr⟩
        · replace hr := hr.go (s_iinc (ls' := [(5, _), (4, _), (3, _), (2, _), (0, _), (1, _)]) t29_148 rfl rfl)
          replace hr := hr.go (s_goto t29_151)
          rw [show cN w - c = (cN w - (c + 1)) + 1 by omega, rowF_r hb]
          obtain ⟨m', g', w1, w2⟩ := ih (c + 1) (i + 1) (row ++ [v]) m1 hs1 (tbC_part ht (by rw [hf1 _ (by omega), xu_row (by omega)]) (fun k hk => by rw [hf1 _ (by omega), xu_oth (by omega)])) (fun k hk => by
            rw [hf1 _ (by omega)]
            by_cases hkc : k = c
            · rw [hkc, xu_same, ← hrl, getD_app]
            · rw [xu_oth (by omega), getD_app2 (by omega)]
              exact hrow k (by omega)) (by rw [List.length_append, hrl]; rfl) (by omega) (by omega) (by rw [← xn_1i]; exact hr)
          refine ⟨m', g', w1, OC_mono w2 (fun q hq => ⟨by have := hq.1; omega, hq.2.1, hq.2.2.1, fun a a1 a2 a3 => by rw [hq.2.2.2 a a1 a2 a3, hf1 a a1, xu_row a3]⟩)⟩
        · exact absurd b143 (by decide)
theorem ct_readLine {nf : Bool} {xs : List Int32} {d : Nat} {m : xM} {g : xL} {G : xG} {B : eB} {P : Nat} {s : eS} (hG : GP G P) (hE : EV B) (hA : AC B P s m) : CT nf xs d 29 [.ref 2, .ref P] m g G (OC B (linF B s) g (fun s' m' => s.2.2.2 < s'.2.2.2 ∧ AC B P s' m' ∧ m' P = m P)) := by
  refine CT.of (c := 4) (ini := false) (nL := 6) (rt := some .boolean) (tab := zt29) rfl (fun d' r h' N hd hr => ?_)
  replace hr : RR nf xs d' 4 false 6 (some .boolean) zt29 G r h' N (0, [(0, .ref 2), (1, .ref P)], [], m, g) := hr
  have k1 : (1 : Int32).toInt = 1 := rfl
  have k2 : (2 : Int32).toInt = 2 := rfl
  have k3 : (3 : Int32).toInt = 3 := rfl
  have k32 : (32 : Int32).toInt = 32 := rfl
  have k33 : (33 : Int32).toInt = 33 := rfl
  have k35 : (35 : Int32).toInt = 35 := rfl
  have k40 : (40 : Int32).toInt = 40 := rfl
  have h7 := hG.2.2.2.2.1
  replace hr := hr.go (s_aload_n t29_0 rfl)
  replace hr := hr.go (s_getr t29_1 (hG.2.1))
  replace hr := hr.go (s_getf t29_4)
  rw [hA.1.2.2.2.2.1] at hr
  replace hr := hr.go (s_istore_n (ls' := [(2, _), (0, _), (1, _)]) t29_7 rfl)
  replace hr := hr.go (s_iload_n t29_8 rfl)
  replace hr := hr.go (s_k t29_9)
  rcases hr.bLt t29_11 with ⟨b11, hr⟩ | ⟨b11, hr⟩
  · replace hr := hr.go (s_aload_n t29_20 rfl)
    replace hr := hr.go (s_k t29_21)
    obtain ⟨_, m9, _, ⟨rfl, rfl, ho⟩, hr⟩ := hr.callv t29_22 rfl rfl (ct_ref (B := B) (i := s.2.2.2) (f := 1) (α := Unit) (Q := fun _ _ => True) hG.2.1 hA.1)
    obtain ⟨rfl, hs⟩ := hr.iret t29_25
    unfold linF
    rw [wrd_n (by omega)]
    exact ⟨_, _, hs, rfl, rfl, ho⟩
  · replace hr := hr.go (s_iload_n t29_14 rfl)
    replace hr := hr.go (s_k t29_15)
    rcases hr.bLe t29_17 with ⟨b17, hr⟩ | ⟨b17, hr⟩
    · obtain ⟨w, hw9, hwrd, eW⟩ := wrd_k (x := tK B s.2.2.2) (by omega)
      rw [eW] at hr
      have qW : (Int32.ofNat (32 + w)).toInt = ((32 + w : Nat) : Int) := xn_int (by omega)
      have hcb := cN_b w
      have hmb := mN_b w
      replace hr := hr.go (s_iload_n t29_26 rfl)
      replace hr := hr.go (s_k t29_27)
      rcases hr.bNe t29_29 with ⟨b29, hr⟩ | ⟨b29, hr⟩
      · have hn8 : ¬ w = 8 := fun q => b29 (by rw [q]; rfl)
        have hw : w < 8 := by omega
        have ht := hA.2.1 w hw
        have q8 := ht.2.2.2.1
        replace hr := hr.go (s_aload_n t29_41 rfl)
        replace hr := hr.go (s_iload_n t29_42 rfl)
        replace hr := hr.cvI t29_43 rfl rfl (ct_table hG hw)
        replace hr := hr.go (s_astore_n (ls' := [(3, _), (2, _), (0, _), (1, _)]) t29_46 rfl)
        replace hr := hr.go (s_aload_n t29_47 rfl)
        replace hr := hr.cvI t29_48 rfl rfl (ct_isFull (ro := (s.1 w).length) ht.2.1 ht.2.2.1 hmb.1 ht.2.2.2.1)
        rcases hr.zEq t29_51 with ⟨b51, hr⟩ | ⟨b51, hr⟩
        · have hnf : ¬ mN w ≤ (s.1 w).length := of_decide_eq_false (bI_0 b51)
          replace hr := hr.go (s_aload_n t29_72 rfl)
          replace hr := hr.go (s_getr t29_73 (hG.2.1))
          obtain ⟨m1, ⟨hs1, hf1⟩, hr⟩ := hr.fvN t29_76 rfl rfl (ct_advS hG.1 hE hA.1)
          replace hr := hr.go (s_iload_n t29_79 rfl)
          replace hr := hr.go (s_k t29_80)
          rcases hr.bLt t29_82 with ⟨b82, hr⟩ | ⟨b82, hr⟩
          · have hnm : ¬ (1 ≤ w ∧ w ≤ 3) := by omega
            replace hr := hr.go (s_k t29_95)
            replace hr := hr.go (s_istore (ls' := [(4, _), (3, _), (2, _), (0, _), (1, _)]) t29_96 rfl)
            replace hr := hr.go (s_iload t29_98 rfl)
            rcases hr.zEq t29_100 with ⟨b100, hr⟩ | ⟨b100, hr⟩
            · replace hr := hr.go (s_iload t29_114 rfl)
              rcases hr.zEq t29_116 with ⟨b116, hr⟩ | ⟨b116, hr⟩
              · replace hr := hr.go (s_k t29_123)
                replace hr := hr.go (s_istore (ls' := [(5, _), (4, _), (3, _), (2, _), (0, _), (1, _)]) t29_124 rfl)
                unfold linF
                rw [hwrd]
                dsimp only
                rw [if_neg hn8]
                unfold tabF
                rw [if_neg hnf, if_neg hnm]
                obtain ⟨m', g', w1, w2⟩ := lp29 (rows := s.1 w) hG hE hw (by omega) N 0 (s.2.2.2 + 1) [] m1 hs1 (tbC_row ht (hf1 _ (by omega)) (hf1 _ (by omega))) (fun k hk => by omega) rfl (Nat.zero_le _) (fun h => by omega) hr
                rw [Nat.sub_zero] at w2
                refine ⟨m', g', w1, OC_map (F := fun q => (eup s.1 w (s.1 w ++ [q.1]), s.2.1, s.2.2.1, q.2)) w2 (by cases rendF B (rowF B w (s.1 w) (cN w) 0 [] (s.2.2.2 + 1)) <;> rfl) (fun q hq => ?_)⟩
                have hfa : ∀ a : Nat, ¬ a = 3 → ¬ a = P + 1 + 2 * w → ¬ a = P + 2 + 2 * w → m' a = m a := fun a a1 a2 a3 => by rw [hq.2.2.2 a a1 a2 a3, hf1 a a1]
                refine ⟨by have := hq.1; dsimp only; omega, ⟨hq.2.1, fun w' hw' => ?_, fun k hk => ?_, ?_, ?_, hA.2.2.2.2.2.1, ft_row hA.2.2.2.2.2.2 (hfa 2 (by omega) (by omega) (by omega))⟩, hfa P (by omega) (by omega) (by omega)⟩
                · show tbC (P + 1 + 2 * w') (P + 2 + 2 * w') (cN w') (mN w') (if w' = w then s.1 w ++ [q.1] else s.1 w') m'
                  by_cases hww : w' = w
                  · rw [if_pos hww, hww]; exact hq.2.2.1
                  · rw [if_neg hww]
                    exact tbC_row (hA.2.1 w' hw') (hfa _ (by omega) (by omega) (by omega)) (hfa _ (by omega) (by omega) (by omega))
                · rw [hfa (P + 21) (by omega) (by omega) (by omega)]; exact hA.2.2.1 k hk
                · rw [hfa (P + 17) (by omega) (by omega) (by omega)]; exact hA.2.2.2.1
                · rw [hfa 2 (by omega) (by omega) (by omega)]; exact hA.2.2.2.2.1
              · exact absurd b116 (by decide)
            · exact absurd b100 (by decide)
          · replace hr := hr.go (s_iload_n t29_85 rfl)
            replace hr := hr.go (s_k t29_86)
            rcases hr.bGt t29_88 with ⟨b88, hr⟩ | ⟨b88, hr⟩
            · have hnm : ¬ (1 ≤ w ∧ w ≤ 3) := by omega
              replace hr := hr.go (s_k t29_95)
              replace hr := hr.go (s_istore (ls' := [(4, _), (3, _), (2, _), (0, _), (1, _)]) t29_96 rfl)
              replace hr := hr.go (s_iload t29_98 rfl)
              rcases hr.zEq t29_100 with ⟨b100, hr⟩ | ⟨b100, hr⟩
              · replace hr := hr.go (s_iload t29_114 rfl)
                rcases hr.zEq t29_116 with ⟨b116, hr⟩ | ⟨b116, hr⟩
                · replace hr := hr.go (s_k t29_123)
                  replace hr := hr.go (s_istore (ls' := [(5, _), (4, _), (3, _), (2, _), (0, _), (1, _)]) t29_124 rfl)
                  unfold linF
                  rw [hwrd]
                  dsimp only
                  rw [if_neg hn8]
                  unfold tabF
                  rw [if_neg hnf, if_neg hnm]
                  obtain ⟨m', g', w1, w2⟩ := lp29 (rows := s.1 w) hG hE hw (by omega) N 0 (s.2.2.2 + 1) [] m1 hs1 (tbC_row ht (hf1 _ (by omega)) (hf1 _ (by omega))) (fun k hk => by omega) rfl (Nat.zero_le _) (fun h => by omega) hr
                  rw [Nat.sub_zero] at w2
                  refine ⟨m', g', w1, OC_map (F := fun q => (eup s.1 w (s.1 w ++ [q.1]), s.2.1, s.2.2.1, q.2)) w2 (by cases rendF B (rowF B w (s.1 w) (cN w) 0 [] (s.2.2.2 + 1)) <;> rfl) (fun q hq => ?_)⟩
                  have hfa : ∀ a : Nat, ¬ a = 3 → ¬ a = P + 1 + 2 * w → ¬ a = P + 2 + 2 * w → m' a = m a := fun a a1 a2 a3 => by rw [hq.2.2.2 a a1 a2 a3, hf1 a a1]
                  refine ⟨by have := hq.1; dsimp only; omega, ⟨hq.2.1, fun w' hw' => ?_, fun k hk => ?_, ?_, ?_, hA.2.2.2.2.2.1, ft_row hA.2.2.2.2.2.2 (hfa 2 (by omega) (by omega) (by omega))⟩, hfa P (by omega) (by omega) (by omega)⟩
                  · show tbC (P + 1 + 2 * w') (P + 2 + 2 * w') (cN w') (mN w') (if w' = w then s.1 w ++ [q.1] else s.1 w') m'
                    by_cases hww : w' = w
                    · rw [if_pos hww, hww]; exact hq.2.2.1
                    · rw [if_neg hww]
                      exact tbC_row (hA.2.1 w' hw') (hfa _ (by omega) (by omega) (by omega)) (hfa _ (by omega) (by omega) (by omega))
                  · rw [hfa (P + 21) (by omega) (by omega) (by omega)]; exact hA.2.2.1 k hk
                  · rw [hfa (P + 17) (by omega) (by omega) (by omega)]; exact hA.2.2.2.1
                  · rw [hfa 2 (by omega) (by omega) (by omega)]; exact hA.2.2.2.2.1
                · exact absurd b116 (by decide)
              · exact absurd b100 (by decide)
            · have hnm : 1 ≤ w ∧ w ≤ 3 := by omega
              replace hr := hr.go (s_k t29_91)
              replace hr := hr.go (s_goto t29_92)
              replace hr := hr.go (s_istore (ls' := [(4, _), (3, _), (2, _), (0, _), (1, _)]) t29_96 rfl)
              replace hr := hr.go (s_iload t29_98 rfl)
              rcases hr.zEq t29_100 with ⟨b100, hr⟩ | ⟨b100, hr⟩
              · exact absurd b100 (by decide)
              · replace hr := hr.go (s_aload_n t29_103 rfl)
                replace hr := hr.go (s_aload_n t29_104 rfl)
                replace hr := hr.go (s_iload_n t29_105 rfl)
                obtain ⟨r1, m2, _, ⟨rfl, ho⟩, hr⟩ := hr.callv t29_106 rfl rfl (ct_readName (rows := s.1 w) (js := s.1 2) hG hE hs1 hw (tbC_row ht (hf1 _ (by omega)) (hf1 _ (by omega))) (tbC_row (hA.2.1 2 (by decide)) (hf1 _ (by omega)) (hf1 _ (by omega))) (by omega))
                cases hb : namF B w (s.1 w) (s.1 2) (s.2.2.2 + 1) with
                | inl e =>
                  rw [hb] at ho
                  obtain ⟨rfl, ho⟩ := ho
                  rcases hr.zNe t29_109 with ⟨b109, hr⟩ | ⟨b109, hr⟩
                  · exact absurd b109 (by decide)
                  · replace hr := hr.go (s_k t29_112)
                    obtain ⟨rfl, hs⟩ := hr.iret t29_113
                    unfold linF
                    rw [hwrd]
                    dsimp only
                    rw [if_neg hn8]
                    unfold tabF
                    rw [if_neg hnf, if_pos hnm, hb]
                    exact ⟨_, _, hs, rfl, rfl, ho⟩
                | inr v =>
                  rw [hb] at ho
                  obtain ⟨rfl, hs2, hf2⟩ := ho
                  rcases hr.zNe t29_109 with ⟨b109, hr⟩ | ⟨b109, hr⟩
                  · replace hr := hr.go (s_iload t29_114 rfl)
                    rcases hr.zEq t29_116 with ⟨b116, hr⟩ | ⟨b116, hr⟩
                    · exact absurd b116 (by decide)
                    · replace hr := hr.go (s_k t29_119)
                      replace hr := hr.go (s_goto t29_120)
                      replace hr := hr.go (s_istore (ls' := [(5, _), (4, _), (3, _), (2, _), (0, _), (1, _)]) t29_124 rfl)
                      unfold linF
                      rw [hwrd]
                      dsimp only
                      rw [if_neg hn8]
                      unfold tabF
                      rw [if_neg hnf, if_pos hnm, hb]
                      dsimp only
                      obtain ⟨m', g', w1, w2⟩ := lp29 (rows := s.1 w) hG hE hw (by omega) N 1 (s.2.2.2 + 2) [v] m2 hs2 (tbC_part ht (by rw [hf2 _ (by omega), xu_row (by omega), hf1 _ (by omega)]) (fun k hk => by rw [hf2 _ (by omega), xu_oth (by omega), hf1 _ (by omega)])) (fun k hk => by
                        rw [show k = 0 by omega, hf2 _ (by omega), xu_same]
                        rfl) rfl hcb.2 (fun _ => Nat.le_refl _) hr
                      refine ⟨m', g', w1, OC_map (F := fun q => (eup s.1 w (s.1 w ++ [q.1]), s.2.1, s.2.2.1, q.2)) w2 (by cases rendF B (rowF B w (s.1 w) (cN w - 1) 1 [v] (s.2.2.2 + 2)) <;> rfl) (fun q hq => ?_)⟩
                      have hfa : ∀ a : Nat, ¬ a = 3 → ¬ a = P + 1 + 2 * w → ¬ a = P + 2 + 2 * w → m' a = m a := fun a a1 a2 a3 => by rw [hq.2.2.2 a a1 a2 a3, hf2 a a1, xu_row a3, hf1 a a1]
                      refine ⟨by have := hq.1; dsimp only; omega, ⟨hq.2.1, fun w' hw' => ?_, fun k hk => ?_, ?_, ?_, hA.2.2.2.2.2.1, ft_row hA.2.2.2.2.2.2 (hfa 2 (by omega) (by omega) (by omega))⟩, hfa P (by omega) (by omega) (by omega)⟩
                      · show tbC (P + 1 + 2 * w') (P + 2 + 2 * w') (cN w') (mN w') (if w' = w then s.1 w ++ [q.1] else s.1 w') m'
                        by_cases hww : w' = w
                        · rw [if_pos hww, hww]; exact hq.2.2.1
                        · rw [if_neg hww]
                          exact tbC_row (hA.2.1 w' hw') (hfa _ (by omega) (by omega) (by omega)) (hfa _ (by omega) (by omega) (by omega))
                      · rw [hfa (P + 21) (by omega) (by omega) (by omega)]; exact hA.2.2.1 k hk
                      · rw [hfa (P + 17) (by omega) (by omega) (by omega)]; exact hA.2.2.2.1
                      · rw [hfa 2 (by omega) (by omega) (by omega)]; exact hA.2.2.2.2.1
                  · exact absurd b109 (by decide)
        · have hfl : mN w ≤ (s.1 w).length := of_decide_eq_true (bI_1 b51)
          replace hr := hr.go (s_aload_n t29_54 rfl)
          replace hr := hr.go (s_aload_n t29_55 rfl)
          replace hr := hr.go (s_getf t29_56)
          replace hr := hr.go (s_k t29_59)
          rw [ht.2.1] at hr
          rcases hr.bNe t29_60 with ⟨b60, hr⟩ | ⟨b60, hr⟩
          · skip
            replace hr := hr.go (s_k t29_67)
            obtain ⟨_, m9, _, ⟨rfl, rfl, ho⟩, hr⟩ := hr.callv t29_68 rfl rfl (ct_ref (B := B) (i := s.2.2.2) (f := 2) (α := Unit) (Q := fun _ _ => True) hG.2.1 hA.1)
            obtain ⟨rfl, hs⟩ := hr.iret t29_71
            unfold linF
            rw [hwrd]
            dsimp only
            rw [if_neg hn8]
            unfold tabF
            rw [if_pos hfl, if_neg (fun q => b60 (by rw [q]; rfl))]
            exact ⟨_, _, hs, rfl, rfl, ho⟩
          · skip
            replace hr := hr.go (s_k t29_63)
            replace hr := hr.go (s_goto t29_64)
            obtain ⟨_, m9, _, ⟨rfl, rfl, ho⟩, hr⟩ := hr.callv t29_68 rfl rfl (ct_ref (B := B) (i := s.2.2.2) (f := 3) (α := Unit) (Q := fun _ _ => True) hG.2.1 hA.1)
            obtain ⟨rfl, hs⟩ := hr.iret t29_71
            unfold linF
            rw [hwrd]
            dsimp only
            rw [if_neg hn8]
            unfold tabF
            rw [if_pos hfl, if_pos (by have := (xn_eq (b := 1) (by omega) (by decide)).mp b60; omega)]
            exact ⟨_, _, hs, rfl, rfl, ho⟩
      · have hw8 : w = 8 := by have := (xn_eq (a := 32 + w) (b := 40) (by omega) (by decide)).mp b29; omega
        replace hr := hr.go (s_aload_n t29_32 rfl)
        replace hr := hr.go (s_aload_n t29_33 rfl)
        replace hr := hr.go (s_getr t29_34 (hG.2.2.2.2.2.2.1))
        obtain ⟨r1, m1, _, ⟨rfl, ho⟩, hr⟩ := hr.callv t29_37 rfl rfl (ct_readLaw (L := s.2.1) (kn := s.2.2.1) hG hE hA.1 hA.2.2.1 hA.2.2.2.1 hA.2.2.2.2.1 hA.2.2.2.2.2.1 hA.2.2.2.2.2.2)
        cases hb : lawF B s.2.1 s.2.2.1 s.2.2.2 with
        | inl e =>
          rw [hb] at ho
          obtain ⟨rfl, ho⟩ := ho
          obtain ⟨rfl, hs⟩ := hr.iret t29_40
          unfold linF
          rw [hwrd]
          dsimp only
          rw [if_pos hw8, hb]
          exact ⟨_, _, hs, rfl, rfl, ho⟩
        | inr q =>
          rw [hb] at ho
          obtain ⟨rfl, ho⟩ := ho
          obtain ⟨rfl, hs⟩ := hr.iret t29_40
          unfold linF
          rw [hwrd]
          dsimp only
          rw [if_pos hw8, hb]
          obtain ⟨h0, h1, h2, h3, h4, h5, h5f, h6⟩ := ho
          exact ⟨_, _, hs, rfl, rfl, h0, ⟨h1, fun w' hw' => tbC_row (hA.2.1 w' hw') (h6 _ (by omega) (by omega) (by omega) (by omega) (by omega) (by omega) (by omega) (by omega)) (h6 _ (by omega) (by omega) (by omega) (by omega) (by omega) (by omega) (by omega) (by omega)), h2, h3, h4, h5, h5f⟩, h6 _ (by omega) (by omega) (by omega) (by omega) (by omega) (by omega) (by omega) (by omega)⟩
    · replace hr := hr.go (s_aload_n t29_20 rfl)
      replace hr := hr.go (s_k t29_21)
      obtain ⟨_, m9, _, ⟨rfl, rfl, ho⟩, hr⟩ := hr.callv t29_22 rfl rfl (ct_ref (B := B) (i := s.2.2.2) (f := 1) (α := Unit) (Q := fun _ _ => True) hG.2.1 hA.1)
      obtain ⟨rfl, hs⟩ := hr.iret t29_25
      unfold linF
      rw [wrd_n (by omega)]
      exact ⟨_, _, hs, rfl, rfl, ho⟩

