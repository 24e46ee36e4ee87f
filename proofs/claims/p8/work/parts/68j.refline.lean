/-! The reference's lines: what is the same of all. -/
theorem sX_f {B : eB} {o : eO} {m : xM} {k : Nat} {x : Int32} (h : sX B o m) (h1 : ¬ (23 ≤ k ∧ k ≤ 29)) (h2 : ¬ k = 32) (h3 : ¬ k = 33) : sX B o (xu m 128 k x) := by
  cases o with
  | inl e =>
    obtain ⟨g1, g2, g3⟩ := h
    exact ⟨by rw [xu_oth (by omega)]; exact g1, by rw [xu_oth (by omega)]; exact g2, by rw [xu_oth (by omega)]; exact g3⟩
  | inr s =>
    obtain ⟨g1, ⟨g2, g3, g4, g5, g6⟩, g7, g8, g9, g10, g11⟩ := h
    exact ⟨by rw [xu_oth (by omega)]; exact g1, ⟨by rw [xu_row (by decide)]; exact g2, by rw [xu_oth (by omega)]; exact g3, by rw [xu_oth (by omega)]; exact g4, by rw [xu_oth (by omega)]; exact g5, by rw [xu_oth (by omega), xu_oth (by omega)]; exact g6⟩, by rw [xu_oth (by omega)]; exact g7, g8, by rw [xu_oth (by omega)]; exact g9, g10, by rw [xu_oth (by omega)]; exact g11⟩
theorem le485F {nf : Bool} {xs : List Int32} {d : Nat} {g : xL} {G : xG} {r : Option Value} {h' : zH} {N : Nat} {m : xM} {B : eB} {e : Nat × Nat} {ls : zL} (hz : zget ls 0 = some (.ref 128)) (h : sX B (.inl e) m) (hr : RR nf xs d 11 false 6 none zt169 G r h' N (485, ls, [], m, g)) : r = none ∧ HS h' m g G := by
  replace hr := hr.go (s_aload_n t169_485 hz)
  replace hr := hr.go (s_getf t169_486)
  rcases hr.zEq t169_489 with ⟨b, hr⟩ | ⟨b, hr⟩
  · exact absurd b h.2.1
  · exact hr.ret t169_492
theorem le485G {nf : Bool} {xs : List Int32} {d : Nat} {g : xL} {G : xG} {r : Option Value} {h' : zH} {N : Nat} {m : xM} {B : eB} {j kn : Nat} {ls : zL} (hG : GM G) (hE : EV B) (hz : zget ls 0 = some (.ref 128)) (h : sX B (.inr (j, kn, 0)) m) (hr : RR nf xs d 11 false 6 none zt169 G r h' N (485, ls, [], m, g)) : ∃ m' : xM, HS h' m' g G ∧ r = none ∧ (if tK B j = 4 then sX B (.inr (j + 1, kn, 0)) m' else sX B (.inl (1, j)) m') ∧ m' 128 22 = m 128 22 + 1 ∧ (∀ a : Nat, ¬ a = 128 → m' a = m a) ∧ ∀ k : Nat, ¬ (24 ≤ k ∧ k ≤ 29) → ¬ k = 22 → m' 128 k = m 128 k := by
  replace hr := hr.go (s_aload_n t169_485 hz)
  replace hr := hr.go (s_getf t169_486)
  rcases hr.zEq t169_489 with ⟨b, hr⟩ | ⟨b, hr⟩
  · replace hr := hr.go (s_aload_n t169_493 hz)
    replace hr := hr.go (s_k t169_494)
    replace hr := hr.cvI t169_496 rfl rfl (ct_isSign (kc := 4) h (fun _ _ _ _ q => tr_s59 q))
    rcases hr.zNe t169_499 with ⟨b2, hr⟩ | ⟨b2, hr⟩
    · have k4 : tK B j = 4 := of_decide_eq_true (bI_1 b2)
      replace hr := hr.go (s_aload_n t169_510 hz)
      obtain ⟨m1, ⟨h1, hf1⟩, hr⟩ := hr.fvN t169_511 rfl rfl (ct_tokG hG hE h)
      replace hr := hr.go (s_aload_n t169_514 hz)
      replace hr := hr.go (s_dup t169_515 rfl)
      replace hr := hr.go (s_getf t169_516)
      replace hr := hr.go (s_k t169_519)
      replace hr := hr.go (s_iadd t169_520)
      replace hr := hr.go (s_putf t169_521)
      obtain ⟨rfl, hs⟩ := hr.ret t169_524
      refine ⟨_, hs, rfl, ?_, ?_, fun a ha => ?_, fun k k1 k2 => ?_⟩
      · rw [if_pos k4]; exact sX_f h1 (by omega) (by omega) (by omega)
      · rw [xu_same, hf1.2 22 (by omega)]
      · rw [xu_row ha]; exact hf1.1 a ha
      · rw [xu_oth (by omega)]; exact hf1.2 k k1
    · have k4 : ¬ tK B j = 4 := of_decide_eq_false (bI_0 b2)
      replace hr := hr.go (s_aload_n t169_502 hz)
      replace hr := hr.go (s_k t169_503)
      obtain ⟨m1, ⟨h1, hf1⟩, hr⟩ := hr.fvN t169_504 rfl rfl (ct_wrongG (f := 1) h (by decide) (by decide))
      replace hr := hr.go (s_goto t169_507)
      replace hr := hr.go (s_aload_n t169_514 hz)
      replace hr := hr.go (s_dup t169_515 rfl)
      replace hr := hr.go (s_getf t169_516)
      replace hr := hr.go (s_k t169_519)
      replace hr := hr.go (s_iadd t169_520)
      replace hr := hr.go (s_putf t169_521)
      obtain ⟨rfl, hs⟩ := hr.ret t169_524
      refine ⟨_, hs, rfl, ?_, ?_, fun a ha => ?_, fun k k1 k2 => ?_⟩
      · rw [if_neg k4]; exact sX_f h1 (by omega) (by omega) (by omega)
      · rw [xu_same, hf1.2 22 (by omega)]
      · rw [xu_row ha]; exact hf1.1 a ha
      · rw [xu_oth (by omega)]; exact hf1.2 k k1
  · exact absurd h.1 b
theorem wrd_of {w : Nat} (hw : w < 9) : wrd (Int32.ofNat (32 + w)) = some w := by
  unfold wrd
  rw [if_pos (by rw [xn_int (by omega)]; omega), xn_nat (by omega), show 32 + w - 32 = w by omega]
theorem lin_tab {B : eB} {s : eS} {w : Nat} (hw : w < 8) (hk : tK B s.2.2.2 = Int32.ofNat (32 + w)) : linF B s = oMap (fun q => (eup s.1 w (s.1 w ++ [q.1]), s.2.1, s.2.2.1, q.2)) (tabF B w (s.1 w) (s.1 2) s.2.2.2) := by
  unfold linF
  rw [hk, wrd_of (by omega)]
  dsimp only
  rw [if_neg (by omega)]
  cases tabF B w (s.1 w) (s.1 2) s.2.2.2 <;> rfl
theorem tab_full {B : eB} {w i : Nat} {rows js : List (List Int32)} (h : mN w ≤ rows.length) : tabF B w rows js i = .inl (if mN w = 1 then 3 else 2, i) := by unfold tabF; rw [if_pos h]
theorem tab_num {B : eB} {w i : Nat} {rows js : List (List Int32)} (h : ¬ mN w ≤ rows.length) (hw : ¬ (1 ≤ w ∧ w ≤ 3)) : tabF B w rows js i = rendF B (rowF B w rows (cN w) 0 [] (i + 1)) := by unfold tabF; rw [if_neg h, if_neg hw]
theorem tab_nam {B : eB} {w i : Nat} {rows js : List (List Int32)} (h : ¬ mN w ≤ rows.length) (hw : 1 ≤ w ∧ w ≤ 3) : tabF B w rows js i = rendF B (match namF B w rows js (i + 1) with
    | .inl e => .inl e
    | .inr v => rowF B w rows (cN w - 1) 1 [v] (i + 2)) := by
  unfold tabF
  rw [if_neg h, if_pos hw]
  cases namF B w rows js (i + 1) <;> rfl
theorem rend_l {B : eB} {e : Nat × Nat} : rendF B (.inl e) = .inl e := rfl
theorem rend_r {B : eB} {row : List Int32} {j : Nat} : rendF B (.inr (row, j)) = if tK B j = 4 then .inr (row, j + 1) else .inl (1, j) := by
  show (match endF B j with
    | .inl e => Sum.inl e
    | .inr _ => Sum.inr (row, j + 1)) = _
  unfold endF
  by_cases h : tK B j = 4
  · rw [if_pos h, if_pos h]
  · rw [if_neg h, if_neg h]
/-- the first halves of the reference's rows -/
def fhp (a k : Nat) : Prop := (a = 130 ∧ k < 9) ∨ ((131 ≤ a ∧ a ≤ 138) ∧ k < 6) ∨ ((a = 140 ∨ a = 141) ∧ k < 5) ∨ ((a = 142 ∨ a = 143) ∧ k < 3)
def FM0 (m m' : xM) : Prop := ∀ a k : Nat, fhp a k → m' a k = m a k
/-- these, the rows of the rides, the fields behind what is read -/
def fhq (a k : Nat) : Prop := fhp a k ∨ 150 ≤ a ∨ (a = 128 ∧ 34 ≤ k)
def FM (m m' : xM) : Prop := ∀ a k : Nat, fhq a k → m' a k = m a k
def FG (g g' : xL) : Prop := ∀ a j : Nat, (a = 139 → j < 6) → g' a j = g a j
theorem FM.to0 {m m' : xM} (h : FM m m') : FM0 m m' := fun a k q => h a k (Or.inl q)
theorem FM.rf {m : xM} : FM m m := fun _ _ _ => rfl
theorem FM.tr {m m1 m2 : xM} (h1 : FM m m1) (h2 : FM m1 m2) : FM m m2 := fun a k h => (h2 a k h).trans (h1 a k h)
theorem fhp_b {a k : Nat} (h : fhp a k) : 130 ≤ a ∧ a ≤ 143 ∧ ¬ a = 139 := by
  unfold fhp at h
  omega
theorem FM.er {m m1 m' : xM} (h : ∀ a : Nat, ¬ a = 128 → m' a = m1 a) (h2 : ∀ k : Nat, 34 ≤ k → m' 128 k = m1 128 k) (hF : FM m m1) : FM m m' := fun a k q => by
  by_cases e : a = 128
  · subst e
    have hk : 34 ≤ k := by
      rcases q with q | q | q
      · have := fhp_b q; omega
      · omega
      · exact q.2
    rw [h2 k hk]
    exact hF 128 k q
  · rw [h a e]
    exact hF a k q
theorem FM.xr {m m' : xM} {a k : Nat} {x : Int32} (hF : FM m m') (hn : ¬ fhq a k) : FM m (xu m' a k x) := fun b j q => by
  rw [xu_oth (fun z => by obtain ⟨rfl, rfl⟩ := z; exact hn q)]
  exact hF b j q
theorem FM.x128 {m m' : xM} {k : Nat} {x : Int32} (hF : FM m m') (hk : k < 34) : FM m (xu m' 128 k x) := hF.xr (fun q => by unfold fhq fhp at q; omega)
theorem FM.x130 {m m' : xM} {k : Nat} {x : Int32} (hF : FM m m') (hk : 9 ≤ k) : FM m (xu m' 130 k x) := hF.xr (fun q => by unfold fhq fhp at q; omega)
theorem FG.rf {g : xL} : FG g g := fun _ _ _ => rfl
theorem FG.of {g g' : xL} (h : g' = g) : FG g g' := fun _ _ _ => by rw [h]
theorem FG.tr {g g1 g2 : xL} (h1 : FG g g1) (h2 : FG g1 g2) : FG g g2 := fun a j h => (h2 a j h).trans (h1 a j h)
theorem FG.x {g : xL} {k : Nat} {x : Int64} (hk : 6 ≤ k) : FG g (xu g 139 k x) := fun a j h => xu_oth (fun z => by have := h z.1; omega)
/-- a line's end in the reference -/
def PL (B : eB) (s : eS) (m : xM) (g : xL) : Option Value → xM → xL → Prop := fun r m' g' => r = none ∧ (FM m m' ∧ FG g g') ∧ match linF B s with
  | .inl e => sX B (.inl e) m'
  | .inr s' => AR B s' m' g' ∧ m' 128 22 = m 128 22 + 1
theorem PL_bad {B : eB} {s : eS} {m m' : xM} {g g' : xL} {e : Nat × Nat} (hl : linF B s = .inl e) (h : sX B (.inl e) m') (hF : FM m m') (hg : FG g g') : PL B s m g none m' g' := by
  refine ⟨rfl, ⟨hF, hg⟩, ?_⟩
  rw [hl]
  exact h
theorem PL_good {B : eB} {s : eS} {m m' : xM} {g g' : xL} {w j : Nat} {row : List Int32} (hl : linF B s = oMap (fun q => (eup s.1 w (s.1 w ++ [q.1]), s.2.1, s.2.2.1, q.2)) (rendF B (.inr (row, j)))) (h4 : if tK B j = 4 then sX B (.inr (j + 1, s.2.2.1, 0)) m' else sX B (.inl (1, j)) m') (hA : sX B (.inr (j + 1, s.2.2.1, 0)) m' → AR B (eup s.1 w (s.1 w ++ [row]), s.2.1, s.2.2.1, j + 1) m' g') (h22 : m' 128 22 = m 128 22 + 1) (hF : FM m m') (hg : FG g g') : PL B s m g none m' g' := by
  refine ⟨rfl, ⟨hF, hg⟩, ?_⟩
  rw [hl, rend_r]
  by_cases h : tK B j = 4
  · rw [if_pos h] at h4 ⊢
    exact ⟨hA h4, h22⟩
  · rw [if_neg h] at h4 ⊢
    exact h4
/-- the reference's rows -/
def GL (G : xG) : Prop := GM G ∧ GK G ∧ (∀ k : Nat, 4 ≤ k → k ≤ 20 → G.1 128 k = some (127 + k)) ∧ G.2 131 = (0, 1, 12) ∧ G.2 136 = (0, 1, 12) ∧ G.2 142 = (0, 1, 6)
theorem ch0 {B : eB} {rows : List (List Int32)} {i kn : Nat} : (∃ e : Nat × Nat, rowF B 0 rows 1 0 [] i = .inl e ∧ nuO B 1 60 ((.inr (i, kn, 0) : eO)) = .inl e) ∨ (rowF B 0 rows 1 0 [] i = .inr ([nuV B 1 60 ((.inr (i, kn, 0) : eO))], i + 1) ∧ nuO B 1 60 ((.inr (i, kn, 0) : eO)) = .inr (i + 1, kn, 0)) := by
  rcases num_step (B := B) (w := 0) (c := 0) (i := i) (kn := kn) (row := []) (rows := rows) (lo := 1) (mo := 60) (by first | rfl | decide) (by decide) (by decide) with ⟨e, e1, e2⟩ | ⟨e1, e2⟩
  · exact Or.inl ⟨e, rowF_l e1, by rw [e2]⟩
  rw [show rowF B 0 rows 1 0 [] (i) = rowF B 0 rows 0 1 [nuV B 1 60 (.inr (i, kn, 0))] (i + 1) from rowF_r e1, show nuO B 1 60 (.inr (i, kn, 0)) = .inr (i + 1, kn, 0) from e2]
  generalize nuV B 1 60 (.inr (i, kn, 0)) = v0
  exact Or.inr ⟨rfl, rfl⟩
theorem ch6 {B : eB} {rows : List (List Int32)} {i kn : Nat} : (∃ e : Nat × Nat, rowF B 6 rows 1 0 [] i = .inl e ∧ nuO B 0 9 ((.inr (i, kn, 0) : eO)) = .inl e) ∨ (rowF B 6 rows 1 0 [] i = .inr ([nuV B 0 9 ((.inr (i, kn, 0) : eO))], i + 1) ∧ nuO B 0 9 ((.inr (i, kn, 0) : eO)) = .inr (i + 1, kn, 0)) := by
  rcases num_step (B := B) (w := 6) (c := 0) (i := i) (kn := kn) (row := []) (rows := rows) (lo := 0) (mo := 9) (by first | rfl | decide) (by decide) (by decide) with ⟨e, e1, e2⟩ | ⟨e1, e2⟩
  · exact Or.inl ⟨e, rowF_l e1, by rw [e2]⟩
  rw [show rowF B 6 rows 1 0 [] (i) = rowF B 6 rows 0 1 [nuV B 0 9 (.inr (i, kn, 0))] (i + 1) from rowF_r e1, show nuO B 0 9 (.inr (i, kn, 0)) = .inr (i + 1, kn, 0) from e2]
  generalize nuV B 0 9 (.inr (i, kn, 0)) = v0
  exact Or.inr ⟨rfl, rfl⟩
theorem ch7 {B : eB} {rows : List (List Int32)} {i kn : Nat} : (∃ e : Nat × Nat, rowF B 7 rows 1 0 [] i = .inl e ∧ nuO B 0 99999 ((.inr (i, kn, 0) : eO)) = .inl e) ∨ (rowF B 7 rows 1 0 [] i = .inr ([nuV B 0 99999 ((.inr (i, kn, 0) : eO))], i + 1) ∧ nuO B 0 99999 ((.inr (i, kn, 0) : eO)) = .inr (i + 1, kn, 0)) := by
  rcases num_step (B := B) (w := 7) (c := 0) (i := i) (kn := kn) (row := []) (rows := rows) (lo := 0) (mo := 99999) (by first | rfl | decide) (by decide) (by decide) with ⟨e, e1, e2⟩ | ⟨e1, e2⟩
  · exact Or.inl ⟨e, rowF_l e1, by rw [e2]⟩
  rw [show rowF B 7 rows 1 0 [] (i) = rowF B 7 rows 0 1 [nuV B 0 99999 (.inr (i, kn, 0))] (i + 1) from rowF_r e1, show nuO B 0 99999 (.inr (i, kn, 0)) = .inr (i + 1, kn, 0) from e2]
  generalize nuV B 0 99999 (.inr (i, kn, 0)) = v0
  exact Or.inr ⟨rfl, rfl⟩
theorem ch4 {B : eB} {rows : List (List Int32)} {i kn : Nat} : (∃ e : Nat × Nat, rowF B 4 rows 2 0 [] i = .inl e ∧ nuO B 0 99 (nuO B 0 60 ((.inr (i, kn, 0) : eO))) = .inl e) ∨ (rowF B 4 rows 2 0 [] i = .inr ([nuV B 0 60 ((.inr (i, kn, 0) : eO)), nuV B 0 99 (nuO B 0 60 ((.inr (i, kn, 0) : eO)))], i + 2) ∧ nuO B 0 99 (nuO B 0 60 ((.inr (i, kn, 0) : eO))) = .inr (i + 2, kn, 0)) := by
  rcases num_step (B := B) (w := 4) (c := 0) (i := i) (kn := kn) (row := []) (rows := rows) (lo := 0) (mo := 60) (by first | rfl | decide) (by decide) (by decide) with ⟨e, e1, e2⟩ | ⟨e1, e2⟩
  · exact Or.inl ⟨e, rowF_l e1, by rw [e2]; rfl⟩
  rw [show rowF B 4 rows 2 0 [] (i) = rowF B 4 rows 1 1 [nuV B 0 60 (.inr (i, kn, 0))] (i + 1) from rowF_r e1, show nuO B 0 60 (.inr (i, kn, 0)) = .inr (i + 1, kn, 0) from e2]
  generalize nuV B 0 60 (.inr (i, kn, 0)) = v0
  rcases num_step (B := B) (w := 4) (c := 1) (i := i + 1) (kn := kn) (row := [v0]) (rows := rows) (lo := 0) (mo := 99) (by first | rfl | decide) (by decide) (by decide) with ⟨e, e1, e2⟩ | ⟨e1, e2⟩
  · exact Or.inl ⟨e, rowF_l e1, by rw [e2]⟩
  rw [show rowF B 4 rows 1 1 [v0] (i + 1) = rowF B 4 rows 0 2 [v0, nuV B 0 99 (.inr (i + 1, kn, 0))] (i + 2) from rowF_r e1, show nuO B 0 99 (.inr (i + 1, kn, 0)) = .inr (i + 2, kn, 0) from e2]
  generalize nuV B 0 99 (.inr (i + 1, kn, 0)) = v1
  exact Or.inr ⟨rfl, rfl⟩
theorem ch1 {B : eB} {rows js : List (List Int32)} {i kn : Nat} : (∃ e : Nat × Nat, (match namF B 1 rows js i with
    | .inl e => Sum.inl e
    | .inr v => rowF B 1 rows 4 1 [v] (i + 1)) = .inl e ∧ nuO B 0 3 (nuO B 0 9 (nuO B 0 99 (nuO B 0 60 (frO B rows (i, kn, 0))))) = .inl e) ∨ ((match namF B 1 rows js i with
    | .inl e => Sum.inl e
    | .inr v => rowF B 1 rows 4 1 [v] (i + 1)) = .inr ([frV B rows (i, kn, 0), nuV B 0 60 (frO B rows (i, kn, 0)), nuV B 0 99 (nuO B 0 60 (frO B rows (i, kn, 0))), nuV B 0 9 (nuO B 0 99 (nuO B 0 60 (frO B rows (i, kn, 0)))), nuV B 0 3 (nuO B 0 9 (nuO B 0 99 (nuO B 0 60 (frO B rows (i, kn, 0)))))], i + 5) ∧ nuO B 0 3 (nuO B 0 9 (nuO B 0 99 (nuO B 0 60 (frO B rows (i, kn, 0))))) = .inr (i + 5, kn, 0)) := by
  rcases nam_step (B := B) (w := 1) (i := i) (kn := kn) (rows := rows) (js := js) (by decide) with ⟨e, e1, e2⟩ | ⟨e1, e2⟩
  · exact Or.inl ⟨e, by rw [e1], by rw [e2]; rfl⟩
  rw [e1, e2]
  dsimp only
  generalize frV B rows (i, kn, 0) = v0
  rcases num_step (B := B) (w := 1) (c := 1) (i := i + 1) (kn := kn) (row := [v0]) (rows := rows) (lo := 0) (mo := 60) (by first | rfl | decide) (by decide) (by decide) with ⟨e, e1, e2⟩ | ⟨e1, e2⟩
  · exact Or.inl ⟨e, rowF_l e1, by rw [e2]; rfl⟩
  rw [show rowF B 1 rows 4 1 [v0] (i + 1) = rowF B 1 rows 3 2 [v0, nuV B 0 60 (.inr (i + 1, kn, 0))] (i + 2) from rowF_r e1, show nuO B 0 60 (.inr (i + 1, kn, 0)) = .inr (i + 2, kn, 0) from e2]
  generalize nuV B 0 60 (.inr (i + 1, kn, 0)) = v1
  rcases num_step (B := B) (w := 1) (c := 2) (i := i + 2) (kn := kn) (row := [v0, v1]) (rows := rows) (lo := 0) (mo := 99) (by first | rfl | decide) (by decide) (by decide) with ⟨e, e1, e2⟩ | ⟨e1, e2⟩
  · exact Or.inl ⟨e, rowF_l e1, by rw [e2]; rfl⟩
  rw [show rowF B 1 rows 3 2 [v0, v1] (i + 2) = rowF B 1 rows 2 3 [v0, v1, nuV B 0 99 (.inr (i + 2, kn, 0))] (i + 3) from rowF_r e1, show nuO B 0 99 (.inr (i + 2, kn, 0)) = .inr (i + 3, kn, 0) from e2]
  generalize nuV B 0 99 (.inr (i + 2, kn, 0)) = v2
  rcases num_step (B := B) (w := 1) (c := 3) (i := i + 3) (kn := kn) (row := [v0, v1, v2]) (rows := rows) (lo := 0) (mo := 9) (by first | rfl | decide) (by decide) (by decide) with ⟨e, e1, e2⟩ | ⟨e1, e2⟩
  · exact Or.inl ⟨e, rowF_l e1, by rw [e2]; rfl⟩
  rw [show rowF B 1 rows 2 3 [v0, v1, v2] (i + 3) = rowF B 1 rows 1 4 [v0, v1, v2, nuV B 0 9 (.inr (i + 3, kn, 0))] (i + 4) from rowF_r e1, show nuO B 0 9 (.inr (i + 3, kn, 0)) = .inr (i + 4, kn, 0) from e2]
  generalize nuV B 0 9 (.inr (i + 3, kn, 0)) = v3
  rcases num_step (B := B) (w := 1) (c := 4) (i := i + 4) (kn := kn) (row := [v0, v1, v2, v3]) (rows := rows) (lo := 0) (mo := 3) (by first | rfl | decide) (by decide) (by decide) with ⟨e, e1, e2⟩ | ⟨e1, e2⟩
  · exact Or.inl ⟨e, rowF_l e1, by rw [e2]⟩
  rw [show rowF B 1 rows 1 4 [v0, v1, v2, v3] (i + 4) = rowF B 1 rows 0 5 [v0, v1, v2, v3, nuV B 0 3 (.inr (i + 4, kn, 0))] (i + 5) from rowF_r e1, show nuO B 0 3 (.inr (i + 4, kn, 0)) = .inr (i + 5, kn, 0) from e2]
  generalize nuV B 0 3 (.inr (i + 4, kn, 0)) = v4
  exact Or.inr ⟨rfl, rfl⟩
theorem ch2 {B : eB} {rows js : List (List Int32)} {i kn : Nat} : (∃ e : Nat × Nat, (match namF B 2 rows js i with
    | .inl e => Sum.inl e
    | .inr v => rowF B 2 rows 2 1 [v] (i + 1)) = .inl e ∧ nuO B 0 3 (nuO B 0 99 (frO B rows (i, kn, 0))) = .inl e) ∨ ((match namF B 2 rows js i with
    | .inl e => Sum.inl e
    | .inr v => rowF B 2 rows 2 1 [v] (i + 1)) = .inr ([frV B rows (i, kn, 0), nuV B 0 99 (frO B rows (i, kn, 0)), nuV B 0 3 (nuO B 0 99 (frO B rows (i, kn, 0)))], i + 3) ∧ nuO B 0 3 (nuO B 0 99 (frO B rows (i, kn, 0))) = .inr (i + 3, kn, 0)) := by
  rcases nam_step (B := B) (w := 2) (i := i) (kn := kn) (rows := rows) (js := js) (by decide) with ⟨e, e1, e2⟩ | ⟨e1, e2⟩
  · exact Or.inl ⟨e, by rw [e1], by rw [e2]; rfl⟩
  rw [e1, e2]
  dsimp only
  generalize frV B rows (i, kn, 0) = v0
  rcases num_step (B := B) (w := 2) (c := 1) (i := i + 1) (kn := kn) (row := [v0]) (rows := rows) (lo := 0) (mo := 99) (by first | rfl | decide) (by decide) (by decide) with ⟨e, e1, e2⟩ | ⟨e1, e2⟩
  · exact Or.inl ⟨e, rowF_l e1, by rw [e2]; rfl⟩
  rw [show rowF B 2 rows 2 1 [v0] (i + 1) = rowF B 2 rows 1 2 [v0, nuV B 0 99 (.inr (i + 1, kn, 0))] (i + 2) from rowF_r e1, show nuO B 0 99 (.inr (i + 1, kn, 0)) = .inr (i + 2, kn, 0) from e2]
  generalize nuV B 0 99 (.inr (i + 1, kn, 0)) = v1
  rcases num_step (B := B) (w := 2) (c := 2) (i := i + 2) (kn := kn) (row := [v0, v1]) (rows := rows) (lo := 0) (mo := 3) (by first | rfl | decide) (by decide) (by decide) with ⟨e, e1, e2⟩ | ⟨e1, e2⟩
  · exact Or.inl ⟨e, rowF_l e1, by rw [e2]⟩
  rw [show rowF B 2 rows 1 2 [v0, v1] (i + 2) = rowF B 2 rows 0 3 [v0, v1, nuV B 0 3 (.inr (i + 2, kn, 0))] (i + 3) from rowF_r e1, show nuO B 0 3 (.inr (i + 2, kn, 0)) = .inr (i + 3, kn, 0) from e2]
  generalize nuV B 0 3 (.inr (i + 2, kn, 0)) = v2
  exact Or.inr ⟨rfl, rfl⟩
