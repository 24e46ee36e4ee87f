/-! Joined: 68j.refline, 68k.ref0, 68l.ref1, 68m.reftell, 68n.reflines, 69a.half, 69ab.starts. -/
section
/-! The reference's lines: what is the same of all. -/
theorem sX_f {B : eB} {o : eO} {m : xM} {k : Nat} {x : Int32} (h : sX B o m) (h1 : ¬ (23 ≤ k ∧ k ≤ 29)) (h2 : ¬ k = 32) (h3 : ¬ k = 33) : sX B o (xu m 128 k x) := by
  cases o with
  | inl e =>
    obtain ⟨g1, g2, g3⟩ := h
    exact ⟨by rw [xu_oth (by omega)]; exact g1, by rw [xu_oth (by omega)]; exact g2, by rw [xu_oth (by omega)]; exact g3⟩
  | inr s =>
    obtain ⟨g1, ⟨g2, g3, g4, g5, g6⟩, g7, g8, g9, g10, g11⟩ := h
    exact ⟨by rw [xu_oth (by omega)]; exact g1, ⟨by rw [xu_row (by decide)]; exact g2, by rw [xu_oth (by omega)]; exact g3, by rw [xu_oth (by omega)]; exact g4, by rw [xu_oth (by omega)]; exact g5, by rw [xu_oth (by omega), xu_oth (by omega)]; exact g6⟩, by rw [xu_oth (by omega)]; exact g7, g8, by rw [xu_oth (by omega)]; exact g9, g10, by rw [xu_oth (by omega)]; exact g11⟩
theorem le485F {nf : Bool} {xs : List Int32} {d : Nat} {g : xL} {G : xG} {r : Option Value} {h' : zH} {N : Nat} {m : xM} {B : eB} {e : Nat × Nat} {ls : zL} (hz : zget ls 0 = some (.ref 128)) (h : sX B (.inl e) m) (hr : RR nf xs d 11 false 6 none zt169 G r h' N (485, ls, [], m, g)) : r = none ∧ HS h' m g G := by
  replace hr := hr.go (s_aload_n t169_485 hz)
  replace hr := hr.go (s_getf t169_486)
  rcases hr.zEq t169_489 with ⟨b, hr⟩ | ⟨b, hr⟩
  · exact absurd b h.2.1
  · exact hr.ret t169_492
theorem le485G {nf : Bool} {xs : List Int32} {d : Nat} {g : xL} {G : xG} {r : Option Value} {h' : zH} {N : Nat} {m : xM} {B : eB} {j kn : Nat} {ls : zL} (hG : GM G) (hE : EV B) (hz : zget ls 0 = some (.ref 128)) (h : sX B (.inr (j, kn, 0)) m) (hr : RR nf xs d 11 false 6 none zt169 G r h' N (485, ls, [], m, g)) : ∃ m' : xM, HS h' m' g G ∧ r = none ∧ (if tK B j = 4 then sX B (.inr (j + 1, kn, 0)) m' else sX B (.inl (1, j)) m') ∧ m' 128 22 = m 128 22 + 1 ∧ (∀ a : Nat, ¬ a = 128 → m' a = m a) ∧ ∀ k : Nat, ¬ (24 ≤ k ∧ k ≤ 29) → ¬ k = 22 → m' 128 k = m 128 k := by
  replace hr := hr.go (s_aload_n t169_485 hz)
  replace hr := hr.go (s_getf t169_486)
  rcases hr.zEq t169_489 with ⟨b, hr⟩ | ⟨b, hr⟩
  · replace hr := hr.go (s_aload_n t169_493 hz)
    replace hr := hr.go (s_k t169_494)
    replace hr := hr.cvI t169_496 rfl rfl (ct_isSign (kc := 4) h (fun _ _ _ _ q => tr_s59 q))
    rcases hr.zNe t169_499 with ⟨b2, hr⟩ | ⟨b2, hr⟩
    · have k4 : tK B j = 4 := of_decide_eq_true (bI_1 b2)
      replace hr := hr.go (s_aload_n t169_510 hz)
      obtain ⟨m1, ⟨h1, hf1⟩, hr⟩ := hr.fvN t169_511 rfl rfl (ct_tokG hG hE h)
      replace hr := hr.go (s_aload_n t169_514 hz)
      replace hr := hr.go (s_dup t169_515 rfl)
      replace hr := hr.go (s_getf t169_516)
      replace hr := hr.go (s_k t169_519)
      replace hr := hr.go (s_iadd t169_520)
      replace hr := hr.go (s_putf t169_521)
      obtain ⟨rfl, hs⟩ := hr.ret t169_524
      refine ⟨_, hs, rfl, ?_, ?_, fun a ha => ?_, fun k k1 k2 => ?_⟩
      · rw [if_pos k4]; exact sX_f h1 (by omega) (by omega) (by omega)
      · rw [xu_same, hf1.2 22 (by omega)]
      · rw [xu_row ha]; exact hf1.1 a ha
      · rw [xu_oth (by omega)]; exact hf1.2 k k1
    · have k4 : ¬ tK B j = 4 := of_decide_eq_false (bI_0 b2)
      replace hr := hr.go (s_aload_n t169_502 hz)
      replace hr := hr.go (s_k t169_503)
      obtain ⟨m1, ⟨h1, hf1⟩, hr⟩ := hr.fvN t169_504 rfl rfl (ct_wrongG (f := 1) h (by decide) (by decide))
      replace hr := hr.go (s_goto t169_507)
      replace hr := hr.go (s_aload_n t169_514 hz)
      replace hr := hr.go (s_dup t169_515 rfl)
      replace hr := hr.go (s_getf t169_516)
      replace hr := hr.go (s_k t169_519)
      replace hr := hr.go (s_iadd t169_520)
      replace hr := hr.go (s_putf t169_521)
      obtain ⟨rfl, hs⟩ := hr.ret t169_524
      refine ⟨_, hs, rfl, ?_, ?_, fun a ha => ?_, fun k k1 k2 => ?_⟩
      · rw [if_neg k4]; exact sX_f h1 (by omega) (by omega) (by omega)
      · rw [xu_same, hf1.2 22 (by omega)]
      · rw [xu_row ha]; exact hf1.1 a ha
      · rw [xu_oth (by omega)]; exact hf1.2 k k1
  · exact absurd h.1 b
theorem wrd_of {w : Nat} (hw : w < 9) : wrd (Int32.ofNat (32 + w)) = some w := by
  unfold wrd
  rw [if_pos (by rw [xn_int (by omega)]; omega), xn_nat (by omega), show 32 + w - 32 = w by omega]
theorem lin_tab {B : eB} {s : eS} {w : Nat} (hw : w < 8) (hk : tK B s.2.2.2 = Int32.ofNat (32 + w)) : linF B s = oMap (fun q => (eup s.1 w (s.1 w ++ [q.1]), s.2.1, s.2.2.1, q.2)) (tabF B w (s.1 w) (s.1 2) s.2.2.2) := by
  unfold linF
  rw [hk, wrd_of (by omega)]
  dsimp only
  rw [if_neg (by omega)]
  cases tabF B w (s.1 w) (s.1 2) s.2.2.2 <;> rfl
theorem tab_full {B : eB} {w i : Nat} {rows js : List (List Int32)} (h : mN w ≤ rows.length) : tabF B w rows js i = .inl (if mN w = 1 then 3 else 2, i) := by unfold tabF; rw [if_pos h]
theorem tab_num {B : eB} {w i : Nat} {rows js : List (List Int32)} (h : ¬ mN w ≤ rows.length) (hw : ¬ (1 ≤ w ∧ w ≤ 3)) : tabF B w rows js i = rendF B (rowF B w rows (cN w) 0 [] (i + 1)) := by unfold tabF; rw [if_neg h, if_neg hw]
theorem tab_nam {B : eB} {w i : Nat} {rows js : List (List Int32)} (h : ¬ mN w ≤ rows.length) (hw : 1 ≤ w ∧ w ≤ 3) : tabF B w rows js i = rendF B (match namF B w rows js (i + 1) with
    | .inl e => .inl e
    | .inr v => rowF B w rows (cN w - 1) 1 [v] (i + 2)) := by
  unfold tabF
  rw [if_neg h, if_pos hw]
  cases namF B w rows js (i + 1) <;> rfl
theorem rend_l {B : eB} {e : Nat × Nat} : rendF B (.inl e) = .inl e := rfl
theorem rend_r {B : eB} {row : List Int32} {j : Nat} : rendF B (.inr (row, j)) = if tK B j = 4 then .inr (row, j + 1) else .inl (1, j) := by
  show (match endF B j with
    | .inl e => Sum.inl e
    | .inr _ => Sum.inr (row, j + 1)) = _
  unfold endF
  by_cases h : tK B j = 4
  · rw [if_pos h, if_pos h]
  · rw [if_neg h, if_neg h]
/-- the first halves of the reference's rows -/
def fhp (a k : Nat) : Prop := (a = 130 ∧ k < 9) ∨ ((131 ≤ a ∧ a ≤ 138) ∧ k < 6) ∨ ((a = 140 ∨ a = 141) ∧ k < 5) ∨ ((a = 142 ∨ a = 143) ∧ k < 3)
def FM0 (m m' : xM) : Prop := ∀ a k : Nat, fhp a k → m' a k = m a k
/-- these, the rows of the rides, the fields behind what is read -/
def fhq (a k : Nat) : Prop := fhp a k ∨ 150 ≤ a ∨ (a = 128 ∧ 34 ≤ k)
def FM (m m' : xM) : Prop := ∀ a k : Nat, fhq a k → m' a k = m a k
def FG (g g' : xL) : Prop := ∀ a j : Nat, (a = 139 → j < 6) → g' a j = g a j
theorem FM.to0 {m m' : xM} (h : FM m m') : FM0 m m' := fun a k q => h a k (Or.inl q)
theorem FM.rf {m : xM} : FM m m := fun _ _ _ => rfl
theorem FM.tr {m m1 m2 : xM} (h1 : FM m m1) (h2 : FM m1 m2) : FM m m2 := fun a k h => (h2 a k h).trans (h1 a k h)
theorem fhp_b {a k : Nat} (h : fhp a k) : 130 ≤ a ∧ a ≤ 143 ∧ ¬ a = 139 := by
  unfold fhp at h
  omega
theorem FM.er {m m1 m' : xM} (h : ∀ a : Nat, ¬ a = 128 → m' a = m1 a) (h2 : ∀ k : Nat, 34 ≤ k → m' 128 k = m1 128 k) (hF : FM m m1) : FM m m' := fun a k q => by
  by_cases e : a = 128
  · subst e
    have hk : 34 ≤ k := by
      rcases q with q | q | q
      · have := fhp_b q; omega
      · omega
      · exact q.2
    rw [h2 k hk]
    exact hF 128 k q
  · rw [h a e]
    exact hF a k q
theorem FM.xr {m m' : xM} {a k : Nat} {x : Int32} (hF : FM m m') (hn : ¬ fhq a k) : FM m (xu m' a k x) := fun b j q => by
  rw [xu_oth (fun z => by obtain ⟨rfl, rfl⟩ := z; exact hn q)]
  exact hF b j q
theorem FM.x128 {m m' : xM} {k : Nat} {x : Int32} (hF : FM m m') (hk : k < 34) : FM m (xu m' 128 k x) := hF.xr (fun q => by unfold fhq fhp at q; omega)
theorem FM.x130 {m m' : xM} {k : Nat} {x : Int32} (hF : FM m m') (hk : 9 ≤ k) : FM m (xu m' 130 k x) := hF.xr (fun q => by unfold fhq fhp at q; omega)
theorem FG.rf {g : xL} : FG g g := fun _ _ _ => rfl
theorem FG.of {g g' : xL} (h : g' = g) : FG g g' := fun _ _ _ => by rw [h]
theorem FG.tr {g g1 g2 : xL} (h1 : FG g g1) (h2 : FG g1 g2) : FG g g2 := fun a j h => (h2 a j h).trans (h1 a j h)
theorem FG.x {g : xL} {k : Nat} {x : Int64} (hk : 6 ≤ k) : FG g (xu g 139 k x) := fun a j h => xu_oth (fun z => by have := h z.1; omega)
/-- a line's end in the reference -/
def PL (B : eB) (s : eS) (m : xM) (g : xL) : Option Value → xM → xL → Prop := fun r m' g' => r = none ∧ (FM m m' ∧ FG g g') ∧ match linF B s with
  | .inl e => sX B (.inl e) m'
  | .inr s' => AR B s' m' g' ∧ m' 128 22 = m 128 22 + 1
theorem PL_bad {B : eB} {s : eS} {m m' : xM} {g g' : xL} {e : Nat × Nat} (hl : linF B s = .inl e) (h : sX B (.inl e) m') (hF : FM m m') (hg : FG g g') : PL B s m g none m' g' := by
  refine ⟨rfl, ⟨hF, hg⟩, ?_⟩
  rw [hl]
  exact h
theorem PL_good {B : eB} {s : eS} {m m' : xM} {g g' : xL} {w j : Nat} {row : List Int32} (hl : linF B s = oMap (fun q => (eup s.1 w (s.1 w ++ [q.1]), s.2.1, s.2.2.1, q.2)) (rendF B (.inr (row, j)))) (h4 : if tK B j = 4 then sX B (.inr (j + 1, s.2.2.1, 0)) m' else sX B (.inl (1, j)) m') (hA : sX B (.inr (j + 1, s.2.2.1, 0)) m' → AR B (eup s.1 w (s.1 w ++ [row]), s.2.1, s.2.2.1, j + 1) m' g') (h22 : m' 128 22 = m 128 22 + 1) (hF : FM m m') (hg : FG g g') : PL B s m g none m' g' := by
  refine ⟨rfl, ⟨hF, hg⟩, ?_⟩
  rw [hl, rend_r]
  by_cases h : tK B j = 4
  · rw [if_pos h] at h4 ⊢
    exact ⟨hA h4, h22⟩
  · rw [if_neg h] at h4 ⊢
    exact h4
/-- the reference's rows -/
def GL (G : xG) : Prop := GM G ∧ GK G ∧ (∀ k : Nat, 4 ≤ k → k ≤ 20 → G.1 128 k = some (127 + k)) ∧ G.2 131 = (0, 1, 12) ∧ G.2 136 = (0, 1, 12) ∧ G.2 142 = (0, 1, 6)
theorem ch0 {B : eB} {rows : List (List Int32)} {i kn : Nat} : (∃ e : Nat × Nat, rowF B 0 rows 1 0 [] i = .inl e ∧ nuO B 1 60 ((.inr (i, kn, 0) : eO)) = .inl e) ∨ (rowF B 0 rows 1 0 [] i = .inr ([nuV B 1 60 ((.inr (i, kn, 0) : eO))], i + 1) ∧ nuO B 1 60 ((.inr (i, kn, 0) : eO)) = .inr (i + 1, kn, 0)) := by
  rcases num_step (B := B) (w := 0) (c := 0) (i := i) (kn := kn) (row := []) (rows := rows) (lo := 1) (mo := 60) (by first | rfl | decide) (by decide) (by decide) with ⟨e, e1, e2⟩ | ⟨e1, e2⟩
  · exact Or.inl ⟨e, rowF_l e1, by rw [e2]⟩
  rw [show rowF B 0 rows 1 0 [] (i) = rowF B 0 rows 0 1 [nuV B 1 60 (.inr (i, kn, 0))] (i + 1) from rowF_r e1, show nuO B 1 60 (.inr (i, kn, 0)) = .inr (i + 1, kn, 0) from e2]
  generalize nuV B 1 60 (.inr (i, kn, 0)) = v0
  exact Or.inr ⟨rfl, rfl⟩
theorem ch6 {B : eB} {rows : List (List Int32)} {i kn : Nat} : (∃ e : Nat × Nat, rowF B 6 rows 1 0 [] i = .inl e ∧ nuO B 0 9 ((.inr (i, kn, 0) : eO)) = .inl e) ∨ (rowF B 6 rows 1 0 [] i = .inr ([nuV B 0 9 ((.inr (i, kn, 0) : eO))], i + 1) ∧ nuO B 0 9 ((.inr (i, kn, 0) : eO)) = .inr (i + 1, kn, 0)) := by
  rcases num_step (B := B) (w := 6) (c := 0) (i := i) (kn := kn) (row := []) (rows := rows) (lo := 0) (mo := 9) (by first | rfl | decide) (by decide) (by decide) with ⟨e, e1, e2⟩ | ⟨e1, e2⟩
  · exact Or.inl ⟨e, rowF_l e1, by rw [e2]⟩
  rw [show rowF B 6 rows 1 0 [] (i) = rowF B 6 rows 0 1 [nuV B 0 9 (.inr (i, kn, 0))] (i + 1) from rowF_r e1, show nuO B 0 9 (.inr (i, kn, 0)) = .inr (i + 1, kn, 0) from e2]
  generalize nuV B 0 9 (.inr (i, kn, 0)) = v0
  exact Or.inr ⟨rfl, rfl⟩
theorem ch7 {B : eB} {rows : List (List Int32)} {i kn : Nat} : (∃ e : Nat × Nat, rowF B 7 rows 1 0 [] i = .inl e ∧ nuO B 0 99999 ((.inr (i, kn, 0) : eO)) = .inl e) ∨ (rowF B 7 rows 1 0 [] i = .inr ([nuV B 0 99999 ((.inr (i, kn, 0) : eO))], i + 1) ∧ nuO B 0 99999 ((.inr (i, kn, 0) : eO)) = .inr (i + 1, kn, 0)) := by
  rcases num_step (B := B) (w := 7) (c := 0) (i := i) (kn := kn) (row := []) (rows := rows) (lo := 0) (mo := 99999) (by first | rfl | decide) (by decide) (by decide) with ⟨e, e1, e2⟩ | ⟨e1, e2⟩
  · exact Or.inl ⟨e, rowF_l e1, by rw [e2]⟩
  rw [show rowF B 7 rows 1 0 [] (i) = rowF B 7 rows 0 1 [nuV B 0 99999 (.inr (i, kn, 0))] (i + 1) from rowF_r e1, show nuO B 0 99999 (.inr (i, kn, 0)) = .inr (i + 1, kn, 0) from e2]
  generalize nuV B 0 99999 (.inr (i, kn, 0)) = v0
  exact Or.inr ⟨rfl, rfl⟩
theorem ch4 {B : eB} {rows : List (List Int32)} {i kn : Nat} : (∃ e : Nat × Nat, rowF B 4 rows 2 0 [] i = .inl e ∧ nuO B 0 99 (nuO B 0 60 ((.inr (i, kn, 0) : eO))) = .inl e) ∨ (rowF B 4 rows 2 0 [] i = .inr ([nuV B 0 60 ((.inr (i, kn, 0) : eO)), nuV B 0 99 (nuO B 0 60 ((.inr (i, kn, 0) : eO)))], i + 2) ∧ nuO B 0 99 (nuO B 0 60 ((.inr (i, kn, 0) : eO))) = .inr (i + 2, kn, 0)) := by
  rcases num_step (B := B) (w := 4) (c := 0) (i := i) (kn := kn) (row := []) (rows := rows) (lo := 0) (mo := 60) (by first | rfl | decide) (by decide) (by decide) with ⟨e, e1, e2⟩ | ⟨e1, e2⟩
  · exact Or.inl ⟨e, rowF_l e1, by rw [e2]; rfl⟩
  rw [show rowF B 4 rows 2 0 [] (i) = rowF B 4 rows 1 1 [nuV B 0 60 (.inr (i, kn, 0))] (i + 1) from rowF_r e1, show nuO B 0 60 (.inr (i, kn, 0)) = .inr (i + 1, kn, 0) from e2]
  generalize nuV B 0 60 (.inr (i, kn, 0)) = v0
  rcases num_step (B := B) (w := 4) (c := 1) (i := i + 1) (kn := kn) (row := [v0]) (rows := rows) (lo := 0) (mo := 99) (by first | rfl | decide) (by decide) (by decide) with ⟨e, e1, e2⟩ | ⟨e1, e2⟩
  · exact Or.inl ⟨e, rowF_l e1, by rw [e2]⟩
  rw [show rowF B 4 rows 1 1 [v0] (i + 1) = rowF B 4 rows 0 2 [v0, nuV B 0 99 (.inr (i + 1, kn, 0))] (i + 2) from rowF_r e1, show nuO B 0 99 (.inr (i + 1, kn, 0)) = .inr (i + 2, kn, 0) from e2]
  generalize nuV B 0 99 (.inr (i + 1, kn, 0)) = v1
  exact Or.inr ⟨rfl, rfl⟩
theorem ch1 {B : eB} {rows js : List (List Int32)} {i kn : Nat} : (∃ e : Nat × Nat, (match namF B 1 rows js i with
    | .inl e => Sum.inl e
    | .inr v => rowF B 1 rows 4 1 [v] (i + 1)) = .inl e ∧ nuO B 0 3 (nuO B 0 9 (nuO B 0 99 (nuO B 0 60 (frO B rows (i, kn, 0))))) = .inl e) ∨ ((match namF B 1 rows js i with
    | .inl e => Sum.inl e
    | .inr v => rowF B 1 rows 4 1 [v] (i + 1)) = .inr ([frV B rows (i, kn, 0), nuV B 0 60 (frO B rows (i, kn, 0)), nuV B 0 99 (nuO B 0 60 (frO B rows (i, kn, 0))), nuV B 0 9 (nuO B 0 99 (nuO B 0 60 (frO B rows (i, kn, 0)))), nuV B 0 3 (nuO B 0 9 (nuO B 0 99 (nuO B 0 60 (frO B rows (i, kn, 0)))))], i + 5) ∧ nuO B 0 3 (nuO B 0 9 (nuO B 0 99 (nuO B 0 60 (frO B rows (i, kn, 0))))) = .inr (i + 5, kn, 0)) := by
  rcases nam_step (B := B) (w := 1) (i := i) (kn := kn) (rows := rows) (js := js) (by decide) with ⟨e, e1, e2⟩ | ⟨e1, e2⟩
  · exact Or.inl ⟨e, by rw [e1], by rw [e2]; rfl⟩
  rw [e1, e2]
  dsimp only
  generalize frV B rows (i, kn, 0) = v0
  rcases num_step (B := B) (w := 1) (c := 1) (i := i + 1) (kn := kn) (row := [v0]) (rows := rows) (lo := 0) (mo := 60) (by first | rfl | decide) (by decide) (by decide) with ⟨e, e1, e2⟩ | ⟨e1, e2⟩
  · exact Or.inl ⟨e, rowF_l e1, by rw [e2]; rfl⟩
  rw [show rowF B 1 rows 4 1 [v0] (i + 1) = rowF B 1 rows 3 2 [v0, nuV B 0 60 (.inr (i + 1, kn, 0))] (i + 2) from rowF_r e1, show nuO B 0 60 (.inr (i + 1, kn, 0)) = .inr (i + 2, kn, 0) from e2]
  generalize nuV B 0 60 (.inr (i + 1, kn, 0)) = v1
  rcases num_step (B := B) (w := 1) (c := 2) (i := i + 2) (kn := kn) (row := [v0, v1]) (rows := rows) (lo := 0) (mo := 99) (by first | rfl | decide) (by decide) (by decide) with ⟨e, e1, e2⟩ | ⟨e1, e2⟩
  · exact Or.inl ⟨e, rowF_l e1, by rw [e2]; rfl⟩
  rw [show rowF B 1 rows 3 2 [v0, v1] (i + 2) = rowF B 1 rows 2 3 [v0, v1, nuV B 0 99 (.inr (i + 2, kn, 0))] (i + 3) from rowF_r e1, show nuO B 0 99 (.inr (i + 2, kn, 0)) = .inr (i + 3, kn, 0) from e2]
  generalize nuV B 0 99 (.inr (i + 2, kn, 0)) = v2
  rcases num_step (B := B) (w := 1) (c := 3) (i := i + 3) (kn := kn) (row := [v0, v1, v2]) (rows := rows) (lo := 0) (mo := 9) (by first | rfl | decide) (by decide) (by decide) with ⟨e, e1, e2⟩ | ⟨e1, e2⟩
  · exact Or.inl ⟨e, rowF_l e1, by rw [e2]; rfl⟩
  rw [show rowF B 1 rows 2 3 [v0, v1, v2] (i + 3) = rowF B 1 rows 1 4 [v0, v1, v2, nuV B 0 9 (.inr (i + 3, kn, 0))] (i + 4) from rowF_r e1, show nuO B 0 9 (.inr (i + 3, kn, 0)) = .inr (i + 4, kn, 0) from e2]
  generalize nuV B 0 9 (.inr (i + 3, kn, 0)) = v3
  rcases num_step (B := B) (w := 1) (c := 4) (i := i + 4) (kn := kn) (row := [v0, v1, v2, v3]) (rows := rows) (lo := 0) (mo := 3) (by first | rfl | decide) (by decide) (by decide) with ⟨e, e1, e2⟩ | ⟨e1, e2⟩
  · exact Or.inl ⟨e, rowF_l e1, by rw [e2]⟩
  rw [show rowF B 1 rows 1 4 [v0, v1, v2, v3] (i + 4) = rowF B 1 rows 0 5 [v0, v1, v2, v3, nuV B 0 3 (.inr (i + 4, kn, 0))] (i + 5) from rowF_r e1, show nuO B 0 3 (.inr (i + 4, kn, 0)) = .inr (i + 5, kn, 0) from e2]
  generalize nuV B 0 3 (.inr (i + 4, kn, 0)) = v4
  exact Or.inr ⟨rfl, rfl⟩
theorem ch2 {B : eB} {rows js : List (List Int32)} {i kn : Nat} : (∃ e : Nat × Nat, (match namF B 2 rows js i with
    | .inl e => Sum.inl e
    | .inr v => rowF B 2 rows 2 1 [v] (i + 1)) = .inl e ∧ nuO B 0 3 (nuO B 0 99 (frO B rows (i, kn, 0))) = .inl e) ∨ ((match namF B 2 rows js i with
    | .inl e => Sum.inl e
    | .inr v => rowF B 2 rows 2 1 [v] (i + 1)) = .inr ([frV B rows (i, kn, 0), nuV B 0 99 (frO B rows (i, kn, 0)), nuV B 0 3 (nuO B 0 99 (frO B rows (i, kn, 0)))], i + 3) ∧ nuO B 0 3 (nuO B 0 99 (frO B rows (i, kn, 0))) = .inr (i + 3, kn, 0)) := by
  rcases nam_step (B := B) (w := 2) (i := i) (kn := kn) (rows := rows) (js := js) (by decide) with ⟨e, e1, e2⟩ | ⟨e1, e2⟩
  · exact Or.inl ⟨e, by rw [e1], by rw [e2]; rfl⟩
  rw [e1, e2]
  dsimp only
  generalize frV B rows (i, kn, 0) = v0
  rcases num_step (B := B) (w := 2) (c := 1) (i := i + 1) (kn := kn) (row := [v0]) (rows := rows) (lo := 0) (mo := 99) (by first | rfl | decide) (by decide) (by decide) with ⟨e, e1, e2⟩ | ⟨e1, e2⟩
  · exact Or.inl ⟨e, rowF_l e1, by rw [e2]; rfl⟩
  rw [show rowF B 2 rows 2 1 [v0] (i + 1) = rowF B 2 rows 1 2 [v0, nuV B 0 99 (.inr (i + 1, kn, 0))] (i + 2) from rowF_r e1, show nuO B 0 99 (.inr (i + 1, kn, 0)) = .inr (i + 2, kn, 0) from e2]
  generalize nuV B 0 99 (.inr (i + 1, kn, 0)) = v1
  rcases num_step (B := B) (w := 2) (c := 2) (i := i + 2) (kn := kn) (row := [v0, v1]) (rows := rows) (lo := 0) (mo := 3) (by first | rfl | decide) (by decide) (by decide) with ⟨e, e1, e2⟩ | ⟨e1, e2⟩
  · exact Or.inl ⟨e, rowF_l e1, by rw [e2]⟩
  rw [show rowF B 2 rows 1 2 [v0, v1] (i + 2) = rowF B 2 rows 0 3 [v0, v1, nuV B 0 3 (.inr (i + 2, kn, 0))] (i + 3) from rowF_r e1, show nuO B 0 3 (.inr (i + 2, kn, 0)) = .inr (i + 3, kn, 0) from e2]
  generalize nuV B 0 3 (.inr (i + 2, kn, 0)) = v2
  exact Or.inr ⟨rfl, rfl⟩
end
section
/-! The reference's lines, word by word (but tell, tunnel, law). -/
theorem ln0 {nf : Bool} {xs : List Int32} {d : Nat} {g : xL} {G : xG} {r : Option Value} {h' : zH} {N : Nat} {m : xM} {B : eB} {s : eS} (hG : GL G) (hE : EV B) (hA : AR B s m g) (hk : tK B s.2.2.2 = Int32.ofNat (32 + 0)) (hr : RR nf xs d 11 false 6 none zt169 G r h' N (27, [(1, .int 0), (0, .ref 128)], [], m, g)) : ∃ (m' : xM) (g' : xL), HS h' m' g' G ∧ PL B s m g r m' g' := by
  have hL : ∀ u : Nat, 1 ≤ u → u ≤ 5 → m 130 (9 + u) = Int32.ofNat ((fun u => (s.1 u).length) u) ∧ (fun u => (s.1 u).length) u ≤ 8 := fun u u1 u2 => ⟨hA.2.2.1 u u1 u2, by have := hA.2.1 u (by omega); have := (mN_b u).1; dsimp only; omega⟩
  replace hr := hr.go (s_aload_n t169_27 rfl)
  replace hr := hr.go (s_iload_n t169_28 rfl)
  replace hr := hr.cvI t169_29 rfl rfl (ct_isFullR (w := 0) (L := (fun u => (s.1 u).length)) hG.2.1 (by decide) hL)
  rw [show fulR (fun u => (s.1 u).length) 0 = false from decide_eq_false (by omega)] at hr
  rcases hr.zEq t169_32 with ⟨b32, hr⟩ | ⟨b32, hr⟩
  · replace hr := hr.go (s_iload_n t169_43 rfl)
    replace hr := hr.csI t169_44 rfl rfl (ct_isOnce (w := 0) (by decide))
    rw [show onR 0 = true from by decide] at hr
    rcases hr.zEq t169_47 with ⟨b47, hr⟩ | ⟨b47, hr⟩
    · exact absurd b47 (by decide)
    · replace hr := hr.go (s_aload_n t169_50 rfl)
      replace hr := hr.go (s_getf t169_51)
      replace hr := hr.go (s_iload_n t169_54 rfl)
      replace hr := hr.go (s_ishr t169_55)
      replace hr := hr.go (s_k t169_56)
      replace hr := hr.go (s_iand t169_57)
      replace hr := hr.go (s_k t169_58)
      rcases hr.bNe t169_59 with ⟨b59, hr⟩ | ⟨b59, hr⟩
      · skip
        replace hr := hr.go (s_aload_n t169_67 rfl)
        replace hr := hr.go (s_getf t169_68)
        rcases hr.zEq t169_71 with ⟨b71, hr⟩ | ⟨b71, hr⟩
        · have hT : (s.1 0).length = 0 := by
            have hb : ¬ bj (m 128 21) 0 = true := fun q => b59 ((bj_tst (k := 0) (by decide)).mpr q)
            rw [(hA.2.2.2.2.1 0 (by decide)).2] at hb
            have h9 : ¬ 1 ≤ (s.1 0).length := fun q => hb (decide_eq_true q)
            omega
          have hnf : ¬ mN 0 ≤ (s.1 0).length := by have := (mN_b 0).2; omega
          replace hr := hr.go (s_aload_n t169_75 rfl)
          replace hr := hr.go (s_dup t169_76 rfl)
          replace hr := hr.go (s_getf t169_77)
          replace hr := hr.go (s_k t169_80)
          replace hr := hr.go (s_iload_n t169_81 rfl)
          replace hr := hr.go (s_ishl t169_82)
          replace hr := hr.go (s_ior t169_83)
          replace hr := hr.go (s_putf t169_84)
          replace hr := hr.go (s_aload_n t169_87 rfl)
          obtain ⟨m2, ⟨h2, hf2⟩, hr⟩ := hr.fvN t169_88 rfl rfl (ct_tokG hG.1 hE (sX_f (k := 21) hA.1 (by decide) (by decide) (by decide)))
          replace h2 : sX B (.inr (s.2.2.2 + 1, s.2.2.1, 0)) m2 := h2
          replace hr := hr.go (s_iload_n t169_91 rfl)
          replace hr := hr.go (s_tswitch (q := 140) t169_92 (by decide) (by decide) rfl rfl)
          replace hr := hr.go (s_aload_n t169_140 rfl)
          replace hr := hr.go (s_k t169_141)
          replace hr := hr.go (s_aload_n t169_142 rfl)
          replace hr := hr.go (s_k t169_143)
          replace hr := hr.go (s_k t169_144)
          obtain ⟨m3, ⟨h3, hf3⟩, hr⟩ := hr.fvI t169_146 rfl rfl (ct_numeral (o := (.inr (s.2.2.2 + 1, s.2.2.1, 0))) (lo := 1) (mo := 60) hG.1 hE (by decide) h2)
          replace hr := hr.cvN t169_149 rfl rfl (ct_reads hG.2.1.1)
          replace hr := hr.go (s_goto t169_152)
          rcases ch0 (B := B) (rows := s.1 0) (i := s.2.2.2 + 1) (kn := s.2.2.1) with ⟨e, e1, e2⟩ | ⟨e1, e2⟩
          · rw [e2] at h3
            obtain ⟨rfl, hs⟩ := le485F rfl ((sX_row h3 (xu_row (by decide)) (xu_row (by decide)))) hr
            refine ⟨_, _, hs, PL_bad ?_ ((sX_row h3 (xu_row (by decide)) (xu_row (by decide)))) (FM.x130 (FM.er hf3.1 (fun k hk => hf3.2 k (by omega)) (FM.er hf2.1 (fun k hk => hf2.2 k (by omega)) (FM.x128 FM.rf (by decide)))) (by decide)) FG.rf⟩
            rw [lin_tab (w := 0) (by decide) hk, tab_num hnf (by decide)]
            exact congrArg (fun z => oMap _ (rendF B z)) e1
          · rw [e2] at h3
            obtain ⟨m', hs, rfl, h4, h22, hfa, hfk⟩ := le485G hG.1 hE rfl ((sX_row h3 (xu_row (by decide)) (xu_row (by decide)))) hr
            refine ⟨m', _, hs, PL_good (w := 0) (by rw [lin_tab (w := 0) (by decide) hk, tab_num hnf (by decide)]; exact congrArg (fun z => oMap _ (rendF B z)) e1) h4 (fun hq => ?_) ?_ (FM.er hfa (fun k hk => hfk k (by omega) (by omega)) (FM.x130 (FM.er hf3.1 (fun k hk => hf3.2 k (by omega)) (FM.er hf2.1 (fun k hk => hf2.2 k (by omega)) (FM.x128 FM.rf (by decide)))) (by decide))) FG.rf⟩
            · refine AR_sing (by decide) hA hT hq (fun a a1 a2 => ?_) (fun k hk2 => ?_) ?_ ?_
              · rw [hfa a a1, xu_row a2, hf3.1 a a1, hf2.1 a a1, xu_row a1]
              · rw [hfa 130 (by decide), xu_oth (k := ((9 : Int32) + 0).toNatClampNeg) (fun q => hk2 (q.2.trans (by decide))), hf3.1 130 (by decide), hf2.1 130 (by decide), xu_row (by decide)]
              · rw [hfa 130 (by decide)]; exact xu_same
              · rw [hfk 21 (by decide) (by decide), xu_row (by decide), hf3.2 21 (by decide), hf2.2 21 (by decide)]; exact xu_same
            · rw [h22, xu_row (by decide), hf3.2 22 (by decide), hf2.2 22 (by decide), xu_oth (by decide)]
        · exact absurd hA.1.1 b71
      · have hfl : mN 0 ≤ (s.1 0).length := of_decide_eq_true ((hA.2.2.2.2.1 0 (by decide)).2.symm.trans ((bj_tst (k := 0) (by decide)).mp b59))
        replace hr := hr.go (s_aload_n t169_62 rfl)
        replace hr := hr.go (s_k t169_63)
        obtain ⟨m1, ⟨h1, hf1⟩, hr⟩ := hr.fvN t169_64 rfl rfl (ct_wrongG (f := 3) hA.1 (by decide) (by decide))
        skip
        replace hr := hr.go (s_aload_n t169_67 rfl)
        replace hr := hr.go (s_getf t169_68)
        rcases hr.zEq t169_71 with ⟨b71, hr⟩ | ⟨b71, hr⟩
        · exact absurd b71 h1.2.1
        · obtain ⟨rfl, hs⟩ := hr.ret t169_74
          exact ⟨_, _, hs, PL_bad (by rw [lin_tab (w := 0) (by decide) hk, tab_full hfl]; rfl) h1 (FM.er hf1.1 (fun k hk => hf1.2 k (by omega)) FM.rf) FG.rf⟩
  · exact absurd rfl b32
theorem ln6 {nf : Bool} {xs : List Int32} {d : Nat} {g : xL} {G : xG} {r : Option Value} {h' : zH} {N : Nat} {m : xM} {B : eB} {s : eS} (hG : GL G) (hE : EV B) (hA : AR B s m g) (hk : tK B s.2.2.2 = Int32.ofNat (32 + 6)) (hr : RR nf xs d 11 false 6 none zt169 G r h' N (27, [(1, .int 6), (0, .ref 128)], [], m, g)) : ∃ (m' : xM) (g' : xL), HS h' m' g' G ∧ PL B s m g r m' g' := by
  have hL : ∀ u : Nat, 1 ≤ u → u ≤ 5 → m 130 (9 + u) = Int32.ofNat ((fun u => (s.1 u).length) u) ∧ (fun u => (s.1 u).length) u ≤ 8 := fun u u1 u2 => ⟨hA.2.2.1 u u1 u2, by have := hA.2.1 u (by omega); have := (mN_b u).1; dsimp only; omega⟩
  replace hr := hr.go (s_aload_n t169_27 rfl)
  replace hr := hr.go (s_iload_n t169_28 rfl)
  replace hr := hr.cvI t169_29 rfl rfl (ct_isFullR (w := 6) (L := (fun u => (s.1 u).length)) hG.2.1 (by decide) hL)
  rw [show fulR (fun u => (s.1 u).length) 6 = false from decide_eq_false (by omega)] at hr
  rcases hr.zEq t169_32 with ⟨b32, hr⟩ | ⟨b32, hr⟩
  · replace hr := hr.go (s_iload_n t169_43 rfl)
    replace hr := hr.csI t169_44 rfl rfl (ct_isOnce (w := 6) (by decide))
    rw [show onR 6 = true from by decide] at hr
    rcases hr.zEq t169_47 with ⟨b47, hr⟩ | ⟨b47, hr⟩
    · exact absurd b47 (by decide)
    · replace hr := hr.go (s_aload_n t169_50 rfl)
      replace hr := hr.go (s_getf t169_51)
      replace hr := hr.go (s_iload_n t169_54 rfl)
      replace hr := hr.go (s_ishr t169_55)
      replace hr := hr.go (s_k t169_56)
      replace hr := hr.go (s_iand t169_57)
      replace hr := hr.go (s_k t169_58)
      rcases hr.bNe t169_59 with ⟨b59, hr⟩ | ⟨b59, hr⟩
      · skip
        replace hr := hr.go (s_aload_n t169_67 rfl)
        replace hr := hr.go (s_getf t169_68)
        rcases hr.zEq t169_71 with ⟨b71, hr⟩ | ⟨b71, hr⟩
        · have hT : (s.1 6).length = 0 := by
            have hb : ¬ bj (m 128 21) 6 = true := fun q => b59 ((bj_tst (k := 6) (by decide)).mpr q)
            rw [(hA.2.2.2.2.1 6 (by decide)).2] at hb
            have h9 : ¬ 1 ≤ (s.1 6).length := fun q => hb (decide_eq_true q)
            omega
          have hnf : ¬ mN 6 ≤ (s.1 6).length := by have := (mN_b 6).2; omega
          replace hr := hr.go (s_aload_n t169_75 rfl)
          replace hr := hr.go (s_dup t169_76 rfl)
          replace hr := hr.go (s_getf t169_77)
          replace hr := hr.go (s_k t169_80)
          replace hr := hr.go (s_iload_n t169_81 rfl)
          replace hr := hr.go (s_ishl t169_82)
          replace hr := hr.go (s_ior t169_83)
          replace hr := hr.go (s_putf t169_84)
          replace hr := hr.go (s_aload_n t169_87 rfl)
          obtain ⟨m2, ⟨h2, hf2⟩, hr⟩ := hr.fvN t169_88 rfl rfl (ct_tokG hG.1 hE (sX_f (k := 21) hA.1 (by decide) (by decide) (by decide)))
          replace h2 : sX B (.inr (s.2.2.2 + 1, s.2.2.1, 0)) m2 := h2
          replace hr := hr.go (s_iload_n t169_91 rfl)
          replace hr := hr.go (s_tswitch (q := 449) t169_92 (by decide) (by decide) rfl rfl)
          replace hr := hr.go (s_aload_n t169_449 rfl)
          replace hr := hr.go (s_k t169_450)
          replace hr := hr.go (s_aload_n t169_452 rfl)
          replace hr := hr.go (s_k t169_453)
          replace hr := hr.go (s_k t169_454)
          obtain ⟨m3, ⟨h3, hf3⟩, hr⟩ := hr.fvI t169_456 rfl rfl (ct_numeral (o := (.inr (s.2.2.2 + 1, s.2.2.1, 0))) (lo := 0) (mo := 9) hG.1 hE (by decide) h2)
          replace hr := hr.cvN t169_459 rfl rfl (ct_reads hG.2.1.1)
          replace hr := hr.go (s_goto t169_462)
          rcases ch6 (B := B) (rows := s.1 6) (i := s.2.2.2 + 1) (kn := s.2.2.1) with ⟨e, e1, e2⟩ | ⟨e1, e2⟩
          · rw [e2] at h3
            obtain ⟨rfl, hs⟩ := le485F rfl ((sX_row h3 (xu_row (by decide)) (xu_row (by decide)))) hr
            refine ⟨_, _, hs, PL_bad ?_ ((sX_row h3 (xu_row (by decide)) (xu_row (by decide)))) (FM.x130 (FM.er hf3.1 (fun k hk => hf3.2 k (by omega)) (FM.er hf2.1 (fun k hk => hf2.2 k (by omega)) (FM.x128 FM.rf (by decide)))) (by decide)) FG.rf⟩
            rw [lin_tab (w := 6) (by decide) hk, tab_num hnf (by decide)]
            exact congrArg (fun z => oMap _ (rendF B z)) e1
          · rw [e2] at h3
            obtain ⟨m', hs, rfl, h4, h22, hfa, hfk⟩ := le485G hG.1 hE rfl ((sX_row h3 (xu_row (by decide)) (xu_row (by decide)))) hr
            refine ⟨m', _, hs, PL_good (w := 6) (by rw [lin_tab (w := 6) (by decide) hk, tab_num hnf (by decide)]; exact congrArg (fun z => oMap _ (rendF B z)) e1) h4 (fun hq => ?_) ?_ (FM.er hfa (fun k hk => hfk k (by omega) (by omega)) (FM.x130 (FM.er hf3.1 (fun k hk => hf3.2 k (by omega)) (FM.er hf2.1 (fun k hk => hf2.2 k (by omega)) (FM.x128 FM.rf (by decide)))) (by decide))) FG.rf⟩
            · refine AR_sing (by decide) hA hT hq (fun a a1 a2 => ?_) (fun k hk2 => ?_) ?_ ?_
              · rw [hfa a a1, xu_row a2, hf3.1 a a1, hf2.1 a a1, xu_row a1]
              · rw [hfa 130 (by decide), xu_oth (k := ((9 : Int32) + 6).toNatClampNeg) (fun q => hk2 (q.2.trans (by decide))), hf3.1 130 (by decide), hf2.1 130 (by decide), xu_row (by decide)]
              · rw [hfa 130 (by decide)]; exact xu_same
              · rw [hfk 21 (by decide) (by decide), xu_row (by decide), hf3.2 21 (by decide), hf2.2 21 (by decide)]; exact xu_same
            · rw [h22, xu_row (by decide), hf3.2 22 (by decide), hf2.2 22 (by decide), xu_oth (by decide)]
        · exact absurd hA.1.1 b71
      · have hfl : mN 6 ≤ (s.1 6).length := of_decide_eq_true ((hA.2.2.2.2.1 6 (by decide)).2.symm.trans ((bj_tst (k := 6) (by decide)).mp b59))
        replace hr := hr.go (s_aload_n t169_62 rfl)
        replace hr := hr.go (s_k t169_63)
        obtain ⟨m1, ⟨h1, hf1⟩, hr⟩ := hr.fvN t169_64 rfl rfl (ct_wrongG (f := 3) hA.1 (by decide) (by decide))
        skip
        replace hr := hr.go (s_aload_n t169_67 rfl)
        replace hr := hr.go (s_getf t169_68)
        rcases hr.zEq t169_71 with ⟨b71, hr⟩ | ⟨b71, hr⟩
        · exact absurd b71 h1.2.1
        · obtain ⟨rfl, hs⟩ := hr.ret t169_74
          exact ⟨_, _, hs, PL_bad (by rw [lin_tab (w := 6) (by decide) hk, tab_full hfl]; rfl) h1 (FM.er hf1.1 (fun k hk => hf1.2 k (by omega)) FM.rf) FG.rf⟩
  · exact absurd rfl b32
theorem ln7 {nf : Bool} {xs : List Int32} {d : Nat} {g : xL} {G : xG} {r : Option Value} {h' : zH} {N : Nat} {m : xM} {B : eB} {s : eS} (hG : GL G) (hE : EV B) (hA : AR B s m g) (hk : tK B s.2.2.2 = Int32.ofNat (32 + 7)) (hr : RR nf xs d 11 false 6 none zt169 G r h' N (27, [(1, .int 7), (0, .ref 128)], [], m, g)) : ∃ (m' : xM) (g' : xL), HS h' m' g' G ∧ PL B s m g r m' g' := by
  have hL : ∀ u : Nat, 1 ≤ u → u ≤ 5 → m 130 (9 + u) = Int32.ofNat ((fun u => (s.1 u).length) u) ∧ (fun u => (s.1 u).length) u ≤ 8 := fun u u1 u2 => ⟨hA.2.2.1 u u1 u2, by have := hA.2.1 u (by omega); have := (mN_b u).1; dsimp only; omega⟩
  replace hr := hr.go (s_aload_n t169_27 rfl)
  replace hr := hr.go (s_iload_n t169_28 rfl)
  replace hr := hr.cvI t169_29 rfl rfl (ct_isFullR (w := 7) (L := (fun u => (s.1 u).length)) hG.2.1 (by decide) hL)
  rw [show fulR (fun u => (s.1 u).length) 7 = false from decide_eq_false (by omega)] at hr
  rcases hr.zEq t169_32 with ⟨b32, hr⟩ | ⟨b32, hr⟩
  · replace hr := hr.go (s_iload_n t169_43 rfl)
    replace hr := hr.csI t169_44 rfl rfl (ct_isOnce (w := 7) (by decide))
    rw [show onR 7 = true from by decide] at hr
    rcases hr.zEq t169_47 with ⟨b47, hr⟩ | ⟨b47, hr⟩
    · exact absurd b47 (by decide)
    · replace hr := hr.go (s_aload_n t169_50 rfl)
      replace hr := hr.go (s_getf t169_51)
      replace hr := hr.go (s_iload_n t169_54 rfl)
      replace hr := hr.go (s_ishr t169_55)
      replace hr := hr.go (s_k t169_56)
      replace hr := hr.go (s_iand t169_57)
      replace hr := hr.go (s_k t169_58)
      rcases hr.bNe t169_59 with ⟨b59, hr⟩ | ⟨b59, hr⟩
      · skip
        replace hr := hr.go (s_aload_n t169_67 rfl)
        replace hr := hr.go (s_getf t169_68)
        rcases hr.zEq t169_71 with ⟨b71, hr⟩ | ⟨b71, hr⟩
        · have hT : (s.1 7).length = 0 := by
            have hb : ¬ bj (m 128 21) 7 = true := fun q => b59 ((bj_tst (k := 7) (by decide)).mpr q)
            rw [(hA.2.2.2.2.1 7 (by decide)).2] at hb
            have h9 : ¬ 1 ≤ (s.1 7).length := fun q => hb (decide_eq_true q)
            omega
          have hnf : ¬ mN 7 ≤ (s.1 7).length := by have := (mN_b 7).2; omega
          replace hr := hr.go (s_aload_n t169_75 rfl)
          replace hr := hr.go (s_dup t169_76 rfl)
          replace hr := hr.go (s_getf t169_77)
          replace hr := hr.go (s_k t169_80)
          replace hr := hr.go (s_iload_n t169_81 rfl)
          replace hr := hr.go (s_ishl t169_82)
          replace hr := hr.go (s_ior t169_83)
          replace hr := hr.go (s_putf t169_84)
          replace hr := hr.go (s_aload_n t169_87 rfl)
          obtain ⟨m2, ⟨h2, hf2⟩, hr⟩ := hr.fvN t169_88 rfl rfl (ct_tokG hG.1 hE (sX_f (k := 21) hA.1 (by decide) (by decide) (by decide)))
          replace h2 : sX B (.inr (s.2.2.2 + 1, s.2.2.1, 0)) m2 := h2
          replace hr := hr.go (s_iload_n t169_91 rfl)
          replace hr := hr.go (s_tswitch (q := 465) t169_92 (by decide) (by decide) rfl rfl)
          replace hr := hr.go (s_aload_n t169_465 rfl)
          replace hr := hr.go (s_k t169_466)
          replace hr := hr.go (s_aload_n t169_468 rfl)
          replace hr := hr.go (s_k t169_469)
          replace hr := hr.go (s_ldc t169_470 rfl)
          obtain ⟨m3, ⟨h3, hf3⟩, hr⟩ := hr.fvI t169_472 rfl rfl (ct_numeral (o := (.inr (s.2.2.2 + 1, s.2.2.1, 0))) (lo := 0) (mo := 99999) hG.1 hE (by decide) h2)
          replace hr := hr.cvN t169_475 rfl rfl (ct_reads hG.2.1.1)
          replace hr := hr.go (s_goto t169_478)
          rcases ch7 (B := B) (rows := s.1 7) (i := s.2.2.2 + 1) (kn := s.2.2.1) with ⟨e, e1, e2⟩ | ⟨e1, e2⟩
          · rw [e2] at h3
            obtain ⟨rfl, hs⟩ := le485F rfl ((sX_row h3 (xu_row (by decide)) (xu_row (by decide)))) hr
            refine ⟨_, _, hs, PL_bad ?_ ((sX_row h3 (xu_row (by decide)) (xu_row (by decide)))) (FM.x130 (FM.er hf3.1 (fun k hk => hf3.2 k (by omega)) (FM.er hf2.1 (fun k hk => hf2.2 k (by omega)) (FM.x128 FM.rf (by decide)))) (by decide)) FG.rf⟩
            rw [lin_tab (w := 7) (by decide) hk, tab_num hnf (by decide)]
            exact congrArg (fun z => oMap _ (rendF B z)) e1
          · rw [e2] at h3
            obtain ⟨m', hs, rfl, h4, h22, hfa, hfk⟩ := le485G hG.1 hE rfl ((sX_row h3 (xu_row (by decide)) (xu_row (by decide)))) hr
            refine ⟨m', _, hs, PL_good (w := 7) (by rw [lin_tab (w := 7) (by decide) hk, tab_num hnf (by decide)]; exact congrArg (fun z => oMap _ (rendF B z)) e1) h4 (fun hq => ?_) ?_ (FM.er hfa (fun k hk => hfk k (by omega) (by omega)) (FM.x130 (FM.er hf3.1 (fun k hk => hf3.2 k (by omega)) (FM.er hf2.1 (fun k hk => hf2.2 k (by omega)) (FM.x128 FM.rf (by decide)))) (by decide))) FG.rf⟩
            · refine AR_sing (by decide) hA hT hq (fun a a1 a2 => ?_) (fun k hk2 => ?_) ?_ ?_
              · rw [hfa a a1, xu_row a2, hf3.1 a a1, hf2.1 a a1, xu_row a1]
              · rw [hfa 130 (by decide), xu_oth (k := ((9 : Int32) + 7).toNatClampNeg) (fun q => hk2 (q.2.trans (by decide))), hf3.1 130 (by decide), hf2.1 130 (by decide), xu_row (by decide)]
              · rw [hfa 130 (by decide)]; exact xu_same
              · rw [hfk 21 (by decide) (by decide), xu_row (by decide), hf3.2 21 (by decide), hf2.2 21 (by decide)]; exact xu_same
            · rw [h22, xu_row (by decide), hf3.2 22 (by decide), hf2.2 22 (by decide), xu_oth (by decide)]
        · exact absurd hA.1.1 b71
      · have hfl : mN 7 ≤ (s.1 7).length := of_decide_eq_true ((hA.2.2.2.2.1 7 (by decide)).2.symm.trans ((bj_tst (k := 7) (by decide)).mp b59))
        replace hr := hr.go (s_aload_n t169_62 rfl)
        replace hr := hr.go (s_k t169_63)
        obtain ⟨m1, ⟨h1, hf1⟩, hr⟩ := hr.fvN t169_64 rfl rfl (ct_wrongG (f := 3) hA.1 (by decide) (by decide))
        skip
        replace hr := hr.go (s_aload_n t169_67 rfl)
        replace hr := hr.go (s_getf t169_68)
        rcases hr.zEq t169_71 with ⟨b71, hr⟩ | ⟨b71, hr⟩
        · exact absurd b71 h1.2.1
        · obtain ⟨rfl, hs⟩ := hr.ret t169_74
          exact ⟨_, _, hs, PL_bad (by rw [lin_tab (w := 7) (by decide) hk, tab_full hfl]; rfl) h1 (FM.er hf1.1 (fun k hk => hf1.2 k (by omega)) FM.rf) FG.rf⟩
  · exact absurd rfl b32
end
section
/-! The reference's lines: riders, jokes, sights. -/
theorem xu_er {α : Type} {m m1 : Nat → Nat → α} {a k : Nat} {x : α} (h : ∀ b : Nat, ¬ b = 128 → m1 b = m b) : ∀ b : Nat, ¬ b = 128 → xu m1 a k x b = xu m a k x b := fun b hb => funext fun j => by unfold xu; rw [h b hb]
theorem xu_at {α : Type} {m : Nat → Nat → α} {a k j : Nat} {x : α} : xu m a k x a j = if j = k then x else m a j := by
  unfold xu
  by_cases h : j = k
  · rw [if_pos ⟨rfl, h⟩, if_pos h]
  · rw [if_neg (fun q => h q.2), if_neg h]
theorem ln4 {nf : Bool} {xs : List Int32} {d : Nat} {g : xL} {G : xG} {r : Option Value} {h' : zH} {N : Nat} {m : xM} {B : eB} {s : eS} (hG : GL G) (hE : EV B) (hA : AR B s m g) (hk : tK B s.2.2.2 = Int32.ofNat (32 + 4)) (hr : RR nf xs d 11 false 6 none zt169 G r h' N (27, [(1, .int 4), (0, .ref 128)], [], m, g)) : ∃ (m' : xM) (g' : xL), HS h' m' g' G ∧ PL B s m g r m' g' := by
  have hL : ∀ u : Nat, 1 ≤ u → u ≤ 5 → m 130 (9 + u) = Int32.ofNat ((fun u => (s.1 u).length) u) ∧ (fun u => (s.1 u).length) u ≤ 8 := fun u u1 u2 => ⟨hA.2.2.1 u u1 u2, by have := hA.2.1 u (by omega); have := (mN_b u).1; dsimp only; omega⟩
  have hLw : m 130 (9 + (4 : Int32)).toNatClampNeg = Int32.ofNat (s.1 4).length := hA.2.2.1 4 (by decide) (by decide)
  have hle : (s.1 4).length ≤ 5 := hA.2.1 4 (by decide)
  replace hr := hr.go (s_aload_n t169_27 rfl)
  replace hr := hr.go (s_iload_n t169_28 rfl)
  replace hr := hr.cvI t169_29 rfl rfl (ct_isFullR (w := 4) (L := (fun u => (s.1 u).length)) hG.2.1 (by decide) hL)
  rw [show fulR (fun u => (s.1 u).length) 4 = decide (1 ≤ 4 ∧ 4 ≤ 5 ∧ (s.1 4).length = mN 4) from rfl] at hr
  rcases hr.zEq t169_32 with ⟨b32, hr⟩ | ⟨b32, hr⟩
  · skip
    replace hr := hr.go (s_iload_n t169_43 rfl)
    replace hr := hr.csI t169_44 rfl rfl (ct_isOnce (w := 4) (by decide))
    rw [show onR 4 = false from by decide] at hr
    rcases hr.zEq t169_47 with ⟨b47, hr⟩ | ⟨b47, hr⟩
    · replace hr := hr.go (s_aload_n t169_67 rfl)
      replace hr := hr.go (s_getf t169_68)
      rcases hr.zEq t169_71 with ⟨b71, hr⟩ | ⟨b71, hr⟩
      · have hnf : ¬ mN 4 ≤ (s.1 4).length := fun q => (of_decide_eq_false (bI_0 b32)) ⟨by decide, by decide, Nat.le_antisymm (hA.2.1 4 (by decide)) q⟩
        replace hr := hr.go (s_aload_n t169_75 rfl)
        replace hr := hr.go (s_dup t169_76 rfl)
        replace hr := hr.go (s_getf t169_77)
        replace hr := hr.go (s_k t169_80)
        replace hr := hr.go (s_iload_n t169_81 rfl)
        replace hr := hr.go (s_ishl t169_82)
        replace hr := hr.go (s_ior t169_83)
        replace hr := hr.go (s_putf t169_84)
        replace hr := hr.go (s_aload_n t169_87 rfl)
        obtain ⟨m2, ⟨h2, hf2⟩, hr⟩ := hr.fvN t169_88 rfl rfl (ct_tokG hG.1 hE (sX_f (k := 21) hA.1 (by decide) (by decide) (by decide)))
        replace h2 : sX B (.inr (s.2.2.2 + 1, s.2.2.1, 0)) m2 := h2
        have hY2 : ∀ a : Nat, ¬ a = 128 → m2 a = m a := fun a ha => (hf2.1 a ha).trans (xu_row ha)
        have hK2 : ∀ k : Nat, ¬ (24 ≤ k ∧ k ≤ 29) → m2 128 k = xu m 128 21 (m 128 21 ||| (1 : Int32) <<< (4 &&& 31)) 128 k := hf2.2
        have hM2 : ∀ a : Nat, ¬ a = 128 → m2 a = m a := hY2
        have hX2 := h2
        replace hr := hr.go (s_iload_n t169_91 rfl)
        replace hr := hr.go (s_tswitch (q := 328) t169_92 (by decide) (by decide) rfl rfl)
        replace hr := hr.go (s_k t169_328)
        replace hr := hr.go (s_aload_n t169_329 rfl)
        replace hr := hr.go (s_k t169_330)
        replace hr := hr.cvI t169_331 rfl rfl (ct_fresher hG.2.1.1 hG.2.1.2.1)
        rw [show (m2) 130 (9 + (4 : Int32)).toNatClampNeg = Int32.ofNat (s.1 4).length from (congrFun (hY2 130 (by decide)) _).trans (hLw)] at hr
        replace hr := hr.go (s_iadd t169_334)
        rw [show (5 : Int32) + Int32.ofNat (s.1 4).length = Int32.ofNat (5 + (s.1 4).length) from xn_add (p := 5)] at hr
        replace hr := hr.go (s_istore (ls' := [(4, _), (1, _), (0, _)]) t169_335 rfl)
        replace hr := hr.go (s_aload_n t169_337 rfl)
        replace hr := hr.go (s_getr t169_338 (hG.2.2.1 13 (by decide) (by decide)))
        replace hr := hr.go (s_iload t169_341 rfl)
        replace hr := hr.go (s_aload_n t169_343 rfl)
        replace hr := hr.go (s_k t169_344)
        replace hr := hr.go (s_k t169_345)
        obtain ⟨m3, ⟨h3, hf3⟩, hr⟩ := hr.fvI t169_347 rfl rfl (ct_numeral (o := (.inr ((s.2.2.2 + 1), s.2.2.1, 0))) (lo := 0) (mo := 60) hG.1 hE (by decide) hX2)
        have hW3 : ∀ a : Nat, ¬ a = 128 → m3 a = m a := fun a ha => (hf3.1 a ha).trans (hY2 a ha)
        have hJ3 : ∀ k : Nat, ¬ (24 ≤ k ∧ k ≤ 29) → m3 128 k = xu m 128 21 (m 128 21 ||| (1 : Int32) <<< (4 &&& 31)) 128 k := fun k hk => (hf3.2 k hk).trans (hK2 k hk)
        replace hr := hr.go (s_iastore t169_350)
        rw [xn_nat (show 5 + (s.1 4).length < 2147483648 by omega)] at hr
        have hY3 : ∀ a : Nat, ¬ a = 128 → xu m3 140 (5 + (s.1 4).length) (nuV B 0 60 (.inr ((s.2.2.2 + 1), s.2.2.1, 0))) a = (xu m 140 (5 + (s.1 4).length) (nuV B 0 60 (.inr ((s.2.2.2 + 1), s.2.2.1, 0)))) a := xu_er hW3
        have hK3 : ∀ k : Nat, ¬ (24 ≤ k ∧ k ≤ 29) → xu m3 140 (5 + (s.1 4).length) (nuV B 0 60 (.inr ((s.2.2.2 + 1), s.2.2.1, 0))) 128 k = xu m 128 21 (m 128 21 ||| (1 : Int32) <<< (4 &&& 31)) 128 k := fun k hk => (congrFun (xu_row (by decide)) k).trans (hJ3 k hk)
        have hX3 := sX_row h3 (show xu m3 140 (5 + (s.1 4).length) (nuV B 0 60 (.inr ((s.2.2.2 + 1), s.2.2.1, 0))) 128 = m3 128 from xu_row (by decide)) (show xu m3 140 (5 + (s.1 4).length) (nuV B 0 60 (.inr ((s.2.2.2 + 1), s.2.2.1, 0))) 129 = m3 129 from xu_row (by decide))
        replace hr := hr.go (s_aload_n t169_351 rfl)
        replace hr := hr.go (s_getr t169_352 (hG.2.2.1 14 (by decide) (by decide)))
        replace hr := hr.go (s_iload t169_355 rfl)
        replace hr := hr.go (s_aload_n t169_357 rfl)
        replace hr := hr.go (s_k t169_358)
        replace hr := hr.go (s_k t169_359)
        obtain ⟨m4, ⟨h4, hf4⟩, hr⟩ := hr.fvI t169_361 rfl rfl (ct_numeral (o := (nuO B 0 60 (.inr ((s.2.2.2 + 1), s.2.2.1, 0)))) (lo := 0) (mo := 99) hG.1 hE (by decide) hX3)
        have hW4 : ∀ a : Nat, ¬ a = 128 → m4 a = (xu m 140 (5 + (s.1 4).length) (nuV B 0 60 (.inr ((s.2.2.2 + 1), s.2.2.1, 0)))) a := fun a ha => (hf4.1 a ha).trans (hY3 a ha)
        have hJ4 : ∀ k : Nat, ¬ (24 ≤ k ∧ k ≤ 29) → m4 128 k = xu m 128 21 (m 128 21 ||| (1 : Int32) <<< (4 &&& 31)) 128 k := fun k hk => (hf4.2 k hk).trans (hK3 k hk)
        replace hr := hr.go (s_iastore t169_364)
        rw [xn_nat (show 5 + (s.1 4).length < 2147483648 by omega)] at hr
        have hY4 : ∀ a : Nat, ¬ a = 128 → xu m4 141 (5 + (s.1 4).length) (nuV B 0 99 (nuO B 0 60 (.inr ((s.2.2.2 + 1), s.2.2.1, 0)))) a = (xu (xu m 140 (5 + (s.1 4).length) (nuV B 0 60 (.inr ((s.2.2.2 + 1), s.2.2.1, 0)))) 141 (5 + (s.1 4).length) (nuV B 0 99 (nuO B 0 60 (.inr ((s.2.2.2 + 1), s.2.2.1, 0))))) a := xu_er hW4
        have hK4 : ∀ k : Nat, ¬ (24 ≤ k ∧ k ≤ 29) → xu m4 141 (5 + (s.1 4).length) (nuV B 0 99 (nuO B 0 60 (.inr ((s.2.2.2 + 1), s.2.2.1, 0)))) 128 k = xu m 128 21 (m 128 21 ||| (1 : Int32) <<< (4 &&& 31)) 128 k := fun k hk => (congrFun (xu_row (by decide)) k).trans (hJ4 k hk)
        have hX4 := sX_row h4 (show xu m4 141 (5 + (s.1 4).length) (nuV B 0 99 (nuO B 0 60 (.inr ((s.2.2.2 + 1), s.2.2.1, 0)))) 128 = m4 128 from xu_row (by decide)) (show xu m4 141 (5 + (s.1 4).length) (nuV B 0 99 (nuO B 0 60 (.inr ((s.2.2.2 + 1), s.2.2.1, 0)))) 129 = m4 129 from xu_row (by decide))
        replace hr := hr.go (s_aload_n t169_365 rfl)
        replace hr := hr.go (s_k t169_366)
        replace hr := hr.go (s_aload_n t169_367 rfl)
        replace hr := hr.go (s_k t169_368)
        replace hr := hr.cvI t169_369 rfl rfl (ct_fresher hG.2.1.1 hG.2.1.2.1)
        rw [show ((xu m4 141 (5 + (s.1 4).length) (nuV B 0 99 (nuO B 0 60 (.inr ((s.2.2.2 + 1), s.2.2.1, 0)))))) 130 (9 + (4 : Int32)).toNatClampNeg = Int32.ofNat (s.1 4).length from (congrFun (hY4 130 (by decide)) _).trans ((congrFun (xu_row (by decide)) _).trans ((congrFun (xu_row (by decide)) _).trans (hLw)))] at hr
        replace hr := hr.go (s_k t169_372)
        replace hr := hr.go (s_iadd t169_373)
        rw [xn_1] at hr
        replace hr := hr.cvN t169_374 rfl rfl (ct_reads hG.2.1.1)
        replace hr := hr.go (s_goto t169_377)
        rcases ch4 (B := B) (rows := s.1 4) (i := s.2.2.2 + 1) (kn := s.2.2.1) with ⟨e, e1, e2⟩ | ⟨e1, e2⟩
        · rw [e2] at hX4
          obtain ⟨rfl, hs⟩ := le485F rfl ((sX_row hX4 (xu_row (by decide)) (xu_row (by decide)))) hr
          refine ⟨_, _, hs, PL_bad ?_ ((sX_row hX4 (xu_row (by decide)) (xu_row (by decide)))) (FM.x130 (FM.er hY4 (fun k hk => (hK4 k (by omega)).trans ((xu_oth (by omega)).trans (by repeat rw [xu_row (by decide)]))) (FM.xr (FM.xr FM.rf (by unfold fhq fhp; omega)) (by unfold fhq fhp; omega))) (by decide)) FG.rf⟩
          rw [lin_tab (w := 4) (by decide) hk, tab_num hnf (by decide)]
          exact congrArg (fun z => oMap _ (rendF B z)) e1
        · rw [e2] at hX4
          obtain ⟨m', hs, rfl, h4, h22, hfa, hfk⟩ := le485G hG.1 hE rfl ((sX_row hX4 (xu_row (by decide)) (xu_row (by decide)))) hr
          have hZ : ∀ a : Nat, ¬ a = 128 → m' a = xu (xu (xu m 140 (5 + (s.1 4).length) (nuV B 0 60 (.inr ((s.2.2.2 + 1), s.2.2.1, 0)))) 141 (5 + (s.1 4).length) (nuV B 0 99 (nuO B 0 60 (.inr ((s.2.2.2 + 1), s.2.2.1, 0))))) 130 ((9 : Int32) + 4).toNatClampNeg (Int32.ofNat ((s.1 4).length + 1)) a := fun a ha => (hfa a ha).trans (xu_er hY4 a ha)
          refine ⟨m', _, hs, PL_good (w := 4) (by rw [lin_tab (w := 4) (by decide) hk, tab_num hnf (by decide)]; exact congrArg (fun z => oMap _ (rendF B z)) e1) h4 (fun hq => ?_) ?_ (FM.er hZ (fun k hk => (hfk k (by omega) (by omega)).trans ((congrFun (xu_row (by decide)) k).trans ((hK4 k (by omega)).trans ((xu_oth (by omega)).trans (by repeat rw [xu_row (by decide)]))))) (FM.x130 (FM.xr (FM.xr FM.rf (by unfold fhq fhp; omega)) (by unfold fhq fhp; omega)) (by decide))) FG.rf⟩
          · refine AR_arr (by decide) hA (by omega) hq (fun a a1 a2 a3 => ?_) (fun c hc k => ?_) (fun k hk2 => ?_) ?_ ?_
            · rw [hZ a a1, xu_row a2, xu_row (show ¬ a = 141 from a3 1 (by decide)), xu_row (show ¬ a = 140 from a3 0 (by decide))]
            · have hc : c < 2 := hc
              rcases c with _ | _ | c
              · show m' 140 k = if k = 5 + (s.1 4).length then _ else m 140 k
                rw [congrFun (hZ 140 (by decide)) k, xu_row (a := 130) (by decide), xu_row (a := 141) (by decide), xu_at]
                rfl
              · show m' 141 k = if k = 5 + (s.1 4).length then _ else m 141 k
                rw [congrFun (hZ 141 (by decide)) k, xu_row (a := 130) (by decide), xu_at, xu_row (a := 140) (by decide)]
                rfl
              · omega
            · rw [congrFun (hZ 130 (by decide)) k, xu_oth (k := ((9 : Int32) + 4).toNatClampNeg) (fun q => hk2 (q.2.trans (by decide))), xu_row (a := 141) (by decide), xu_row (a := 140) (by decide)]
            · rw [hZ 130 (by decide)]; exact xu_same
            · rw [hfk 21 (by decide) (by decide), xu_row (by decide), hK4 21 (by decide)]; exact xu_same
          · rw [h22, xu_row (by decide), hK4 22 (by decide), xu_oth (by decide)]
      · exact absurd hA.1.1 b71
    · exact absurd rfl b47
  · replace hr := hr.go (s_aload_n t169_35 rfl)
    replace hr := hr.go (s_k t169_36)
    obtain ⟨m1, ⟨h1, hf1⟩, hr⟩ := hr.fvN t169_37 rfl rfl (ct_wrongG (f := 2) hA.1 (by decide) (by decide))
    skip
    replace hr := hr.go (s_goto t169_40)
    replace hr := hr.go (s_aload_n t169_67 rfl)
    replace hr := hr.go (s_getf t169_68)
    rcases hr.zEq t169_71 with ⟨b71, hr⟩ | ⟨b71, hr⟩
    · exact absurd b71 h1.2.1
    · obtain ⟨rfl, hs⟩ := hr.ret t169_74
      exact ⟨_, _, hs, PL_bad (by rw [lin_tab (w := 4) (by decide) hk, tab_full (Nat.le_of_eq (of_decide_eq_true (bI_1 b32)).2.2.symm)]; rfl) h1 (FM.er hf1.1 (fun k hk => hf1.2 k (by omega)) FM.rf) FG.rf⟩
theorem ln2 {nf : Bool} {xs : List Int32} {d : Nat} {g : xL} {G : xG} {r : Option Value} {h' : zH} {N : Nat} {m : xM} {B : eB} {s : eS} (hG : GL G) (hE : EV B) (hA : AR B s m g) (hk : tK B s.2.2.2 = Int32.ofNat (32 + 2)) (hr : RR nf xs d 11 false 6 none zt169 G r h' N (27, [(1, .int 2), (0, .ref 128)], [], m, g)) : ∃ (m' : xM) (g' : xL), HS h' m' g' G ∧ PL B s m g r m' g' := by
  have hL : ∀ u : Nat, 1 ≤ u → u ≤ 5 → m 130 (9 + u) = Int32.ofNat ((fun u => (s.1 u).length) u) ∧ (fun u => (s.1 u).length) u ≤ 8 := fun u u1 u2 => ⟨hA.2.2.1 u u1 u2, by have := hA.2.1 u (by omega); have := (mN_b u).1; dsimp only; omega⟩
  have hLw : m 130 (9 + (2 : Int32)).toNatClampNeg = Int32.ofNat (s.1 2).length := hA.2.2.1 2 (by decide) (by decide)
  have hle : (s.1 2).length ≤ 6 := hA.2.1 2 (by decide)
  replace hr := hr.go (s_aload_n t169_27 rfl)
  replace hr := hr.go (s_iload_n t169_28 rfl)
  replace hr := hr.cvI t169_29 rfl rfl (ct_isFullR (w := 2) (L := (fun u => (s.1 u).length)) hG.2.1 (by decide) hL)
  rw [show fulR (fun u => (s.1 u).length) 2 = decide (1 ≤ 2 ∧ 2 ≤ 5 ∧ (s.1 2).length = mN 2) from rfl] at hr
  rcases hr.zEq t169_32 with ⟨b32, hr⟩ | ⟨b32, hr⟩
  · skip
    replace hr := hr.go (s_iload_n t169_43 rfl)
    replace hr := hr.csI t169_44 rfl rfl (ct_isOnce (w := 2) (by decide))
    rw [show onR 2 = false from by decide] at hr
    rcases hr.zEq t169_47 with ⟨b47, hr⟩ | ⟨b47, hr⟩
    · replace hr := hr.go (s_aload_n t169_67 rfl)
      replace hr := hr.go (s_getf t169_68)
      rcases hr.zEq t169_71 with ⟨b71, hr⟩ | ⟨b71, hr⟩
      · have hnf : ¬ mN 2 ≤ (s.1 2).length := fun q => (of_decide_eq_false (bI_0 b32)) ⟨by decide, by decide, Nat.le_antisymm (hA.2.1 2 (by decide)) q⟩
        replace hr := hr.go (s_aload_n t169_75 rfl)
        replace hr := hr.go (s_dup t169_76 rfl)
        replace hr := hr.go (s_getf t169_77)
        replace hr := hr.go (s_k t169_80)
        replace hr := hr.go (s_iload_n t169_81 rfl)
        replace hr := hr.go (s_ishl t169_82)
        replace hr := hr.go (s_ior t169_83)
        replace hr := hr.go (s_putf t169_84)
        replace hr := hr.go (s_aload_n t169_87 rfl)
        obtain ⟨m2, ⟨h2, hf2⟩, hr⟩ := hr.fvN t169_88 rfl rfl (ct_tokG hG.1 hE (sX_f (k := 21) hA.1 (by decide) (by decide) (by decide)))
        replace h2 : sX B (.inr (s.2.2.2 + 1, s.2.2.1, 0)) m2 := h2
        have hY2 : ∀ a : Nat, ¬ a = 128 → m2 a = m a := fun a ha => (hf2.1 a ha).trans (xu_row ha)
        have hK2 : ∀ k : Nat, ¬ (24 ≤ k ∧ k ≤ 29) → m2 128 k = xu m 128 21 (m 128 21 ||| (1 : Int32) <<< (2 &&& 31)) 128 k := hf2.2
        have hM2 : ∀ a : Nat, ¬ a = 128 → m2 a = m a := hY2
        have hX2 := h2
        replace hr := hr.go (s_iload_n t169_91 rfl)
        replace hr := hr.go (s_tswitch (q := 251) t169_92 (by decide) (by decide) rfl rfl)
        replace hr := hr.go (s_k t169_251)
        replace hr := hr.go (s_aload_n t169_253 rfl)
        replace hr := hr.go (s_k t169_254)
        replace hr := hr.cvI t169_255 rfl rfl (ct_fresher hG.2.1.1 hG.2.1.2.1)
        rw [show (m2) 130 (9 + (2 : Int32)).toNatClampNeg = Int32.ofNat (s.1 2).length from (congrFun (hY2 130 (by decide)) _).trans (hLw)] at hr
        replace hr := hr.go (s_iadd t169_258)
        rw [show (6 : Int32) + Int32.ofNat (s.1 2).length = Int32.ofNat (6 + (s.1 2).length) from xn_add (p := 6)] at hr
        replace hr := hr.go (s_istore_n (ls' := [(3, _), (1, _), (0, _)]) t169_259 rfl)
        replace hr := hr.go (s_aload_n t169_260 rfl)
        replace hr := hr.go (s_getr t169_261 (hG.2.2.1 9 (by decide) (by decide)))
        replace hr := hr.go (s_iload_n t169_264 rfl)
        replace hr := hr.go (s_aload_n t169_265 rfl)
        replace hr := hr.go (s_aload_n t169_266 rfl)
        replace hr := hr.go (s_getr t169_267 (hG.2.2.1 9 (by decide) (by decide)))
        replace hr := hr.go (s_k t169_270)
        replace hr := hr.go (s_aload_n t169_272 rfl)
        replace hr := hr.go (s_k t169_273)
        replace hr := hr.cvI t169_274 rfl rfl (ct_fresher hG.2.1.1 hG.2.1.2.1)
        rw [show (m2) 130 (9 + (2 : Int32)).toNatClampNeg = Int32.ofNat (s.1 2).length from (congrFun (hY2 130 (by decide)) _).trans (hLw)] at hr
        obtain ⟨m3, ⟨h3, hf3⟩, hr⟩ := hr.fvI t169_277 rfl rfl (ct_fresh (a := 136) (fr := 6) (len := 12) (rows := s.1 2) (s := ((s.2.2.2 + 1), s.2.2.1, 0)) hG.1 hE hX2 hG.2.2.2.2.1 (by omega) (by decide) (fun i hi => (congrFun (hY2 136 (by decide)) _).trans (hA.2.2.2.1 2 (by decide) i hi 0 (by decide))))
        have hW3 : ∀ a : Nat, ¬ a = 128 → m3 a = m a := fun a ha => (hf3.1 a ha).trans (hY2 a ha)
        have hJ3 : ∀ k : Nat, ¬ (24 ≤ k ∧ k ≤ 29) → m3 128 k = xu m 128 21 (m 128 21 ||| (1 : Int32) <<< (2 &&& 31)) 128 k := fun k hk => (hf3.2 k hk).trans (hK2 k hk)
        replace hr := hr.go (s_iastore t169_280)
        rw [xn_nat (show 6 + (s.1 2).length < 2147483648 by omega)] at hr
        have hY3 : ∀ a : Nat, ¬ a = 128 → xu m3 136 (6 + (s.1 2).length) (frV B (s.1 2) ((s.2.2.2 + 1), s.2.2.1, 0)) a = (xu m 136 (6 + (s.1 2).length) (frV B (s.1 2) ((s.2.2.2 + 1), s.2.2.1, 0))) a := xu_er hW3
        have hK3 : ∀ k : Nat, ¬ (24 ≤ k ∧ k ≤ 29) → xu m3 136 (6 + (s.1 2).length) (frV B (s.1 2) ((s.2.2.2 + 1), s.2.2.1, 0)) 128 k = xu m 128 21 (m 128 21 ||| (1 : Int32) <<< (2 &&& 31)) 128 k := fun k hk => (congrFun (xu_row (by decide)) k).trans (hJ3 k hk)
        have hX3 := sX_row h3 (show xu m3 136 (6 + (s.1 2).length) (frV B (s.1 2) ((s.2.2.2 + 1), s.2.2.1, 0)) 128 = m3 128 from xu_row (by decide)) (show xu m3 136 (6 + (s.1 2).length) (frV B (s.1 2) ((s.2.2.2 + 1), s.2.2.1, 0)) 129 = m3 129 from xu_row (by decide))
        replace hr := hr.go (s_aload_n t169_281 rfl)
        replace hr := hr.go (s_getr t169_282 (hG.2.2.1 10 (by decide) (by decide)))
        replace hr := hr.go (s_iload_n t169_285 rfl)
        replace hr := hr.go (s_aload_n t169_286 rfl)
        replace hr := hr.go (s_k t169_287)
        replace hr := hr.go (s_k t169_288)
        obtain ⟨m4, ⟨h4, hf4⟩, hr⟩ := hr.fvI t169_290 rfl rfl (ct_numeral (o := (frO B (s.1 2) ((s.2.2.2 + 1), s.2.2.1, 0))) (lo := 0) (mo := 99) hG.1 hE (by decide) hX3)
        have hW4 : ∀ a : Nat, ¬ a = 128 → m4 a = (xu m 136 (6 + (s.1 2).length) (frV B (s.1 2) ((s.2.2.2 + 1), s.2.2.1, 0))) a := fun a ha => (hf4.1 a ha).trans (hY3 a ha)
        have hJ4 : ∀ k : Nat, ¬ (24 ≤ k ∧ k ≤ 29) → m4 128 k = xu m 128 21 (m 128 21 ||| (1 : Int32) <<< (2 &&& 31)) 128 k := fun k hk => (hf4.2 k hk).trans (hK3 k hk)
        replace hr := hr.go (s_iastore t169_293)
        rw [xn_nat (show 6 + (s.1 2).length < 2147483648 by omega)] at hr
        have hY4 : ∀ a : Nat, ¬ a = 128 → xu m4 137 (6 + (s.1 2).length) (nuV B 0 99 (frO B (s.1 2) ((s.2.2.2 + 1), s.2.2.1, 0))) a = (xu (xu m 136 (6 + (s.1 2).length) (frV B (s.1 2) ((s.2.2.2 + 1), s.2.2.1, 0))) 137 (6 + (s.1 2).length) (nuV B 0 99 (frO B (s.1 2) ((s.2.2.2 + 1), s.2.2.1, 0)))) a := xu_er hW4
        have hK4 : ∀ k : Nat, ¬ (24 ≤ k ∧ k ≤ 29) → xu m4 137 (6 + (s.1 2).length) (nuV B 0 99 (frO B (s.1 2) ((s.2.2.2 + 1), s.2.2.1, 0))) 128 k = xu m 128 21 (m 128 21 ||| (1 : Int32) <<< (2 &&& 31)) 128 k := fun k hk => (congrFun (xu_row (by decide)) k).trans (hJ4 k hk)
        have hX4 := sX_row h4 (show xu m4 137 (6 + (s.1 2).length) (nuV B 0 99 (frO B (s.1 2) ((s.2.2.2 + 1), s.2.2.1, 0))) 128 = m4 128 from xu_row (by decide)) (show xu m4 137 (6 + (s.1 2).length) (nuV B 0 99 (frO B (s.1 2) ((s.2.2.2 + 1), s.2.2.1, 0))) 129 = m4 129 from xu_row (by decide))
        replace hr := hr.go (s_aload_n t169_294 rfl)
        replace hr := hr.go (s_getr t169_295 (hG.2.2.1 11 (by decide) (by decide)))
        replace hr := hr.go (s_iload_n t169_298 rfl)
        replace hr := hr.go (s_aload_n t169_299 rfl)
        replace hr := hr.go (s_k t169_300)
        replace hr := hr.go (s_k t169_301)
        obtain ⟨m5, ⟨h5, hf5⟩, hr⟩ := hr.fvI t169_302 rfl rfl (ct_numeral (o := (nuO B 0 99 (frO B (s.1 2) ((s.2.2.2 + 1), s.2.2.1, 0)))) (lo := 0) (mo := 3) hG.1 hE (by decide) hX4)
        have hW5 : ∀ a : Nat, ¬ a = 128 → m5 a = (xu (xu m 136 (6 + (s.1 2).length) (frV B (s.1 2) ((s.2.2.2 + 1), s.2.2.1, 0))) 137 (6 + (s.1 2).length) (nuV B 0 99 (frO B (s.1 2) ((s.2.2.2 + 1), s.2.2.1, 0)))) a := fun a ha => (hf5.1 a ha).trans (hY4 a ha)
        have hJ5 : ∀ k : Nat, ¬ (24 ≤ k ∧ k ≤ 29) → m5 128 k = xu m 128 21 (m 128 21 ||| (1 : Int32) <<< (2 &&& 31)) 128 k := fun k hk => (hf5.2 k hk).trans (hK4 k hk)
        replace hr := hr.go (s_iastore t169_305)
        rw [xn_nat (show 6 + (s.1 2).length < 2147483648 by omega)] at hr
        have hY5 : ∀ a : Nat, ¬ a = 128 → xu m5 138 (6 + (s.1 2).length) (nuV B 0 3 (nuO B 0 99 (frO B (s.1 2) ((s.2.2.2 + 1), s.2.2.1, 0)))) a = (xu (xu (xu m 136 (6 + (s.1 2).length) (frV B (s.1 2) ((s.2.2.2 + 1), s.2.2.1, 0))) 137 (6 + (s.1 2).length) (nuV B 0 99 (frO B (s.1 2) ((s.2.2.2 + 1), s.2.2.1, 0)))) 138 (6 + (s.1 2).length) (nuV B 0 3 (nuO B 0 99 (frO B (s.1 2) ((s.2.2.2 + 1), s.2.2.1, 0))))) a := xu_er hW5
        have hK5 : ∀ k : Nat, ¬ (24 ≤ k ∧ k ≤ 29) → xu m5 138 (6 + (s.1 2).length) (nuV B 0 3 (nuO B 0 99 (frO B (s.1 2) ((s.2.2.2 + 1), s.2.2.1, 0)))) 128 k = xu m 128 21 (m 128 21 ||| (1 : Int32) <<< (2 &&& 31)) 128 k := fun k hk => (congrFun (xu_row (by decide)) k).trans (hJ5 k hk)
        have hX5 := sX_row h5 (show xu m5 138 (6 + (s.1 2).length) (nuV B 0 3 (nuO B 0 99 (frO B (s.1 2) ((s.2.2.2 + 1), s.2.2.1, 0)))) 128 = m5 128 from xu_row (by decide)) (show xu m5 138 (6 + (s.1 2).length) (nuV B 0 3 (nuO B 0 99 (frO B (s.1 2) ((s.2.2.2 + 1), s.2.2.1, 0)))) 129 = m5 129 from xu_row (by decide))
        replace hr := hr.go (s_aload_n t169_306 rfl)
        replace hr := hr.go (s_k t169_307)
        replace hr := hr.go (s_aload_n t169_308 rfl)
        replace hr := hr.go (s_k t169_309)
        replace hr := hr.cvI t169_310 rfl rfl (ct_fresher hG.2.1.1 hG.2.1.2.1)
        rw [show ((xu m5 138 (6 + (s.1 2).length) (nuV B 0 3 (nuO B 0 99 (frO B (s.1 2) ((s.2.2.2 + 1), s.2.2.1, 0)))))) 130 (9 + (2 : Int32)).toNatClampNeg = Int32.ofNat (s.1 2).length from (congrFun (hY5 130 (by decide)) _).trans ((congrFun (xu_row (by decide)) _).trans ((congrFun (xu_row (by decide)) _).trans ((congrFun (xu_row (by decide)) _).trans (hLw))))] at hr
        replace hr := hr.go (s_k t169_313)
        replace hr := hr.go (s_iadd t169_314)
        rw [xn_1] at hr
        replace hr := hr.cvN t169_315 rfl rfl (ct_reads hG.2.1.1)
        replace hr := hr.go (s_goto t169_318)
        rcases ch2 (B := B) (rows := s.1 2) (js := s.1 2) (i := s.2.2.2 + 1) (kn := s.2.2.1) with ⟨e, e1, e2⟩ | ⟨e1, e2⟩
        · rw [e2] at hX5
          obtain ⟨rfl, hs⟩ := le485F rfl ((sX_row hX5 (xu_row (by decide)) (xu_row (by decide)))) hr
          refine ⟨_, _, hs, PL_bad ?_ ((sX_row hX5 (xu_row (by decide)) (xu_row (by decide)))) (FM.x130 (FM.er hY5 (fun k hk => (hK5 k (by omega)).trans ((xu_oth (by omega)).trans (by repeat rw [xu_row (by decide)]))) (FM.xr (FM.xr (FM.xr FM.rf (by unfold fhq fhp; omega)) (by unfold fhq fhp; omega)) (by unfold fhq fhp; omega))) (by decide)) FG.rf⟩
          rw [lin_tab (w := 2) (by decide) hk, tab_nam hnf (by decide)]
          exact congrArg (fun z => oMap _ (rendF B z)) e1
        · rw [e2] at hX5
          obtain ⟨m', hs, rfl, h4, h22, hfa, hfk⟩ := le485G hG.1 hE rfl ((sX_row hX5 (xu_row (by decide)) (xu_row (by decide)))) hr
          have hZ : ∀ a : Nat, ¬ a = 128 → m' a = xu (xu (xu (xu m 136 (6 + (s.1 2).length) (frV B (s.1 2) ((s.2.2.2 + 1), s.2.2.1, 0))) 137 (6 + (s.1 2).length) (nuV B 0 99 (frO B (s.1 2) ((s.2.2.2 + 1), s.2.2.1, 0)))) 138 (6 + (s.1 2).length) (nuV B 0 3 (nuO B 0 99 (frO B (s.1 2) ((s.2.2.2 + 1), s.2.2.1, 0))))) 130 ((9 : Int32) + 2).toNatClampNeg (Int32.ofNat ((s.1 2).length + 1)) a := fun a ha => (hfa a ha).trans (xu_er hY5 a ha)
          refine ⟨m', _, hs, PL_good (w := 2) (by rw [lin_tab (w := 2) (by decide) hk, tab_nam hnf (by decide)]; exact congrArg (fun z => oMap _ (rendF B z)) e1) h4 (fun hq => ?_) ?_ (FM.er hZ (fun k hk => (hfk k (by omega) (by omega)).trans ((congrFun (xu_row (by decide)) k).trans ((hK5 k (by omega)).trans ((xu_oth (by omega)).trans (by repeat rw [xu_row (by decide)]))))) (FM.x130 (FM.xr (FM.xr (FM.xr FM.rf (by unfold fhq fhp; omega)) (by unfold fhq fhp; omega)) (by unfold fhq fhp; omega)) (by decide))) FG.rf⟩
          · refine AR_arr (by decide) hA (by omega) hq (fun a a1 a2 a3 => ?_) (fun c hc k => ?_) (fun k hk2 => ?_) ?_ ?_
            · rw [hZ a a1, xu_row a2, xu_row (show ¬ a = 138 from a3 2 (by decide)), xu_row (show ¬ a = 137 from a3 1 (by decide)), xu_row (show ¬ a = 136 from a3 0 (by decide))]
            · have hc : c < 3 := hc
              rcases c with _ | _ | _ | c
              · show m' 136 k = if k = 6 + (s.1 2).length then _ else m 136 k
                rw [congrFun (hZ 136 (by decide)) k, xu_row (a := 130) (by decide), xu_row (a := 138) (by decide), xu_row (a := 137) (by decide), xu_at]
                rfl
              · show m' 137 k = if k = 6 + (s.1 2).length then _ else m 137 k
                rw [congrFun (hZ 137 (by decide)) k, xu_row (a := 130) (by decide), xu_row (a := 138) (by decide), xu_at, xu_row (a := 136) (by decide)]
                rfl
              · show m' 138 k = if k = 6 + (s.1 2).length then _ else m 138 k
                rw [congrFun (hZ 138 (by decide)) k, xu_row (a := 130) (by decide), xu_at, xu_row (a := 137) (by decide), xu_row (a := 136) (by decide)]
                rfl
              · omega
            · rw [congrFun (hZ 130 (by decide)) k, xu_oth (k := ((9 : Int32) + 2).toNatClampNeg) (fun q => hk2 (q.2.trans (by decide))), xu_row (a := 138) (by decide), xu_row (a := 137) (by decide), xu_row (a := 136) (by decide)]
            · rw [hZ 130 (by decide)]; exact xu_same
            · rw [hfk 21 (by decide) (by decide), xu_row (by decide), hK5 21 (by decide)]; exact xu_same
          · rw [h22, xu_row (by decide), hK5 22 (by decide), xu_oth (by decide)]
      · exact absurd hA.1.1 b71
    · exact absurd rfl b47
  · replace hr := hr.go (s_aload_n t169_35 rfl)
    replace hr := hr.go (s_k t169_36)
    obtain ⟨m1, ⟨h1, hf1⟩, hr⟩ := hr.fvN t169_37 rfl rfl (ct_wrongG (f := 2) hA.1 (by decide) (by decide))
    skip
    replace hr := hr.go (s_goto t169_40)
    replace hr := hr.go (s_aload_n t169_67 rfl)
    replace hr := hr.go (s_getf t169_68)
    rcases hr.zEq t169_71 with ⟨b71, hr⟩ | ⟨b71, hr⟩
    · exact absurd b71 h1.2.1
    · obtain ⟨rfl, hs⟩ := hr.ret t169_74
      exact ⟨_, _, hs, PL_bad (by rw [lin_tab (w := 2) (by decide) hk, tab_full (Nat.le_of_eq (of_decide_eq_true (bI_1 b32)).2.2.symm)]; rfl) h1 (FM.er hf1.1 (fun k hk => hf1.2 k (by omega)) FM.rf) FG.rf⟩
theorem ln5 {nf : Bool} {xs : List Int32} {d : Nat} {g : xL} {G : xG} {r : Option Value} {h' : zH} {N : Nat} {m : xM} {B : eB} {s : eS} (hG : GL G) (hE : EV B) (hA : AR B s m g) (hk : tK B s.2.2.2 = Int32.ofNat (32 + 5)) (hr : RR nf xs d 11 false 6 none zt169 G r h' N (27, [(1, .int 5), (0, .ref 128)], [], m, g)) : ∃ (m' : xM) (g' : xL), HS h' m' g' G ∧ PL B s m g r m' g' := by
  have hL : ∀ u : Nat, 1 ≤ u → u ≤ 5 → m 130 (9 + u) = Int32.ofNat ((fun u => (s.1 u).length) u) ∧ (fun u => (s.1 u).length) u ≤ 8 := fun u u1 u2 => ⟨hA.2.2.1 u u1 u2, by have := hA.2.1 u (by omega); have := (mN_b u).1; dsimp only; omega⟩
  have hLw : m 130 (9 + (5 : Int32)).toNatClampNeg = Int32.ofNat (s.1 5).length := hA.2.2.1 5 (by decide) (by decide)
  have hle : (s.1 5).length ≤ 3 := hA.2.1 5 (by decide)
  replace hr := hr.go (s_aload_n t169_27 rfl)
  replace hr := hr.go (s_iload_n t169_28 rfl)
  replace hr := hr.cvI t169_29 rfl rfl (ct_isFullR (w := 5) (L := (fun u => (s.1 u).length)) hG.2.1 (by decide) hL)
  rw [show fulR (fun u => (s.1 u).length) 5 = decide (1 ≤ 5 ∧ 5 ≤ 5 ∧ (s.1 5).length = mN 5) from rfl] at hr
  rcases hr.zEq t169_32 with ⟨b32, hr⟩ | ⟨b32, hr⟩
  · skip
    replace hr := hr.go (s_iload_n t169_43 rfl)
    replace hr := hr.csI t169_44 rfl rfl (ct_isOnce (w := 5) (by decide))
    rw [show onR 5 = false from by decide] at hr
    rcases hr.zEq t169_47 with ⟨b47, hr⟩ | ⟨b47, hr⟩
    · replace hr := hr.go (s_aload_n t169_67 rfl)
      replace hr := hr.go (s_getf t169_68)
      rcases hr.zEq t169_71 with ⟨b71, hr⟩ | ⟨b71, hr⟩
      · have hnf : ¬ mN 5 ≤ (s.1 5).length := fun q => (of_decide_eq_false (bI_0 b32)) ⟨by decide, by decide, Nat.le_antisymm (hA.2.1 5 (by decide)) q⟩
        replace hr := hr.go (s_aload_n t169_75 rfl)
        replace hr := hr.go (s_dup t169_76 rfl)
        replace hr := hr.go (s_getf t169_77)
        replace hr := hr.go (s_k t169_80)
        replace hr := hr.go (s_iload_n t169_81 rfl)
        replace hr := hr.go (s_ishl t169_82)
        replace hr := hr.go (s_ior t169_83)
        replace hr := hr.go (s_putf t169_84)
        replace hr := hr.go (s_aload_n t169_87 rfl)
        obtain ⟨m2, ⟨h2, hf2⟩, hr⟩ := hr.fvN t169_88 rfl rfl (ct_tokG hG.1 hE (sX_f (k := 21) hA.1 (by decide) (by decide) (by decide)))
        replace h2 : sX B (.inr (s.2.2.2 + 1, s.2.2.1, 0)) m2 := h2
        have hY2 : ∀ a : Nat, ¬ a = 128 → m2 a = m a := fun a ha => (hf2.1 a ha).trans (xu_row ha)
        have hK2 : ∀ k : Nat, ¬ (24 ≤ k ∧ k ≤ 29) → m2 128 k = xu m 128 21 (m 128 21 ||| (1 : Int32) <<< (5 &&& 31)) 128 k := hf2.2
        have hM2 : ∀ a : Nat, ¬ a = 128 → m2 a = m a := hY2
        have hX2 := h2
        replace hr := hr.go (s_iload_n t169_91 rfl)
        replace hr := hr.go (s_tswitch (q := 380) t169_92 (by decide) (by decide) rfl rfl)
        replace hr := hr.go (s_k t169_380)
        replace hr := hr.go (s_aload_n t169_381 rfl)
        replace hr := hr.go (s_k t169_382)
        replace hr := hr.cvI t169_383 rfl rfl (ct_fresher hG.2.1.1 hG.2.1.2.1)
        rw [show (m2) 130 (9 + (5 : Int32)).toNatClampNeg = Int32.ofNat (s.1 5).length from (congrFun (hY2 130 (by decide)) _).trans (hLw)] at hr
        replace hr := hr.go (s_iadd t169_386)
        rw [show (3 : Int32) + Int32.ofNat (s.1 5).length = Int32.ofNat (3 + (s.1 5).length) from xn_add (p := 3)] at hr
        replace hr := hr.go (s_istore (ls' := [(5, _), (1, _), (0, _)]) t169_387 rfl)
        replace hr := hr.go (s_aload_n t169_389 rfl)
        replace hr := hr.go (s_getr t169_390 (hG.2.2.1 15 (by decide) (by decide)))
        replace hr := hr.go (s_iload t169_393 rfl)
        replace hr := hr.go (s_aload_n t169_395 rfl)
        replace hr := hr.go (s_k t169_396)
        replace hr := hr.go (s_k t169_397)
        obtain ⟨m3, ⟨h3, hf3⟩, hr⟩ := hr.fvI t169_399 rfl rfl (ct_numeral (o := (.inr ((s.2.2.2 + 1), s.2.2.1, 0))) (lo := 0) (mo := 60) hG.1 hE (by decide) hX2)
        have hW3 : ∀ a : Nat, ¬ a = 128 → m3 a = m a := fun a ha => (hf3.1 a ha).trans (hY2 a ha)
        have hJ3 : ∀ k : Nat, ¬ (24 ≤ k ∧ k ≤ 29) → m3 128 k = xu m 128 21 (m 128 21 ||| (1 : Int32) <<< (5 &&& 31)) 128 k := fun k hk => (hf3.2 k hk).trans (hK2 k hk)
        replace hr := hr.go (s_iastore t169_402)
        rcases num_step (B := B) (w := 5) (c := 0) (i := s.2.2.2 + 1) (kn := s.2.2.1) (row := []) (rows := s.1 5) (lo := 0) (mo := 60) (by first | rfl | decide) (by decide) (by decide) with ⟨e, e1, e2⟩ | ⟨e1, e2⟩
        · rw [e2] at h3
          rw [xn_nat (show 3 + (s.1 5).length < 2147483648 by omega)] at hr
          have hY3 : ∀ a : Nat, ¬ a = 128 → xu m3 142 (3 + (s.1 5).length) (nuV B 0 60 (.inr ((s.2.2.2 + 1), s.2.2.1, 0))) a = (xu m 142 (3 + (s.1 5).length) (nuV B 0 60 (.inr ((s.2.2.2 + 1), s.2.2.1, 0)))) a := xu_er hW3
          have hK3 : ∀ k : Nat, ¬ (24 ≤ k ∧ k ≤ 29) → xu m3 142 (3 + (s.1 5).length) (nuV B 0 60 (.inr ((s.2.2.2 + 1), s.2.2.1, 0))) 128 k = xu m 128 21 (m 128 21 ||| (1 : Int32) <<< (5 &&& 31)) 128 k := fun k hk => (congrFun (xu_row (by decide)) k).trans (hJ3 k hk)
          have hX3 := sX_row h3 (show xu m3 142 (3 + (s.1 5).length) (nuV B 0 60 (.inr ((s.2.2.2 + 1), s.2.2.1, 0))) 128 = m3 128 from xu_row (by decide)) (show xu m3 142 (3 + (s.1 5).length) (nuV B 0 60 (.inr ((s.2.2.2 + 1), s.2.2.1, 0))) 129 = m3 129 from xu_row (by decide))
          replace hr := hr.go (s_aload_n t169_403 rfl)
          replace hr := hr.go (s_getr t169_404 (hG.2.2.1 16 (by decide) (by decide)))
          replace hr := hr.go (s_iload t169_407 rfl)
          replace hr := hr.go (s_aload_n t169_409 rfl)
          replace hr := hr.go (s_aload_n t169_410 rfl)
          replace hr := hr.go (s_getf t169_411)
          rcases hr.zNe t169_414 with ⟨b414, hr⟩ | ⟨b414, hr⟩
          · replace hr := hr.go (s_k t169_427)
            replace hr := hr.go (s_k t169_428)
            obtain ⟨m4, ⟨h4, hf4⟩, hr⟩ := hr.fvI t169_430 rfl rfl (ct_numeral (o := (.inl e)) (lo := 0) (mo := 60) hG.1 hE (by decide) hX3)
            have hW4 : ∀ a : Nat, ¬ a = 128 → m4 a = (xu m 142 (3 + (s.1 5).length) (nuV B 0 60 (.inr ((s.2.2.2 + 1), s.2.2.1, 0)))) a := fun a ha => (hf4.1 a ha).trans (hY3 a ha)
            have hJ4 : ∀ k : Nat, ¬ (24 ≤ k ∧ k ≤ 29) → m4 128 k = xu m 128 21 (m 128 21 ||| (1 : Int32) <<< (5 &&& 31)) 128 k := fun k hk => (hf4.2 k hk).trans (hK3 k hk)
            replace hr := hr.go (s_iastore t169_433)
            rw [xn_nat (show 3 + (s.1 5).length < 2147483648 by omega)] at hr
            have hY4 : ∀ a : Nat, ¬ a = 128 → xu m4 143 (3 + (s.1 5).length) (nuV B 0 60 (.inl e)) a = (xu (xu m 142 (3 + (s.1 5).length) (nuV B 0 60 (.inr ((s.2.2.2 + 1), s.2.2.1, 0)))) 143 (3 + (s.1 5).length) (nuV B 0 60 (.inl e))) a := xu_er hW4
            have hK4 : ∀ k : Nat, ¬ (24 ≤ k ∧ k ≤ 29) → xu m4 143 (3 + (s.1 5).length) (nuV B 0 60 (.inl e)) 128 k = xu m 128 21 (m 128 21 ||| (1 : Int32) <<< (5 &&& 31)) 128 k := fun k hk => (congrFun (xu_row (by decide)) k).trans (hJ4 k hk)
            have hX4 := sX_row h4 (show xu m4 143 (3 + (s.1 5).length) (nuV B 0 60 (.inl e)) 128 = m4 128 from xu_row (by decide)) (show xu m4 143 (3 + (s.1 5).length) (nuV B 0 60 (.inl e)) 129 = m4 129 from xu_row (by decide))
            replace hr := hr.go (s_aload_n t169_434 rfl)
            replace hr := hr.go (s_k t169_435)
            replace hr := hr.go (s_aload_n t169_436 rfl)
            replace hr := hr.go (s_k t169_437)
            replace hr := hr.cvI t169_438 rfl rfl (ct_fresher hG.2.1.1 hG.2.1.2.1)
            rw [show ((xu m4 143 (3 + (s.1 5).length) (nuV B 0 60 (.inl e)))) 130 (9 + (5 : Int32)).toNatClampNeg = Int32.ofNat (s.1 5).length from (congrFun (hY4 130 (by decide)) _).trans ((congrFun (xu_row (by decide)) _).trans ((congrFun (xu_row (by decide)) _).trans (hLw)))] at hr
            replace hr := hr.go (s_k t169_441)
            replace hr := hr.go (s_iadd t169_442)
            rw [xn_1] at hr
            replace hr := hr.cvN t169_443 rfl rfl (ct_reads hG.2.1.1)
            replace hr := hr.go (s_goto t169_446)
            obtain ⟨rfl, hs⟩ := le485F (e := e) rfl ((sX_row hX4 (xu_row (by decide)) (xu_row (by decide)))) hr
            refine ⟨_, _, hs, PL_bad (e := e) ?_ ((sX_row hX4 (xu_row (by decide)) (xu_row (by decide)))) (FM.x130 (FM.er hY4 (fun k hk => (hK4 k (by omega)).trans ((xu_oth (by omega)).trans (by repeat rw [xu_row (by decide)]))) (FM.xr (FM.xr FM.rf (by unfold fhq fhp; omega)) (by unfold fhq fhp; omega))) (by decide)) FG.rf⟩
            rw [lin_tab (w := 5) (by decide) hk, tab_num hnf (by decide)]
            exact congrArg (fun z => oMap _ (rendF B z)) (rowF_l (f := 1) e1)
          · exact absurd b414 hX3.2.1
        · rw [e2] at h3
          rw [xn_nat (show 3 + (s.1 5).length < 2147483648 by omega)] at hr
          have hY3 : ∀ a : Nat, ¬ a = 128 → xu m3 142 (3 + (s.1 5).length) (nuV B 0 60 (.inr ((s.2.2.2 + 1), s.2.2.1, 0))) a = (xu m 142 (3 + (s.1 5).length) (nuV B 0 60 (.inr ((s.2.2.2 + 1), s.2.2.1, 0)))) a := xu_er hW3
          have hK3 : ∀ k : Nat, ¬ (24 ≤ k ∧ k ≤ 29) → xu m3 142 (3 + (s.1 5).length) (nuV B 0 60 (.inr ((s.2.2.2 + 1), s.2.2.1, 0))) 128 k = xu m 128 21 (m 128 21 ||| (1 : Int32) <<< (5 &&& 31)) 128 k := fun k hk => (congrFun (xu_row (by decide)) k).trans (hJ3 k hk)
          have hX3 := sX_row h3 (show xu m3 142 (3 + (s.1 5).length) (nuV B 0 60 (.inr ((s.2.2.2 + 1), s.2.2.1, 0))) 128 = m3 128 from xu_row (by decide)) (show xu m3 142 (3 + (s.1 5).length) (nuV B 0 60 (.inr ((s.2.2.2 + 1), s.2.2.1, 0))) 129 = m3 129 from xu_row (by decide))
          replace hr := hr.go (s_aload_n t169_403 rfl)
          replace hr := hr.go (s_getr t169_404 (hG.2.2.1 16 (by decide) (by decide)))
          replace hr := hr.go (s_iload t169_407 rfl)
          replace hr := hr.go (s_aload_n t169_409 rfl)
          replace hr := hr.go (s_aload_n t169_410 rfl)
          replace hr := hr.go (s_getf t169_411)
          rcases hr.zNe t169_414 with ⟨b414, hr⟩ | ⟨b414, hr⟩
          · exact absurd hX3.1 b414
          · replace hr := hr.go (s_aload_n t169_417 rfl)
            replace hr := hr.go (s_getr t169_418 (hG.2.2.1 15 (by decide) (by decide)))
            replace hr := hr.go (s_iload t169_421 rfl)
            replace hr := hr.go (s_iaload t169_423 (hG.2.2.2.2.2))
            rw [xn_nat (show 3 + (s.1 5).length < 2147483648 by omega), xu_same] at hr
            replace hr := hr.go (s_goto t169_424)
            replace hr := hr.go (s_k t169_428)
            obtain ⟨m4, ⟨h4, hf4⟩, hr⟩ := hr.fvI t169_430 rfl rfl (ct_numeral (o := (.inr (s.2.2.2 + 1 + 1, s.2.2.1, 0))) (lo := (nuV B 0 60 (.inr ((s.2.2.2 + 1), s.2.2.1, 0)))) (mo := 60) hG.1 hE (by decide) hX3)
            have hW4 : ∀ a : Nat, ¬ a = 128 → m4 a = (xu m 142 (3 + (s.1 5).length) (nuV B 0 60 (.inr ((s.2.2.2 + 1), s.2.2.1, 0)))) a := fun a ha => (hf4.1 a ha).trans (hY3 a ha)
            have hJ4 : ∀ k : Nat, ¬ (24 ≤ k ∧ k ≤ 29) → m4 128 k = xu m 128 21 (m 128 21 ||| (1 : Int32) <<< (5 &&& 31)) 128 k := fun k hk => (hf4.2 k hk).trans (hK3 k hk)
            replace hr := hr.go (s_iastore t169_433)
            rw [xn_nat (show 3 + (s.1 5).length < 2147483648 by omega)] at hr
            have hY4 : ∀ a : Nat, ¬ a = 128 → xu m4 143 (3 + (s.1 5).length) (nuV B (nuV B 0 60 (.inr ((s.2.2.2 + 1), s.2.2.1, 0))) 60 (.inr (s.2.2.2 + 1 + 1, s.2.2.1, 0))) a = (xu (xu m 142 (3 + (s.1 5).length) (nuV B 0 60 (.inr ((s.2.2.2 + 1), s.2.2.1, 0)))) 143 (3 + (s.1 5).length) (nuV B (nuV B 0 60 (.inr ((s.2.2.2 + 1), s.2.2.1, 0))) 60 (.inr (s.2.2.2 + 1 + 1, s.2.2.1, 0)))) a := xu_er hW4
            have hK4 : ∀ k : Nat, ¬ (24 ≤ k ∧ k ≤ 29) → xu m4 143 (3 + (s.1 5).length) (nuV B (nuV B 0 60 (.inr ((s.2.2.2 + 1), s.2.2.1, 0))) 60 (.inr (s.2.2.2 + 1 + 1, s.2.2.1, 0))) 128 k = xu m 128 21 (m 128 21 ||| (1 : Int32) <<< (5 &&& 31)) 128 k := fun k hk => (congrFun (xu_row (by decide)) k).trans (hJ4 k hk)
            have hX4 := sX_row h4 (show xu m4 143 (3 + (s.1 5).length) (nuV B (nuV B 0 60 (.inr ((s.2.2.2 + 1), s.2.2.1, 0))) 60 (.inr (s.2.2.2 + 1 + 1, s.2.2.1, 0))) 128 = m4 128 from xu_row (by decide)) (show xu m4 143 (3 + (s.1 5).length) (nuV B (nuV B 0 60 (.inr ((s.2.2.2 + 1), s.2.2.1, 0))) 60 (.inr (s.2.2.2 + 1 + 1, s.2.2.1, 0))) 129 = m4 129 from xu_row (by decide))
            replace hr := hr.go (s_aload_n t169_434 rfl)
            replace hr := hr.go (s_k t169_435)
            replace hr := hr.go (s_aload_n t169_436 rfl)
            replace hr := hr.go (s_k t169_437)
            replace hr := hr.cvI t169_438 rfl rfl (ct_fresher hG.2.1.1 hG.2.1.2.1)
            rw [show ((xu m4 143 (3 + (s.1 5).length) (nuV B (nuV B 0 60 (.inr ((s.2.2.2 + 1), s.2.2.1, 0))) 60 (.inr (s.2.2.2 + 1 + 1, s.2.2.1, 0))))) 130 (9 + (5 : Int32)).toNatClampNeg = Int32.ofNat (s.1 5).length from (congrFun (hY4 130 (by decide)) _).trans ((congrFun (xu_row (by decide)) _).trans ((congrFun (xu_row (by decide)) _).trans (hLw)))] at hr
            replace hr := hr.go (s_k t169_441)
            replace hr := hr.go (s_iadd t169_442)
            rw [xn_1] at hr
            replace hr := hr.cvN t169_443 rfl rfl (ct_reads hG.2.1.1)
            replace hr := hr.go (s_goto t169_446)
            rcases num_step (B := B) (w := 5) (c := 1) (i := s.2.2.2 + 1 + 1) (kn := s.2.2.1) (row := [(nuV B 0 60 (.inr ((s.2.2.2 + 1), s.2.2.1, 0)))]) (rows := s.1 5) (lo := (nuV B 0 60 (.inr ((s.2.2.2 + 1), s.2.2.1, 0)))) (mo := 60) rfl (by decide) (by decide) with ⟨e, d1, d2⟩ | ⟨d1, d2⟩
            · rw [d2] at hX4
              obtain ⟨rfl, hs⟩ := le485F rfl ((sX_row hX4 (xu_row (by decide)) (xu_row (by decide)))) hr
              refine ⟨_, _, hs, PL_bad ?_ ((sX_row hX4 (xu_row (by decide)) (xu_row (by decide)))) (FM.x130 (FM.er hY4 (fun k hk => (hK4 k (by omega)).trans ((xu_oth (by omega)).trans (by repeat rw [xu_row (by decide)]))) (FM.xr (FM.xr FM.rf (by unfold fhq fhp; omega)) (by unfold fhq fhp; omega))) (by decide)) FG.rf⟩
              rw [lin_tab (w := 5) (by decide) hk, tab_num hnf (by decide)]
              exact congrArg (fun z => oMap _ (rendF B z)) ((rowF_r (f := 1) e1).trans (rowF_l (f := 0) d1))
            · rw [d2] at hX4
              obtain ⟨m', hs, rfl, h4, h22, hfa, hfk⟩ := le485G hG.1 hE rfl ((sX_row hX4 (xu_row (by decide)) (xu_row (by decide)))) hr
              have hZ : ∀ a : Nat, ¬ a = 128 → m' a = xu (xu (xu m 142 (3 + (s.1 5).length) (nuV B 0 60 (.inr ((s.2.2.2 + 1), s.2.2.1, 0)))) 143 (3 + (s.1 5).length) (nuV B (nuV B 0 60 (.inr ((s.2.2.2 + 1), s.2.2.1, 0))) 60 (.inr (s.2.2.2 + 1 + 1, s.2.2.1, 0)))) 130 ((9 : Int32) + 5).toNatClampNeg (Int32.ofNat ((s.1 5).length + 1)) a := fun a ha => (hfa a ha).trans (xu_er hY4 a ha)
              refine ⟨m', _, hs, PL_good (w := 5) (by rw [lin_tab (w := 5) (by decide) hk, tab_num hnf (by decide)]; exact congrArg (fun z => oMap _ (rendF B z)) ((rowF_r (f := 1) e1).trans (rowF_r (f := 0) d1))) h4 (fun hq => ?_) ?_ (FM.er hZ (fun k hk => (hfk k (by omega) (by omega)).trans ((congrFun (xu_row (by decide)) k).trans ((hK4 k (by omega)).trans ((xu_oth (by omega)).trans (by repeat rw [xu_row (by decide)]))))) (FM.x130 (FM.xr (FM.xr FM.rf (by unfold fhq fhp; omega)) (by unfold fhq fhp; omega)) (by decide))) FG.rf⟩
              · refine AR_arr (by decide) hA (by omega) hq (fun a a1 a2 a3 => ?_) (fun c hc k => ?_) (fun k hk2 => ?_) ?_ ?_
                · rw [hZ a a1, xu_row a2, xu_row (show ¬ a = 143 from a3 1 (by decide)), xu_row (show ¬ a = 142 from a3 0 (by decide))]
                · have hc : c < 2 := hc
                  rcases c with _ | _ | c
                  · show m' 142 k = if k = 3 + (s.1 5).length then _ else m 142 k
                    rw [congrFun (hZ 142 (by decide)) k, xu_row (a := 130) (by decide), xu_row (a := 143) (by decide), xu_at]
                    rfl
                  · show m' 143 k = if k = 3 + (s.1 5).length then _ else m 143 k
                    rw [congrFun (hZ 143 (by decide)) k, xu_row (a := 130) (by decide), xu_at, xu_row (a := 142) (by decide)]
                    rfl
                  · omega
                · rw [congrFun (hZ 130 (by decide)) k, xu_oth (k := ((9 : Int32) + 5).toNatClampNeg) (fun q => hk2 (q.2.trans (by decide))), xu_row (a := 143) (by decide), xu_row (a := 142) (by decide)]
                · rw [hZ 130 (by decide)]; exact xu_same
                · rw [hfk 21 (by decide) (by decide), xu_row (by decide), hK4 21 (by decide)]; exact xu_same
              · rw [h22, xu_row (by decide), hK4 22 (by decide), xu_oth (by decide)]
      · exact absurd hA.1.1 b71
    · exact absurd rfl b47
  · replace hr := hr.go (s_aload_n t169_35 rfl)
    replace hr := hr.go (s_k t169_36)
    obtain ⟨m1, ⟨h1, hf1⟩, hr⟩ := hr.fvN t169_37 rfl rfl (ct_wrongG (f := 2) hA.1 (by decide) (by decide))
    skip
    replace hr := hr.go (s_goto t169_40)
    replace hr := hr.go (s_aload_n t169_67 rfl)
    replace hr := hr.go (s_getf t169_68)
    rcases hr.zEq t169_71 with ⟨b71, hr⟩ | ⟨b71, hr⟩
    · exact absurd b71 h1.2.1
    · obtain ⟨rfl, hs⟩ := hr.ret t169_74
      exact ⟨_, _, hs, PL_bad (by rw [lin_tab (w := 5) (by decide) hk, tab_full (Nat.le_of_eq (of_decide_eq_true (bI_1 b32)).2.2.symm)]; rfl) h1 (FM.er hf1.1 (fun k hk => hf1.2 k (by omega)) FM.rf) FG.rf⟩
theorem ln1 {nf : Bool} {xs : List Int32} {d : Nat} {g : xL} {G : xG} {r : Option Value} {h' : zH} {N : Nat} {m : xM} {B : eB} {s : eS} (hG : GL G) (hE : EV B) (hA : AR B s m g) (hk : tK B s.2.2.2 = Int32.ofNat (32 + 1)) (hr : RR nf xs d 11 false 6 none zt169 G r h' N (27, [(1, .int 1), (0, .ref 128)], [], m, g)) : ∃ (m' : xM) (g' : xL), HS h' m' g' G ∧ PL B s m g r m' g' := by
  have hL : ∀ u : Nat, 1 ≤ u → u ≤ 5 → m 130 (9 + u) = Int32.ofNat ((fun u => (s.1 u).length) u) ∧ (fun u => (s.1 u).length) u ≤ 8 := fun u u1 u2 => ⟨hA.2.2.1 u u1 u2, by have := hA.2.1 u (by omega); have := (mN_b u).1; dsimp only; omega⟩
  have hLw : m 130 (9 + (1 : Int32)).toNatClampNeg = Int32.ofNat (s.1 1).length := hA.2.2.1 1 (by decide) (by decide)
  have hle : (s.1 1).length ≤ 6 := hA.2.1 1 (by decide)
  replace hr := hr.go (s_aload_n t169_27 rfl)
  replace hr := hr.go (s_iload_n t169_28 rfl)
  replace hr := hr.cvI t169_29 rfl rfl (ct_isFullR (w := 1) (L := (fun u => (s.1 u).length)) hG.2.1 (by decide) hL)
  rw [show fulR (fun u => (s.1 u).length) 1 = decide (1 ≤ 1 ∧ 1 ≤ 5 ∧ (s.1 1).length = mN 1) from rfl] at hr
  rcases hr.zEq t169_32 with ⟨b32, hr⟩ | ⟨b32, hr⟩
  · skip
    replace hr := hr.go (s_iload_n t169_43 rfl)
    replace hr := hr.csI t169_44 rfl rfl (ct_isOnce (w := 1) (by decide))
    rw [show onR 1 = false from by decide] at hr
    rcases hr.zEq t169_47 with ⟨b47, hr⟩ | ⟨b47, hr⟩
    · replace hr := hr.go (s_aload_n t169_67 rfl)
      replace hr := hr.go (s_getf t169_68)
      rcases hr.zEq t169_71 with ⟨b71, hr⟩ | ⟨b71, hr⟩
      · have hnf : ¬ mN 1 ≤ (s.1 1).length := fun q => (of_decide_eq_false (bI_0 b32)) ⟨by decide, by decide, Nat.le_antisymm (hA.2.1 1 (by decide)) q⟩
        replace hr := hr.go (s_aload_n t169_75 rfl)
        replace hr := hr.go (s_dup t169_76 rfl)
        replace hr := hr.go (s_getf t169_77)
        replace hr := hr.go (s_k t169_80)
        replace hr := hr.go (s_iload_n t169_81 rfl)
        replace hr := hr.go (s_ishl t169_82)
        replace hr := hr.go (s_ior t169_83)
        replace hr := hr.go (s_putf t169_84)
        replace hr := hr.go (s_aload_n t169_87 rfl)
        obtain ⟨m2, ⟨h2, hf2⟩, hr⟩ := hr.fvN t169_88 rfl rfl (ct_tokG hG.1 hE (sX_f (k := 21) hA.1 (by decide) (by decide) (by decide)))
        replace h2 : sX B (.inr (s.2.2.2 + 1, s.2.2.1, 0)) m2 := h2
        have hY2 : ∀ a : Nat, ¬ a = 128 → m2 a = m a := fun a ha => (hf2.1 a ha).trans (xu_row ha)
        have hK2 : ∀ k : Nat, ¬ (24 ≤ k ∧ k ≤ 29) → m2 128 k = xu m 128 21 (m 128 21 ||| (1 : Int32) <<< (1 &&& 31)) 128 k := hf2.2
        have hM2 : ∀ a : Nat, ¬ a = 128 → m2 a = m a := hY2
        have hX2 := h2
        replace hr := hr.go (s_iload_n t169_91 rfl)
        replace hr := hr.go (s_tswitch (q := 155) t169_92 (by decide) (by decide) rfl rfl)
        replace hr := hr.go (s_k t169_155)
        replace hr := hr.go (s_aload_n t169_157 rfl)
        replace hr := hr.go (s_k t169_158)
        replace hr := hr.cvI t169_159 rfl rfl (ct_fresher hG.2.1.1 hG.2.1.2.1)
        rw [show (m2) 130 (9 + (1 : Int32)).toNatClampNeg = Int32.ofNat (s.1 1).length from (congrFun (hY2 130 (by decide)) _).trans (hLw)] at hr
        replace hr := hr.go (s_iadd t169_162)
        rw [show (6 : Int32) + Int32.ofNat (s.1 1).length = Int32.ofNat (6 + (s.1 1).length) from xn_add (p := 6)] at hr
        replace hr := hr.go (s_istore_n (ls' := [(2, _), (1, _), (0, _)]) t169_163 rfl)
        replace hr := hr.go (s_aload_n t169_164 rfl)
        replace hr := hr.go (s_getr t169_165 (hG.2.2.1 4 (by decide) (by decide)))
        replace hr := hr.go (s_iload_n t169_168 rfl)
        replace hr := hr.go (s_aload_n t169_169 rfl)
        replace hr := hr.go (s_aload_n t169_170 rfl)
        replace hr := hr.go (s_getr t169_171 (hG.2.2.1 4 (by decide) (by decide)))
        replace hr := hr.go (s_k t169_174)
        replace hr := hr.go (s_aload_n t169_176 rfl)
        replace hr := hr.go (s_k t169_177)
        replace hr := hr.cvI t169_178 rfl rfl (ct_fresher hG.2.1.1 hG.2.1.2.1)
        rw [show (m2) 130 (9 + (1 : Int32)).toNatClampNeg = Int32.ofNat (s.1 1).length from (congrFun (hY2 130 (by decide)) _).trans (hLw)] at hr
        obtain ⟨m3, ⟨h3, hf3⟩, hr⟩ := hr.fvI t169_181 rfl rfl (ct_fresh (a := 131) (fr := 6) (len := 12) (rows := s.1 1) (s := ((s.2.2.2 + 1), s.2.2.1, 0)) hG.1 hE hX2 hG.2.2.2.1 (by omega) (by decide) (fun i hi => (congrFun (hY2 131 (by decide)) _).trans (hA.2.2.2.1 1 (by decide) i hi 0 (by decide))))
        have hW3 : ∀ a : Nat, ¬ a = 128 → m3 a = m a := fun a ha => (hf3.1 a ha).trans (hY2 a ha)
        have hJ3 : ∀ k : Nat, ¬ (24 ≤ k ∧ k ≤ 29) → m3 128 k = xu m 128 21 (m 128 21 ||| (1 : Int32) <<< (1 &&& 31)) 128 k := fun k hk => (hf3.2 k hk).trans (hK2 k hk)
        replace hr := hr.go (s_iastore t169_184)
        rw [xn_nat (show 6 + (s.1 1).length < 2147483648 by omega)] at hr
        have hY3 : ∀ a : Nat, ¬ a = 128 → xu m3 131 (6 + (s.1 1).length) (frV B (s.1 1) ((s.2.2.2 + 1), s.2.2.1, 0)) a = (xu m 131 (6 + (s.1 1).length) (frV B (s.1 1) ((s.2.2.2 + 1), s.2.2.1, 0))) a := xu_er hW3
        have hK3 : ∀ k : Nat, ¬ (24 ≤ k ∧ k ≤ 29) → xu m3 131 (6 + (s.1 1).length) (frV B (s.1 1) ((s.2.2.2 + 1), s.2.2.1, 0)) 128 k = xu m 128 21 (m 128 21 ||| (1 : Int32) <<< (1 &&& 31)) 128 k := fun k hk => (congrFun (xu_row (by decide)) k).trans (hJ3 k hk)
        have hX3 := sX_row h3 (show xu m3 131 (6 + (s.1 1).length) (frV B (s.1 1) ((s.2.2.2 + 1), s.2.2.1, 0)) 128 = m3 128 from xu_row (by decide)) (show xu m3 131 (6 + (s.1 1).length) (frV B (s.1 1) ((s.2.2.2 + 1), s.2.2.1, 0)) 129 = m3 129 from xu_row (by decide))
        replace hr := hr.go (s_aload_n t169_185 rfl)
        replace hr := hr.go (s_getr t169_186 (hG.2.2.1 5 (by decide) (by decide)))
        replace hr := hr.go (s_iload_n t169_189 rfl)
        replace hr := hr.go (s_aload_n t169_190 rfl)
        replace hr := hr.go (s_k t169_191)
        replace hr := hr.go (s_k t169_192)
        obtain ⟨m4, ⟨h4, hf4⟩, hr⟩ := hr.fvI t169_194 rfl rfl (ct_numeral (o := (frO B (s.1 1) ((s.2.2.2 + 1), s.2.2.1, 0))) (lo := 0) (mo := 60) hG.1 hE (by decide) hX3)
        have hW4 : ∀ a : Nat, ¬ a = 128 → m4 a = (xu m 131 (6 + (s.1 1).length) (frV B (s.1 1) ((s.2.2.2 + 1), s.2.2.1, 0))) a := fun a ha => (hf4.1 a ha).trans (hY3 a ha)
        have hJ4 : ∀ k : Nat, ¬ (24 ≤ k ∧ k ≤ 29) → m4 128 k = xu m 128 21 (m 128 21 ||| (1 : Int32) <<< (1 &&& 31)) 128 k := fun k hk => (hf4.2 k hk).trans (hK3 k hk)
        replace hr := hr.go (s_iastore t169_197)
        rw [xn_nat (show 6 + (s.1 1).length < 2147483648 by omega)] at hr
        have hY4 : ∀ a : Nat, ¬ a = 128 → xu m4 132 (6 + (s.1 1).length) (nuV B 0 60 (frO B (s.1 1) ((s.2.2.2 + 1), s.2.2.1, 0))) a = (xu (xu m 131 (6 + (s.1 1).length) (frV B (s.1 1) ((s.2.2.2 + 1), s.2.2.1, 0))) 132 (6 + (s.1 1).length) (nuV B 0 60 (frO B (s.1 1) ((s.2.2.2 + 1), s.2.2.1, 0)))) a := xu_er hW4
        have hK4 : ∀ k : Nat, ¬ (24 ≤ k ∧ k ≤ 29) → xu m4 132 (6 + (s.1 1).length) (nuV B 0 60 (frO B (s.1 1) ((s.2.2.2 + 1), s.2.2.1, 0))) 128 k = xu m 128 21 (m 128 21 ||| (1 : Int32) <<< (1 &&& 31)) 128 k := fun k hk => (congrFun (xu_row (by decide)) k).trans (hJ4 k hk)
        have hX4 := sX_row h4 (show xu m4 132 (6 + (s.1 1).length) (nuV B 0 60 (frO B (s.1 1) ((s.2.2.2 + 1), s.2.2.1, 0))) 128 = m4 128 from xu_row (by decide)) (show xu m4 132 (6 + (s.1 1).length) (nuV B 0 60 (frO B (s.1 1) ((s.2.2.2 + 1), s.2.2.1, 0))) 129 = m4 129 from xu_row (by decide))
        replace hr := hr.go (s_aload_n t169_198 rfl)
        replace hr := hr.go (s_getr t169_199 (hG.2.2.1 6 (by decide) (by decide)))
        replace hr := hr.go (s_iload_n t169_202 rfl)
        replace hr := hr.go (s_aload_n t169_203 rfl)
        replace hr := hr.go (s_k t169_204)
        replace hr := hr.go (s_k t169_205)
        obtain ⟨m5, ⟨h5, hf5⟩, hr⟩ := hr.fvI t169_207 rfl rfl (ct_numeral (o := (nuO B 0 60 (frO B (s.1 1) ((s.2.2.2 + 1), s.2.2.1, 0)))) (lo := 0) (mo := 99) hG.1 hE (by decide) hX4)
        have hW5 : ∀ a : Nat, ¬ a = 128 → m5 a = (xu (xu m 131 (6 + (s.1 1).length) (frV B (s.1 1) ((s.2.2.2 + 1), s.2.2.1, 0))) 132 (6 + (s.1 1).length) (nuV B 0 60 (frO B (s.1 1) ((s.2.2.2 + 1), s.2.2.1, 0)))) a := fun a ha => (hf5.1 a ha).trans (hY4 a ha)
        have hJ5 : ∀ k : Nat, ¬ (24 ≤ k ∧ k ≤ 29) → m5 128 k = xu m 128 21 (m 128 21 ||| (1 : Int32) <<< (1 &&& 31)) 128 k := fun k hk => (hf5.2 k hk).trans (hK4 k hk)
        replace hr := hr.go (s_iastore t169_210)
        rw [xn_nat (show 6 + (s.1 1).length < 2147483648 by omega)] at hr
        have hY5 : ∀ a : Nat, ¬ a = 128 → xu m5 133 (6 + (s.1 1).length) (nuV B 0 99 (nuO B 0 60 (frO B (s.1 1) ((s.2.2.2 + 1), s.2.2.1, 0)))) a = (xu (xu (xu m 131 (6 + (s.1 1).length) (frV B (s.1 1) ((s.2.2.2 + 1), s.2.2.1, 0))) 132 (6 + (s.1 1).length) (nuV B 0 60 (frO B (s.1 1) ((s.2.2.2 + 1), s.2.2.1, 0)))) 133 (6 + (s.1 1).length) (nuV B 0 99 (nuO B 0 60 (frO B (s.1 1) ((s.2.2.2 + 1), s.2.2.1, 0))))) a := xu_er hW5
        have hK5 : ∀ k : Nat, ¬ (24 ≤ k ∧ k ≤ 29) → xu m5 133 (6 + (s.1 1).length) (nuV B 0 99 (nuO B 0 60 (frO B (s.1 1) ((s.2.2.2 + 1), s.2.2.1, 0)))) 128 k = xu m 128 21 (m 128 21 ||| (1 : Int32) <<< (1 &&& 31)) 128 k := fun k hk => (congrFun (xu_row (by decide)) k).trans (hJ5 k hk)
        have hX5 := sX_row h5 (show xu m5 133 (6 + (s.1 1).length) (nuV B 0 99 (nuO B 0 60 (frO B (s.1 1) ((s.2.2.2 + 1), s.2.2.1, 0)))) 128 = m5 128 from xu_row (by decide)) (show xu m5 133 (6 + (s.1 1).length) (nuV B 0 99 (nuO B 0 60 (frO B (s.1 1) ((s.2.2.2 + 1), s.2.2.1, 0)))) 129 = m5 129 from xu_row (by decide))
        replace hr := hr.go (s_aload_n t169_211 rfl)
        replace hr := hr.go (s_getr t169_212 (hG.2.2.1 7 (by decide) (by decide)))
        replace hr := hr.go (s_iload_n t169_215 rfl)
        replace hr := hr.go (s_aload_n t169_216 rfl)
        replace hr := hr.go (s_k t169_217)
        replace hr := hr.go (s_k t169_218)
        obtain ⟨m6, ⟨h6, hf6⟩, hr⟩ := hr.fvI t169_220 rfl rfl (ct_numeral (o := (nuO B 0 99 (nuO B 0 60 (frO B (s.1 1) ((s.2.2.2 + 1), s.2.2.1, 0))))) (lo := 0) (mo := 9) hG.1 hE (by decide) hX5)
        have hW6 : ∀ a : Nat, ¬ a = 128 → m6 a = (xu (xu (xu m 131 (6 + (s.1 1).length) (frV B (s.1 1) ((s.2.2.2 + 1), s.2.2.1, 0))) 132 (6 + (s.1 1).length) (nuV B 0 60 (frO B (s.1 1) ((s.2.2.2 + 1), s.2.2.1, 0)))) 133 (6 + (s.1 1).length) (nuV B 0 99 (nuO B 0 60 (frO B (s.1 1) ((s.2.2.2 + 1), s.2.2.1, 0))))) a := fun a ha => (hf6.1 a ha).trans (hY5 a ha)
        have hJ6 : ∀ k : Nat, ¬ (24 ≤ k ∧ k ≤ 29) → m6 128 k = xu m 128 21 (m 128 21 ||| (1 : Int32) <<< (1 &&& 31)) 128 k := fun k hk => (hf6.2 k hk).trans (hK5 k hk)
        replace hr := hr.go (s_iastore t169_223)
        rw [xn_nat (show 6 + (s.1 1).length < 2147483648 by omega)] at hr
        have hY6 : ∀ a : Nat, ¬ a = 128 → xu m6 134 (6 + (s.1 1).length) (nuV B 0 9 (nuO B 0 99 (nuO B 0 60 (frO B (s.1 1) ((s.2.2.2 + 1), s.2.2.1, 0))))) a = (xu (xu (xu (xu m 131 (6 + (s.1 1).length) (frV B (s.1 1) ((s.2.2.2 + 1), s.2.2.1, 0))) 132 (6 + (s.1 1).length) (nuV B 0 60 (frO B (s.1 1) ((s.2.2.2 + 1), s.2.2.1, 0)))) 133 (6 + (s.1 1).length) (nuV B 0 99 (nuO B 0 60 (frO B (s.1 1) ((s.2.2.2 + 1), s.2.2.1, 0))))) 134 (6 + (s.1 1).length) (nuV B 0 9 (nuO B 0 99 (nuO B 0 60 (frO B (s.1 1) ((s.2.2.2 + 1), s.2.2.1, 0)))))) a := xu_er hW6
        have hK6 : ∀ k : Nat, ¬ (24 ≤ k ∧ k ≤ 29) → xu m6 134 (6 + (s.1 1).length) (nuV B 0 9 (nuO B 0 99 (nuO B 0 60 (frO B (s.1 1) ((s.2.2.2 + 1), s.2.2.1, 0))))) 128 k = xu m 128 21 (m 128 21 ||| (1 : Int32) <<< (1 &&& 31)) 128 k := fun k hk => (congrFun (xu_row (by decide)) k).trans (hJ6 k hk)
        have hX6 := sX_row h6 (show xu m6 134 (6 + (s.1 1).length) (nuV B 0 9 (nuO B 0 99 (nuO B 0 60 (frO B (s.1 1) ((s.2.2.2 + 1), s.2.2.1, 0))))) 128 = m6 128 from xu_row (by decide)) (show xu m6 134 (6 + (s.1 1).length) (nuV B 0 9 (nuO B 0 99 (nuO B 0 60 (frO B (s.1 1) ((s.2.2.2 + 1), s.2.2.1, 0))))) 129 = m6 129 from xu_row (by decide))
        replace hr := hr.go (s_aload_n t169_224 rfl)
        replace hr := hr.go (s_getr t169_225 (hG.2.2.1 8 (by decide) (by decide)))
        replace hr := hr.go (s_iload_n t169_228 rfl)
        replace hr := hr.go (s_aload_n t169_229 rfl)
        replace hr := hr.go (s_k t169_230)
        replace hr := hr.go (s_k t169_231)
        obtain ⟨m7, ⟨h7, hf7⟩, hr⟩ := hr.fvI t169_232 rfl rfl (ct_numeral (o := (nuO B 0 9 (nuO B 0 99 (nuO B 0 60 (frO B (s.1 1) ((s.2.2.2 + 1), s.2.2.1, 0)))))) (lo := 0) (mo := 3) hG.1 hE (by decide) hX6)
        have hW7 : ∀ a : Nat, ¬ a = 128 → m7 a = (xu (xu (xu (xu m 131 (6 + (s.1 1).length) (frV B (s.1 1) ((s.2.2.2 + 1), s.2.2.1, 0))) 132 (6 + (s.1 1).length) (nuV B 0 60 (frO B (s.1 1) ((s.2.2.2 + 1), s.2.2.1, 0)))) 133 (6 + (s.1 1).length) (nuV B 0 99 (nuO B 0 60 (frO B (s.1 1) ((s.2.2.2 + 1), s.2.2.1, 0))))) 134 (6 + (s.1 1).length) (nuV B 0 9 (nuO B 0 99 (nuO B 0 60 (frO B (s.1 1) ((s.2.2.2 + 1), s.2.2.1, 0)))))) a := fun a ha => (hf7.1 a ha).trans (hY6 a ha)
        have hJ7 : ∀ k : Nat, ¬ (24 ≤ k ∧ k ≤ 29) → m7 128 k = xu m 128 21 (m 128 21 ||| (1 : Int32) <<< (1 &&& 31)) 128 k := fun k hk => (hf7.2 k hk).trans (hK6 k hk)
        replace hr := hr.go (s_iastore t169_235)
        rw [xn_nat (show 6 + (s.1 1).length < 2147483648 by omega)] at hr
        have hY7 : ∀ a : Nat, ¬ a = 128 → xu m7 135 (6 + (s.1 1).length) (nuV B 0 3 (nuO B 0 9 (nuO B 0 99 (nuO B 0 60 (frO B (s.1 1) ((s.2.2.2 + 1), s.2.2.1, 0)))))) a = (xu (xu (xu (xu (xu m 131 (6 + (s.1 1).length) (frV B (s.1 1) ((s.2.2.2 + 1), s.2.2.1, 0))) 132 (6 + (s.1 1).length) (nuV B 0 60 (frO B (s.1 1) ((s.2.2.2 + 1), s.2.2.1, 0)))) 133 (6 + (s.1 1).length) (nuV B 0 99 (nuO B 0 60 (frO B (s.1 1) ((s.2.2.2 + 1), s.2.2.1, 0))))) 134 (6 + (s.1 1).length) (nuV B 0 9 (nuO B 0 99 (nuO B 0 60 (frO B (s.1 1) ((s.2.2.2 + 1), s.2.2.1, 0)))))) 135 (6 + (s.1 1).length) (nuV B 0 3 (nuO B 0 9 (nuO B 0 99 (nuO B 0 60 (frO B (s.1 1) ((s.2.2.2 + 1), s.2.2.1, 0))))))) a := xu_er hW7
        have hK7 : ∀ k : Nat, ¬ (24 ≤ k ∧ k ≤ 29) → xu m7 135 (6 + (s.1 1).length) (nuV B 0 3 (nuO B 0 9 (nuO B 0 99 (nuO B 0 60 (frO B (s.1 1) ((s.2.2.2 + 1), s.2.2.1, 0)))))) 128 k = xu m 128 21 (m 128 21 ||| (1 : Int32) <<< (1 &&& 31)) 128 k := fun k hk => (congrFun (xu_row (by decide)) k).trans (hJ7 k hk)
        have hX7 := sX_row h7 (show xu m7 135 (6 + (s.1 1).length) (nuV B 0 3 (nuO B 0 9 (nuO B 0 99 (nuO B 0 60 (frO B (s.1 1) ((s.2.2.2 + 1), s.2.2.1, 0)))))) 128 = m7 128 from xu_row (by decide)) (show xu m7 135 (6 + (s.1 1).length) (nuV B 0 3 (nuO B 0 9 (nuO B 0 99 (nuO B 0 60 (frO B (s.1 1) ((s.2.2.2 + 1), s.2.2.1, 0)))))) 129 = m7 129 from xu_row (by decide))
        replace hr := hr.go (s_aload_n t169_236 rfl)
        replace hr := hr.go (s_k t169_237)
        replace hr := hr.go (s_aload_n t169_238 rfl)
        replace hr := hr.go (s_k t169_239)
        replace hr := hr.cvI t169_240 rfl rfl (ct_fresher hG.2.1.1 hG.2.1.2.1)
        rw [show ((xu m7 135 (6 + (s.1 1).length) (nuV B 0 3 (nuO B 0 9 (nuO B 0 99 (nuO B 0 60 (frO B (s.1 1) ((s.2.2.2 + 1), s.2.2.1, 0)))))))) 130 (9 + (1 : Int32)).toNatClampNeg = Int32.ofNat (s.1 1).length from (congrFun (hY7 130 (by decide)) _).trans ((congrFun (xu_row (by decide)) _).trans ((congrFun (xu_row (by decide)) _).trans ((congrFun (xu_row (by decide)) _).trans ((congrFun (xu_row (by decide)) _).trans ((congrFun (xu_row (by decide)) _).trans (hLw))))))] at hr
        replace hr := hr.go (s_k t169_243)
        replace hr := hr.go (s_iadd t169_244)
        rw [xn_1] at hr
        replace hr := hr.cvN t169_245 rfl rfl (ct_reads hG.2.1.1)
        replace hr := hr.go (s_goto t169_248)
        rcases ch1 (B := B) (rows := s.1 1) (js := s.1 2) (i := s.2.2.2 + 1) (kn := s.2.2.1) with ⟨e, e1, e2⟩ | ⟨e1, e2⟩
        · rw [e2] at hX7
          obtain ⟨rfl, hs⟩ := le485F rfl ((sX_row hX7 (xu_row (by decide)) (xu_row (by decide)))) hr
          refine ⟨_, _, hs, PL_bad ?_ ((sX_row hX7 (xu_row (by decide)) (xu_row (by decide)))) (FM.x130 (FM.er hY7 (fun k hk => (hK7 k (by omega)).trans ((xu_oth (by omega)).trans (by repeat rw [xu_row (by decide)]))) (FM.xr (FM.xr (FM.xr (FM.xr (FM.xr FM.rf (by unfold fhq fhp; omega)) (by unfold fhq fhp; omega)) (by unfold fhq fhp; omega)) (by unfold fhq fhp; omega)) (by unfold fhq fhp; omega))) (by decide)) FG.rf⟩
          rw [lin_tab (w := 1) (by decide) hk, tab_nam hnf (by decide)]
          exact congrArg (fun z => oMap _ (rendF B z)) e1
        · rw [e2] at hX7
          obtain ⟨m', hs, rfl, h4, h22, hfa, hfk⟩ := le485G hG.1 hE rfl ((sX_row hX7 (xu_row (by decide)) (xu_row (by decide)))) hr
          have hZ : ∀ a : Nat, ¬ a = 128 → m' a = xu (xu (xu (xu (xu (xu m 131 (6 + (s.1 1).length) (frV B (s.1 1) ((s.2.2.2 + 1), s.2.2.1, 0))) 132 (6 + (s.1 1).length) (nuV B 0 60 (frO B (s.1 1) ((s.2.2.2 + 1), s.2.2.1, 0)))) 133 (6 + (s.1 1).length) (nuV B 0 99 (nuO B 0 60 (frO B (s.1 1) ((s.2.2.2 + 1), s.2.2.1, 0))))) 134 (6 + (s.1 1).length) (nuV B 0 9 (nuO B 0 99 (nuO B 0 60 (frO B (s.1 1) ((s.2.2.2 + 1), s.2.2.1, 0)))))) 135 (6 + (s.1 1).length) (nuV B 0 3 (nuO B 0 9 (nuO B 0 99 (nuO B 0 60 (frO B (s.1 1) ((s.2.2.2 + 1), s.2.2.1, 0))))))) 130 ((9 : Int32) + 1).toNatClampNeg (Int32.ofNat ((s.1 1).length + 1)) a := fun a ha => (hfa a ha).trans (xu_er hY7 a ha)
          refine ⟨m', _, hs, PL_good (w := 1) (by rw [lin_tab (w := 1) (by decide) hk, tab_nam hnf (by decide)]; exact congrArg (fun z => oMap _ (rendF B z)) e1) h4 (fun hq => ?_) ?_ (FM.er hZ (fun k hk => (hfk k (by omega) (by omega)).trans ((congrFun (xu_row (by decide)) k).trans ((hK7 k (by omega)).trans ((xu_oth (by omega)).trans (by repeat rw [xu_row (by decide)]))))) (FM.x130 (FM.xr (FM.xr (FM.xr (FM.xr (FM.xr FM.rf (by unfold fhq fhp; omega)) (by unfold fhq fhp; omega)) (by unfold fhq fhp; omega)) (by unfold fhq fhp; omega)) (by unfold fhq fhp; omega)) (by decide))) FG.rf⟩
          · refine AR_arr (by decide) hA (by omega) hq (fun a a1 a2 a3 => ?_) (fun c hc k => ?_) (fun k hk2 => ?_) ?_ ?_
            · rw [hZ a a1, xu_row a2, xu_row (show ¬ a = 135 from a3 4 (by decide)), xu_row (show ¬ a = 134 from a3 3 (by decide)), xu_row (show ¬ a = 133 from a3 2 (by decide)), xu_row (show ¬ a = 132 from a3 1 (by decide)), xu_row (show ¬ a = 131 from a3 0 (by decide))]
            · have hc : c < 5 := hc
              rcases c with _ | _ | _ | _ | _ | c
              · show m' 131 k = if k = 6 + (s.1 1).length then _ else m 131 k
                rw [congrFun (hZ 131 (by decide)) k, xu_row (a := 130) (by decide), xu_row (a := 135) (by decide), xu_row (a := 134) (by decide), xu_row (a := 133) (by decide), xu_row (a := 132) (by decide), xu_at]
                rfl
              · show m' 132 k = if k = 6 + (s.1 1).length then _ else m 132 k
                rw [congrFun (hZ 132 (by decide)) k, xu_row (a := 130) (by decide), xu_row (a := 135) (by decide), xu_row (a := 134) (by decide), xu_row (a := 133) (by decide), xu_at, xu_row (a := 131) (by decide)]
                rfl
              · show m' 133 k = if k = 6 + (s.1 1).length then _ else m 133 k
                rw [congrFun (hZ 133 (by decide)) k, xu_row (a := 130) (by decide), xu_row (a := 135) (by decide), xu_row (a := 134) (by decide), xu_at, xu_row (a := 132) (by decide), xu_row (a := 131) (by decide)]
                rfl
              · show m' 134 k = if k = 6 + (s.1 1).length then _ else m 134 k
                rw [congrFun (hZ 134 (by decide)) k, xu_row (a := 130) (by decide), xu_row (a := 135) (by decide), xu_at, xu_row (a := 133) (by decide), xu_row (a := 132) (by decide), xu_row (a := 131) (by decide)]
                rfl
              · show m' 135 k = if k = 6 + (s.1 1).length then _ else m 135 k
                rw [congrFun (hZ 135 (by decide)) k, xu_row (a := 130) (by decide), xu_at, xu_row (a := 134) (by decide), xu_row (a := 133) (by decide), xu_row (a := 132) (by decide), xu_row (a := 131) (by decide)]
                rfl
              · omega
            · rw [congrFun (hZ 130 (by decide)) k, xu_oth (k := ((9 : Int32) + 1).toNatClampNeg) (fun q => hk2 (q.2.trans (by decide))), xu_row (a := 135) (by decide), xu_row (a := 134) (by decide), xu_row (a := 133) (by decide), xu_row (a := 132) (by decide), xu_row (a := 131) (by decide)]
            · rw [hZ 130 (by decide)]; exact xu_same
            · rw [hfk 21 (by decide) (by decide), xu_row (by decide), hK7 21 (by decide)]; exact xu_same
          · rw [h22, xu_row (by decide), hK7 22 (by decide), xu_oth (by decide)]
      · exact absurd hA.1.1 b71
    · exact absurd rfl b47
  · replace hr := hr.go (s_aload_n t169_35 rfl)
    replace hr := hr.go (s_k t169_36)
    obtain ⟨m1, ⟨h1, hf1⟩, hr⟩ := hr.fvN t169_37 rfl rfl (ct_wrongG (f := 2) hA.1 (by decide) (by decide))
    skip
    replace hr := hr.go (s_goto t169_40)
    replace hr := hr.go (s_aload_n t169_67 rfl)
    replace hr := hr.go (s_getf t169_68)
    rcases hr.zEq t169_71 with ⟨b71, hr⟩ | ⟨b71, hr⟩
    · exact absurd b71 h1.2.1
    · obtain ⟨rfl, hs⟩ := hr.ret t169_74
      exact ⟨_, _, hs, PL_bad (by rw [lin_tab (w := 1) (by decide) hk, tab_full (Nat.le_of_eq (of_decide_eq_true (bI_1 b32)).2.2.symm)]; rfl) h1 (FM.er hf1.1 (fun k hk => hf1.2 k (by omega)) FM.rf) FG.rf⟩
end
section
/-! The reference's lines: tellings. -/
theorem ct_goOnG {nf : Bool} {xs : List Int32} {d : Nat} {m : xM} {g : xL} {G : xG} {B : eB} {o : eO} (hG : GM G) (hE : EV B) (h : sX B o m) : CT nf xs d 161 [.ref 128] m g G (PF none g (fun m' => sX B (goF o) m' ∧ rg m m')) := by
  refine CT.of (c := 11) (ini := false) (nL := 1) (rt := none) (tab := zt161) rfl (fun d' r h' N hd hr => ?_)
  replace hr : RR nf xs d' 11 false 1 (none) zt161 G r h' N (0, [(0, .ref 128)], [], m, g) := hr
  replace hr := hr.go (s_aload_n t161_0 rfl)
  replace hr := hr.go (s_getf t161_1)
  cases o with
  | inl e =>
    rcases hr.zNe t161_4 with ⟨b4, hr⟩ | ⟨b4, hr⟩
    · obtain ⟨rfl, hs⟩ := hr.ret t161_11
      exact ⟨_, _, hs, rfl, rfl, h, rg.rfl'⟩
    · exact absurd b4 h.2.1
  | inr t =>
    rcases hr.zNe t161_4 with ⟨b4, hr⟩ | ⟨b4, hr⟩
    · exact absurd h.1 b4
    · replace hr := hr.go (s_aload_n t161_7 rfl)
      obtain ⟨m2, ⟨h2, hf2⟩, hr⟩ := hr.fvN t161_8 rfl rfl (ct_tokG hG hE h)
      obtain ⟨rfl, hs⟩ := hr.ret t161_11
      exact ⟨_, _, hs, rfl, rfl, h2, hf2⟩
/-- a telling, of both sides -/
def telF (B : eB) (rows js : List (List Int32)) (i : Nat) : (Nat × Nat) ⊕ (List Int32 × Nat) := match namF B 3 rows js i with
  | .inl e => .inl e
  | .inr v => rowF B 3 rows 1 1 [v] (i + 1)
def PT (B : eB) (rows js : List (List Int32)) (i kn : Nat) (m : xM) (g : xL) : Option Value → xM → xL → Prop := fun r m' g' => r = none ∧ (FM m m' ∧ FG g g') ∧ match telF B rows js i with
  | .inl e => sX B (.inl e) m'
  | .inr q => sX B (.inr (q.2, kn, 0)) m' ∧ q.2 = i + 2 ∧ ∃ j v : Nat, j < 6 ∧ v ≤ 60 ∧ q.1 = [Int32.ofNat j, Int32.ofNat v] ∧ g' = xu g 139 (6 + j) (g 139 (6 + j) ||| (1 : Int64) <<< ((Int32.ofNat v).toInt64 &&& 63)) ∧ (∀ a : Nat, ¬ a = 128 → m' a = xu m 130 12 (m 130 12 + 1) a) ∧ ∀ k : Nat, ¬ (24 ≤ k ∧ k ≤ 29) → m' 128 k = m 128 k
theorem PT_bad {B : eB} {rows js : List (List Int32)} {i kn : Nat} {m m' : xM} {g g' : xL} {e : Nat × Nat} (h : telF B rows js i = .inl e) (hs : sX B (.inl e) m') (hF : FM m m') (hg : FG g g') : PT B rows js i kn m g none m' g' := by
  refine ⟨rfl, ⟨hF, hg⟩, ?_⟩
  rw [h]
  exact hs
theorem num3_1 {B : eB} {rows : List (List Int32)} {x : Int32} {i : Nat} (h : ¬ tK B i = 2) : numF B 3 1 [x] rows i = .inl (1, i) := by
  unfold numF
  rw [if_pos h]
theorem num3_2 {B : eB} {rows : List (List Int32)} {x : Int32} {i : Nat} (h : tK B i = 2) (h2 : (tV B i).toInt < (0 : Int32).toInt ∨ (60 : Int32).toInt < (tV B i).toInt) : numF B 3 1 [x] rows i = .inl (2, i) := by
  unfold numF
  rw [if_neg (fun q => q h), if_pos (show (tV B i).toInt < (lsV 3 1 [x]).toInt ∨ (mxV 3 1).toInt < (tV B i).toInt from h2)]
theorem num3_3 {B : eB} {rows : List (List Int32)} {x : Int32} {i : Nat} (h : tK B i = 2) (h2 : ¬ ((tV B i).toInt < (0 : Int32).toInt ∨ (60 : Int32).toInt < (tV B i).toInt)) (h3 : tld rows x (tV B i) = true) : numF B 3 1 [x] rows i = .inl (3, i) := by
  unfold numF
  rw [if_neg (fun q => q h), if_neg (show ¬ ((tV B i).toInt < (lsV 3 1 [x]).toInt ∨ (mxV 3 1).toInt < (tV B i).toInt) from h2), if_pos ⟨rfl, h3⟩]
theorem num3_4 {B : eB} {rows : List (List Int32)} {x : Int32} {i : Nat} (h : tK B i = 2) (h2 : ¬ ((tV B i).toInt < (0 : Int32).toInt ∨ (60 : Int32).toInt < (tV B i).toInt)) (h3 : tld rows x (tV B i) = false) : numF B 3 1 [x] rows i = .inr (tV B i) := by
  unfold numF
  rw [if_neg (fun q => q h), if_neg (show ¬ ((tV B i).toInt < (lsV 3 1 [x]).toInt ∨ (mxV 3 1).toInt < (tV B i).toInt) from h2), if_neg (fun q => by
    have q2 : tld rows x (tV B i) = true := q.2
    rw [h3] at q2
    cases q2)]
theorem nv_ge {B : eB} {i : Nat} {so va : Int32} (h : TR (tK B i) (tV B i) so va) (h2 : tK B i = 2) : 0 ≤ (tV B i).toInt := by
  rcases tr_nv h h2 with ⟨q, q1, q2⟩ | ⟨q1, q2⟩ <;> omega
theorem tl114F {nf : Bool} {xs : List Int32} {d : Nat} {g : xL} {G : xG} {r : Option Value} {h' : zH} {N : Nat} {m : xM} {B : eB} {e : Nat × Nat} {y : Int32} (hG : GM G) (hE : EV B) (h : sX B (.inl e) m) (hr : RR nf xs d 11 false 3 none zt170 G r h' N (114, [(1, .int y), (0, .ref 128)], [], m, g)) : ∃ (m' : xM) (g' : xL), HS h' m' g' G ∧ r = none ∧ sX B (.inl e) m' ∧ FM m m' ∧ g' = g := by
  replace hr := hr.go (s_aload_n t170_114 rfl)
  replace hr := hr.go (s_k t170_115)
  replace hr := hr.go (s_k t170_116)
  obtain ⟨m3, ⟨h3, hf3⟩, hr⟩ := hr.fvI t170_118 rfl rfl (ct_numeral (o := .inl e) (lo := 0) (mo := 60) hG hE (by decide) h)
  replace h3 : sX B (.inl e) m3 := h3
  replace hr := hr.go (s_istore_n (ls' := [(2, _), (1, _), (0, _)]) t170_121 rfl)
  replace hr := hr.go (s_aload_n t170_122 rfl)
  replace hr := hr.go (s_getf t170_123)
  rcases hr.zEq t170_126 with ⟨b126, hr⟩ | ⟨b126, hr⟩
  · exact absurd b126 h3.2.1
  · obtain ⟨rfl, hs⟩ := hr.ret t170_129
    exact ⟨_, _, hs, rfl, h3, FM.er hf3.1 (fun k hk => hf3.2 k (by omega)) FM.rf, rfl⟩
theorem tl60F {nf : Bool} {xs : List Int32} {d : Nat} {g : xL} {G : xG} {r : Option Value} {h' : zH} {N : Nat} {m : xM} {B : eB} {e : Nat × Nat} {y : Int32} (hG : GM G) (hE : EV B) (h : sX B (.inl e) m) (hr : RR nf xs d 11 false 3 none zt170 G r h' N (60, [(1, .int y), (0, .ref 128)], [], m, g)) : ∃ (m' : xM) (g' : xL), HS h' m' g' G ∧ r = none ∧ sX B (.inl e) m' ∧ FM m m' ∧ g' = g := by
  replace hr := hr.go (s_aload_n t170_60 rfl)
  obtain ⟨m2, ⟨h2, hf2⟩, hr⟩ := hr.fvN t170_61 rfl rfl (ct_goOnG hG hE h)
  replace h2 : sX B (.inl e) m2 := h2
  replace hr := hr.go (s_aload_n t170_64 rfl)
  replace hr := hr.go (s_getf t170_65)
  rcases hr.zNe t170_68 with ⟨b68, hr⟩ | ⟨b68, hr⟩
  · obtain ⟨m', g', hs, e1, e2, e3, e4⟩ := tl114F hG hE h2 hr
    exact ⟨m', g', hs, e1, e2, (FM.er hf2.1 (fun k hk => hf2.2 k (by omega)) FM.rf).tr e3, e4⟩
  · exact absurd b68 h2.2.1
theorem tl114G {nf : Bool} {xs : List Int32} {d : Nat} {g : xL} {G : xG} {r : Option Value} {h' : zH} {N : Nat} {m : xM} {B : eB} {i kn j : Nat} {rows js : List (List Int32)} (hG : GM G) (hE : EV B) (hN : GK G) (hT : G.1 128 12 = some 139) (hj : j < 6) (h : sX B (.inr (i + 1, kn, 0)) m) (hn : namF B 3 rows js i = .inr (Int32.ofNat j)) (ht : tK B (i + 1) = 2 → (tV B (i + 1)).toInt ≤ 60 → tld rows (Int32.ofNat j) (tV B (i + 1)) = false) (hr : RR nf xs d 11 false 3 none zt170 G r h' N (114, [(1, .int (Int32.ofNat j)), (0, .ref 128)], [], m, g)) : ∃ (m' : xM) (g' : xL), HS h' m' g' G ∧ PT B rows js i kn m g r m' g' := by
  have hte : telF B rows js i = rowF B 3 rows 1 1 [Int32.ofNat j] (i + 1) := by unfold telF; rw [hn]
  replace hr := hr.go (s_aload_n t170_114 rfl)
  replace hr := hr.go (s_k t170_115)
  replace hr := hr.go (s_k t170_116)
  obtain ⟨m3, ⟨h3, hf3⟩, hr⟩ := hr.fvI t170_118 rfl rfl (ct_numeral (o := .inr (i + 1, kn, 0)) (lo := 0) (mo := 60) hG hE (by decide) h)
  skip
  replace hr := hr.go (s_istore_n (ls' := [(2, _), (1, _), (0, _)]) t170_121 rfl)
  replace hr := hr.go (s_aload_n t170_122 rfl)
  replace hr := hr.go (s_getf t170_123)
  by_cases c2 : tK B (i + 1) = 2
  · have hb := nv_ge (B := B) (i := i + 1) h.2.1.2.2.2.2 c2
    by_cases c3 : (tV B (i + 1)).toInt < (0 : Int32).toInt ∨ (60 : Int32).toInt < (tV B (i + 1)).toInt
    · have e1 : nuO B 0 60 (.inr (i + 1, kn, 0)) = .inl (2, i + 1) := by unfold nuO; dsimp only; rw [if_neg (fun q => q c2), if_pos c3]
      rw [e1] at h3
      rcases hr.zEq t170_126 with ⟨b, hr⟩ | ⟨b, hr⟩
      · exact absurd b h3.2.1
      · obtain ⟨rfl, hs⟩ := hr.ret t170_129
        exact ⟨_, _, hs, PT_bad (hte.trans (rowF_l (f := 0) (num3_2 c2 c3))) h3 (FM.er hf3.1 (fun k hk => hf3.2 k (by omega)) FM.rf) FG.rf⟩
    · have e1 : nuO B 0 60 (.inr (i + 1, kn, 0)) = .inr (i + 2, kn, 0) := by unfold nuO; dsimp only; rw [if_neg (fun q => q c2), if_neg c3]
      have e2 : nuV B 0 60 (.inr (i + 1, kn, 0)) = tV B (i + 1) := by unfold nuV; dsimp only; rw [if_neg (fun q => q c2), if_neg c3]
      have k60 : (60 : Int32).toInt = 60 := rfl
      have hv : (tV B (i + 1)).toInt ≤ 60 := by omega
      rw [e1] at h3
      rw [e2] at hr
      rcases hr.zEq t170_126 with ⟨b, hr⟩ | ⟨b, hr⟩
      · replace hr := hr.go (s_aload_n t170_130 rfl)
        replace hr := hr.go (s_getr t170_131 (hT))
        replace hr := hr.go (s_k t170_134)
        replace hr := hr.go (s_iload_n t170_136 rfl)
        replace hr := hr.go (s_iadd t170_137)
        rw [show (6 : Int32) + Int32.ofNat j = Int32.ofNat (6 + j) from xn_add (p := 6)] at hr
        replace hr := hr.go (s_dup2 t170_138)
        replace hr := hr.go (s_laload t170_139)
        rw [xn_nat (show 6 + j < 2147483648 by omega)] at hr
        replace hr := hr.go (s_lconst t170_140)
        replace hr := hr.go (s_iload_n t170_141 rfl)
        replace hr := hr.go (s_lshl t170_142)
        replace hr := hr.go (s_lor t170_143)
        replace hr := hr.go (s_lastore t170_144)
        rw [xn_nat (show 6 + j < 2147483648 by omega)] at hr
        replace hr := hr.go (s_aload_n t170_145 rfl)
        replace hr := hr.go (s_k t170_146)
        replace hr := hr.go (s_aload_n t170_147 rfl)
        replace hr := hr.go (s_k t170_148)
        replace hr := hr.cvI t170_149 rfl rfl (ct_fresher hN.1 hN.2.1)
        replace hr := hr.go (s_k t170_152)
        replace hr := hr.go (s_iadd t170_153)
        replace hr := hr.cvN t170_154 rfl rfl (ct_reads hN.1)
        obtain ⟨rfl, hs⟩ := hr.ret t170_157
        obtain ⟨v, hv2, hv3⟩ : ∃ v : Nat, tV B (i + 1) = Int32.ofNat v ∧ v ≤ 60 := ⟨_, xn_of hb, by rw [Int32.toNatClampNeg]; omega⟩
        refine ⟨_, _, hs, rfl, ⟨FM.x130 (FM.er hf3.1 (fun k hk => hf3.2 k (by omega)) FM.rf) (by decide), FG.x (by omega)⟩, ?_⟩
        have e3 : telF B rows js i = .inr ([Int32.ofNat j, tV B (i + 1)], i + 2) := by
          rw [hte]
          exact (rowF_r (f := 0) (v := tV B (i + 1)) (num3_4 c2 c3 (ht c2 hv))).trans rfl
        rw [e3]
        refine ⟨sX_row h3 (xu_row (by decide)) (xu_row (by decide)), rfl, j, v, hj, hv3, by rw [hv2], ?_, fun a a1 => ?_, fun k k1 => ?_⟩
        · rw [hv2]; rfl
        · rw [hf3.1 130 (by decide)]
          exact xu_er hf3.1 a a1
        · rw [xu_row (by decide)]; exact hf3.2 k k1
      · exact absurd h3.1 b
  · have e1 : nuO B 0 60 (.inr (i + 1, kn, 0)) = .inl (1, i + 1) := by unfold nuO; dsimp only; rw [if_pos c2]
    rw [e1] at h3
    rcases hr.zEq t170_126 with ⟨b, hr⟩ | ⟨b, hr⟩
    · exact absurd b h3.2.1
    · obtain ⟨rfl, hs⟩ := hr.ret t170_129
      exact ⟨_, _, hs, PT_bad (hte.trans (rowF_l (f := 0) (num3_1 c2))) h3 (FM.er hf3.1 (fun k hk => hf3.2 k (by omega)) FM.rf) FG.rf⟩
theorem tl60G {nf : Bool} {xs : List Int32} {d : Nat} {g : xL} {G : xG} {r : Option Value} {h' : zH} {N : Nat} {m : xM} {B : eB} {i kn j : Nat} {rows js : List (List Int32)} (hG : GM G) (hE : EV B) (hN : GK G) (hT : G.1 128 12 = some 139) (hj : j < 6) (h : sX B (.inr (i, kn, 0)) m) (hn : namF B 3 rows js i = .inr (Int32.ofNat j)) (hb : ∀ v : Nat, v ≤ 60 → bl (g 139 (6 + j)) v = tld rows (Int32.ofNat j) (Int32.ofNat v)) (hr : RR nf xs d 11 false 3 none zt170 G r h' N (60, [(1, .int (Int32.ofNat j)), (0, .ref 128)], [], m, g)) : ∃ (m' : xM) (g' : xL), HS h' m' g' G ∧ PT B rows js i kn m g r m' g' := by
  have k60 : (60 : Int32).toInt = 60 := rfl
  have hte : telF B rows js i = rowF B 3 rows 1 1 [Int32.ofNat j] (i + 1) := by unfold telF; rw [hn]
  replace hr := hr.go (s_aload_n t170_60 rfl)
  obtain ⟨m2, ⟨h2, hf2⟩, hr⟩ := hr.fvN t170_61 rfl rfl (ct_goOnG hG hE h)
  replace h2 : sX B (.inr (i + 1, kn, 0)) m2 := h2
  have fin : ∀ (N' : Nat), (tK B (i + 1) = 2 → (tV B (i + 1)).toInt ≤ 60 → tld rows (Int32.ofNat j) (tV B (i + 1)) = false) → RR nf xs d 11 false 3 none zt170 G r h' N' (114, [(1, .int (Int32.ofNat j)), (0, .ref 128)], [], m2, g) → ∃ (m' : xM) (g' : xL), HS h' m' g' G ∧ PT B rows js i kn m g r m' g' := by
    intro N' ht hr
    obtain ⟨m', g', hs, hp⟩ := tl114G hG hE hN hT hj h2 hn ht hr
    refine ⟨m', g', hs, hp.1, ⟨(FM.er hf2.1 (fun k hk => hf2.2 k (by omega)) FM.rf).tr hp.2.1.1, hp.2.1.2⟩, ?_⟩
    have hp := hp.2.2
    split
    · next e he =>
      rw [he] at hp
      exact hp
    · next q he =>
      rw [he] at hp
      obtain ⟨p1, p2, j', v', p3, p4, p5, p6, p7, p8⟩ := hp
      refine ⟨p1, p2, j', v', p3, p4, p5, p6, fun a a1 => ?_, fun k k1 => (p8 k k1).trans (hf2.2 k k1)⟩
      rw [p7 a a1, hf2.1 130 (by decide)]
      exact xu_er hf2.1 a a1
  have tr : TR (tK B (i + 1)) (tV B (i + 1)) (m2 128 26) (m2 128 27) := h2.2.1.2.2.2.2
  replace hr := hr.go (s_aload_n t170_64 rfl)
  replace hr := hr.go (s_getf t170_65)
  rcases hr.zNe t170_68 with ⟨b68, hr⟩ | ⟨b68, hr⟩
  · exact absurd h2.1 b68
  · replace hr := hr.go (s_aload_n t170_71 rfl)
    replace hr := hr.go (s_getf t170_72)
    replace hr := hr.go (s_k t170_75)
    rcases hr.bNe t170_76 with ⟨b76, hr⟩ | ⟨b76, hr⟩
    · exact fin _ (fun q => absurd ((tr_num tr).mpr q) b76) hr
    · replace hr := hr.go (s_aload_n t170_79 rfl)
      replace hr := hr.go (s_getf t170_80)
      replace hr := hr.go (s_k t170_83)
      have c2 : tK B (i + 1) = 2 := (tr_num tr).mp b76
      have nvv := tr_nv tr c2
      rcases hr.bGt t170_85 with ⟨b85, hr⟩ | ⟨b85, hr⟩
      · refine fin _ (fun _ q => ?_) hr
        rcases nvv with ⟨q1, q2, q3⟩ | ⟨q1, q2⟩
        · rw [q1] at q; omega
        · omega
      · have ev : m2 128 27 = tV B (i + 1) := nv_eq (mo := 60) nvv (by decide) (by omega)
        have hb0 : 0 ≤ (tV B (i + 1)).toInt := nv_ge tr c2
        obtain ⟨v, hv2, hv3⟩ : ∃ v : Nat, tV B (i + 1) = Int32.ofNat v ∧ v ≤ 60 := ⟨_, xn_of hb0, by rw [Int32.toNatClampNeg, ← ev]; omega⟩
        replace hr := hr.go (s_aload_n t170_88 rfl)
        replace hr := hr.go (s_getr t170_89 (hT))
        replace hr := hr.go (s_k t170_92)
        replace hr := hr.go (s_iload_n t170_94 rfl)
        replace hr := hr.go (s_iadd t170_95)
        rw [show (6 : Int32) + Int32.ofNat j = Int32.ofNat (6 + j) from xn_add (p := 6)] at hr
        replace hr := hr.go (s_laload t170_96)
        rw [xn_nat (show 6 + j < 2147483648 by omega)] at hr
        replace hr := hr.go (s_aload_n t170_97 rfl)
        replace hr := hr.go (s_getf t170_98)
        rw [ev, hv2] at hr
        replace hr := hr.go (s_lshr t170_101)
        replace hr := hr.go (s_lconst t170_102)
        replace hr := hr.go (s_land t170_103)
        replace hr := hr.go (s_lconst t170_104)
        replace hr := hr.go (s_lcmp t170_105)
        rcases hr.zNe t170_106 with ⟨b106, hr⟩ | ⟨b106, hr⟩
        · refine fin _ (fun _ _ => ?_) hr
          rw [hv2, ← hb v hv3]
          cases hq : bl (g 139 (6 + j)) v with
          | false => rfl
          | true => exact absurd (cmp_1.mpr ((bl_tst (by omega)).mpr hq)) b106
        · have hq : bl (g 139 (6 + j)) v = true := (bl_tst (by omega)).mp (cmp_1.mp b106)
          replace hr := hr.go (s_aload_n t170_109 rfl)
          replace hr := hr.go (s_k t170_110)
          obtain ⟨m3, ⟨h3, hf3⟩, hr⟩ := hr.fvN t170_111 rfl rfl (ct_wrongG (f := 3) h2 (by decide) (by decide))
          replace h3 : sX B (.inl (3, i + 1)) m3 := h3
          obtain ⟨m4, g4, hs, rfl, h4, hF, hg⟩ := tl114F hG hE h3 hr
          exact ⟨m4, g4, hs, PT_bad (hte.trans (rowF_l (f := 0) (num3_3 c2 (fun q => by rw [show (0 : Int32).toInt = 0 from rfl, show (60 : Int32).toInt = 60 from rfl, hv2, xn_int (by omega)] at q; omega) (by rw [hv2, ← hb v hv3]; exact hq)))) h4 ((FM.er hf2.1 (fun k hk => hf2.2 k (by omega)) FM.rf).tr ((FM.er hf3.1 (fun k hk => hf3.2 k (by omega)) FM.rf).tr hF)) (FG.of hg)⟩
theorem ct_tellLine {nf : Bool} {xs : List Int32} {d : Nat} {m : xM} {g : xL} {G : xG} {B : eB} {i kn : Nat} {rows js : List (List Int32)} (hG : GM G) (hE : EV B) (hN : GK G) (hT : G.1 128 12 = some 139) (hJ : G.1 128 9 = some 136) (hJ2 : G.2 136 = (0, 1, 12)) (h : sX B (.inr (i, kn, 0)) m) (h2 : m 130 ((9 : Int32) + 2).toNatClampNeg = Int32.ofNat js.length) (hl : js.length ≤ 6) (hrow : ∀ r : Nat, r < js.length → m 136 (6 + r) = (js.getD r []).getD 0 0) (hb : ∀ j : Nat, j < 6 → ∀ v : Nat, v ≤ 60 → bl (g 139 (6 + j)) v = tld rows (Int32.ofNat j) (Int32.ofNat v)) : CT nf xs d 170 [.ref 128] m g G (PT B rows js i kn m g) := by
  refine CT.of (c := 11) (ini := false) (nL := 3) (rt := none) (tab := zt170) rfl (fun d' r h' N hd hr => ?_)
  replace hr : RR nf xs d' 11 false 3 none zt170 G r h' N (0, [(0, .ref 128)], [], m, g) := hr
  have tr : TR (tK B i) (tV B i) (m 128 26) (m 128 27) := h.2.1.2.2.2.2
  replace hr := hr.go (s_aload_n t170_0 rfl)
  replace hr := hr.go (s_getf t170_1)
  replace hr := hr.go (s_k t170_4)
  by_cases c3 : tK B i = 3
  · rcases hr.bEq t170_5 with ⟨b5, hr⟩ | ⟨b5, hr⟩
    · replace hr := hr.go (s_aload_n t170_13 rfl)
      replace hr := hr.go (s_getf t170_14)
      rcases hr.zNe t170_17 with ⟨b17, hr⟩ | ⟨b17, hr⟩
      · exact absurd h.1 b17
      · replace hr := hr.go (s_aload_n t170_20 rfl)
        replace hr := hr.go (s_getr t170_21 (hJ))
        replace hr := hr.go (s_k t170_24)
        replace hr := hr.go (s_aload_n t170_26 rfl)
        replace hr := hr.go (s_k t170_27)
        replace hr := hr.cvI t170_28 rfl rfl (ct_fresher hN.1 hN.2.1)
        rw [h2] at hr
        replace hr := hr.go (s_aload_n t170_31 rfl)
        replace hr := hr.go (s_getf t170_32)
        rw [tr_nm tr c3] at hr
        replace hr := hr.csI t170_35 rfl rfl (ct_found (a := 136) (fr := 6) (len := 12) (rows := js) hJ2 (by omega) (by decide) hrow)
        replace hr := hr.go (s_goto t170_38)
        cases hf : fnd (tV B i) js 0 with
        | none =>
          have hn : namF B 3 rows js i = .inl (4, i) := by unfold namF; rw [if_neg (fun q => q c3), if_pos rfl, hf]
          rw [hf] at hr
          replace hr : RR nf xs d' 11 false 3 none zt170 G r h' N (42, [(0, .ref 128)], [.int (-1)], m, g) := hr
          replace hr := hr.go (s_istore_n (ls' := [(1, _), (0, _)]) t170_42 rfl)
          replace hr := hr.go (s_aload_n t170_43 rfl)
          replace hr := hr.go (s_getf t170_44)
          rcases hr.zNe t170_47 with ⟨b47, hr⟩ | ⟨b47, hr⟩
          · exact absurd h.1 b47
          · replace hr := hr.go (s_iload_n t170_50 rfl)
            replace hr := hr.go (s_k t170_51)
            rcases hr.bNe t170_52 with ⟨b52, hr⟩ | ⟨b52, hr⟩
            · exact absurd b52 (by decide)
            · replace hr := hr.go (s_aload_n t170_55 rfl)
              replace hr := hr.go (s_k t170_56)
              obtain ⟨m3, ⟨h3, hf3⟩, hr⟩ := hr.fvN t170_57 rfl rfl (ct_wrongG (f := 4) h (by decide) (by decide))
              replace h3 : sX B (.inl (4, i)) m3 := h3
              obtain ⟨m4, g4, hs, rfl, h4, hF, hg⟩ := tl60F hG hE h3 hr
              exact ⟨m4, g4, hs, PT_bad (by unfold telF; rw [hn]) h4 ((FM.er hf3.1 (fun k hk => hf3.2 k (by omega)) FM.rf).tr hF) (FG.of hg)⟩
        | some j =>
          have hj := fnd_lt js 0 j hf
          have hn : namF B 3 rows js i = .inr (Int32.ofNat j) := by unfold namF; rw [if_neg (fun q => q c3), if_pos rfl, hf]
          rw [hf] at hr
          replace hr : RR nf xs d' 11 false 3 none zt170 G r h' N (42, [(0, .ref 128)], [.int (Int32.ofNat j)], m, g) := hr
          replace hr := hr.go (s_istore_n (ls' := [(1, _), (0, _)]) t170_42 rfl)
          replace hr := hr.go (s_aload_n t170_43 rfl)
          replace hr := hr.go (s_getf t170_44)
          rcases hr.zNe t170_47 with ⟨b47, hr⟩ | ⟨b47, hr⟩
          · exact absurd h.1 b47
          · replace hr := hr.go (s_iload_n t170_50 rfl)
            replace hr := hr.go (s_k t170_51)
            rcases hr.bNe t170_52 with ⟨b52, hr⟩ | ⟨b52, hr⟩
            · exact tl60G hG hE hN hT (by omega) h hn (hb j (by omega)) hr
            · exact absurd (congrArg Int32.toInt b52) (by rw [xn_int (by omega)]; have : (-1 : Int32).toInt = -1 := rfl; omega)
    · exact absurd ((tr_name tr).mpr c3) b5
  · have hn : namF B 3 rows js i = .inl (1, i) := by unfold namF; rw [if_pos c3]
    rcases hr.bEq t170_5 with ⟨b5, hr⟩ | ⟨b5, hr⟩
    · exact absurd ((tr_name tr).mp b5) c3
    · replace hr := hr.go (s_aload_n t170_8 rfl)
      replace hr := hr.go (s_k t170_9)
      obtain ⟨m3, ⟨h3, hf3⟩, hr⟩ := hr.fvN t170_10 rfl rfl (ct_wrongG (f := 1) h (by decide) (by decide))
      replace h3 : sX B (.inl (1, i)) m3 := h3
      replace hr := hr.go (s_aload_n t170_13 rfl)
      replace hr := hr.go (s_getf t170_14)
      rcases hr.zNe t170_17 with ⟨b17, hr⟩ | ⟨b17, hr⟩
      · replace hr := hr.go (s_k t170_41)
        replace hr := hr.go (s_istore_n (ls' := [(1, _), (0, _)]) t170_42 rfl)
        replace hr := hr.go (s_aload_n t170_43 rfl)
        replace hr := hr.go (s_getf t170_44)
        rcases hr.zNe t170_47 with ⟨b47, hr⟩ | ⟨b47, hr⟩
        · obtain ⟨m4, g4, hs, rfl, h4, hF, hg⟩ := tl60F hG hE h3 hr
          exact ⟨m4, g4, hs, PT_bad (by unfold telF; rw [hn]) h4 ((FM.er hf3.1 (fun k hk => hf3.2 k (by omega)) FM.rf).tr hF) (FG.of hg)⟩
        · exact absurd b47 h3.2.1
      · exact absurd b17 h3.2.1
end
section
/-! The reference's lines: tell, law; all of them. -/
theorem tld_app {rows : List (List Int32)} {j v x y : Int32} : tld (rows ++ [[x, y]]) j v = (tld rows j v || (decide (x = j) && decide (y = v))) := by
  unfold tld
  rw [List.any_append]
  show (_ || ((decide (x = j) && decide (y = v)) || false)) = _
  rw [Bool.or_false]
theorem AR_tell {B : eB} {s : eS} {m m' : xM} {g g' : xL} {i j v : Nat} (hA : AR B s m g) (hlt : (s.1 3).length < 8) (h1 : sX B (.inr (i, s.2.2.1, 0)) m') (hj : j < 6) (hv : v ≤ 60) (hg : g' = xu g 139 (6 + j) (g 139 (6 + j) ||| (1 : Int64) <<< ((Int32.ofNat v).toInt64 &&& 63))) (hr : ∀ a : Nat, ¬ a = 128 → ¬ a = 130 → m' a = m a) (h130 : ∀ k : Nat, ¬ k = 12 → m' 130 k = m 130 k) (hn : m' 130 12 = m 130 12 + 1) (h21 : m' 128 21 = m 128 21 ||| (1 : Int32) <<< (Int32.ofNat 3 &&& 31)) : AR B (eup s.1 3 (s.1 3 ++ [[Int32.ofNat j, Int32.ofNat v]]), s.2.1, s.2.2.1, i) m' g' := by
  obtain ⟨-, a2, a3, a4, a5, a6, a7⟩ := hA
  have en : ∀ u : Nat, ¬ u = 3 → eup s.1 3 (s.1 3 ++ [[Int32.ofNat j, Int32.ofNat v]]) u = s.1 u := fun u hu => if_neg hu
  have ew : eup s.1 3 (s.1 3 ++ [[Int32.ofNat j, Int32.ofNat v]]) 3 = s.1 3 ++ [[Int32.ofNat j, Int32.ofNat v]] := if_pos rfl
  have el : (s.1 3 ++ [[Int32.ofNat j, Int32.ofNat v]]).length = (s.1 3).length + 1 := by rw [List.length_append]; rfl
  refine ⟨h1, fun u hu => ?_, fun u u1 u2 => ?_, fun u hu r hr2 c hc => ?_, fun u hu => ?_, fun k hk => ?_, fun i hi x hx => ?_⟩
  · show (eup s.1 3 (s.1 3 ++ [[Int32.ofNat j, Int32.ofNat v]]) u).length ≤ _
    by_cases e : u = 3
    · rw [e, ew, el]; show _ ≤ 8; omega
    · rw [en u e]; exact a2 u hu
  · show _ = Int32.ofNat (eup s.1 3 (s.1 3 ++ [[Int32.ofNat j, Int32.ofNat v]]) u).length
    by_cases e : u = 3
    · rw [e, ew, el, hn, a3 3 (by decide) (by decide)]; exact xn_1
    · rw [en u e, h130 _ (by omega)]
      exact a3 u u1 u2
  · have hu' : ¬ u = 3 := by omega
    have hr2 : r < (eup s.1 3 (s.1 3 ++ [[Int32.ofNat j, Int32.ofNat v]]) u).length := hr2
    rw [en u hu'] at hr2
    show _ = ((eup s.1 3 (s.1 3 ++ [[Int32.ofNat j, Int32.ofNat v]]) u).getD r []).getD c 0
    rw [en u hu', hr _ (by have := ar_b hu hc; omega) (by have := ar_b hu hc; omega)]
    exact a4 u hu r hr2 c hc
  · show _ = tpV (df u) (eup s.1 3 (s.1 3 ++ [[Int32.ofNat j, Int32.ofNat v]]) u) ∧ _ = decide (1 ≤ (eup s.1 3 (s.1 3 ++ [[Int32.ofNat j, Int32.ofNat v]]) u).length)
    rw [en u (by omega), h130 _ (by omega), h21, told_k (by omega) (by omega) (by omega)]
    exact a5 u hu
  · rw [h21, told_k (by omega) (by omega) (by omega)]
    exact a6 k hk
  · show _ = tld (eup s.1 3 (s.1 3 ++ [[Int32.ofNat j, Int32.ofNat v]]) 3) _ _
    rw [ew, tld_app, ← a7 i hi x hx, hg]
    by_cases e : i = j
    · subst e
      rw [xu_same, bl_set (by omega) (by omega), decide_eq_true (p := Int32.ofNat i = Int32.ofNat i) rfl, Bool.true_and]
      congr 1
      by_cases e2 : v = x
      · rw [e2, decide_eq_true rfl, decide_eq_true rfl]
      · rw [decide_eq_false e2, decide_eq_false (fun q => e2 (xn_inj (by omega) (by omega) q))]
    · rw [xu_oth (by omega), decide_eq_false (p := Int32.ofNat j = Int32.ofNat i) (fun q => e (xn_inj (by omega) (by omega) q).symm), Bool.false_and, Bool.or_false]
theorem ln3 {nf : Bool} {xs : List Int32} {d : Nat} {g : xL} {G : xG} {r : Option Value} {h' : zH} {N : Nat} {m : xM} {B : eB} {s : eS} (hG : GL G) (hE : EV B) (hA : AR B s m g) (hk : tK B s.2.2.2 = Int32.ofNat (32 + 3)) (hr : RR nf xs d 11 false 6 none zt169 G r h' N (27, [(1, .int 3), (0, .ref 128)], [], m, g)) : ∃ (m' : xM) (g' : xL), HS h' m' g' G ∧ PL B s m g r m' g' := by
  have hL : ∀ u : Nat, 1 ≤ u → u ≤ 5 → m 130 (9 + u) = Int32.ofNat ((fun u => (s.1 u).length) u) ∧ (fun u => (s.1 u).length) u ≤ 8 := fun u u1 u2 => ⟨hA.2.2.1 u u1 u2, by have := hA.2.1 u (by omega); have := (mN_b u).1; dsimp only; omega⟩
  replace hr := hr.go (s_aload_n t169_27 rfl)
  replace hr := hr.go (s_iload_n t169_28 rfl)
  replace hr := hr.cvI t169_29 rfl rfl (ct_isFullR (w := 3) (L := (fun u => (s.1 u).length)) hG.2.1 (by decide) hL)
  rw [show fulR (fun u => (s.1 u).length) 3 = decide (1 ≤ 3 ∧ 3 ≤ 5 ∧ (s.1 3).length = mN 3) from rfl] at hr
  rcases hr.zEq t169_32 with ⟨b32, hr⟩ | ⟨b32, hr⟩
  · skip
    replace hr := hr.go (s_iload_n t169_43 rfl)
    replace hr := hr.csI t169_44 rfl rfl (ct_isOnce (w := 3) (by decide))
    rw [show onR 3 = false from by decide] at hr
    rcases hr.zEq t169_47 with ⟨b47, hr⟩ | ⟨b47, hr⟩
    · replace hr := hr.go (s_aload_n t169_67 rfl)
      replace hr := hr.go (s_getf t169_68)
      rcases hr.zEq t169_71 with ⟨b71, hr⟩ | ⟨b71, hr⟩
      · have hnf : ¬ mN 3 ≤ (s.1 3).length := fun q => (of_decide_eq_false (bI_0 b32)) ⟨by decide, by decide, Nat.le_antisymm (hA.2.1 3 (by decide)) q⟩
        have hlt : (s.1 3).length < 8 := Nat.lt_of_not_le hnf
        replace hr := hr.go (s_aload_n t169_75 rfl)
        replace hr := hr.go (s_dup t169_76 rfl)
        replace hr := hr.go (s_getf t169_77)
        replace hr := hr.go (s_k t169_80)
        replace hr := hr.go (s_iload_n t169_81 rfl)
        replace hr := hr.go (s_ishl t169_82)
        replace hr := hr.go (s_ior t169_83)
        replace hr := hr.go (s_putf t169_84)
        replace hr := hr.go (s_aload_n t169_87 rfl)
        obtain ⟨m2, ⟨h2, hf2⟩, hr⟩ := hr.fvN t169_88 rfl rfl (ct_tokG hG.1 hE (sX_f (k := 21) hA.1 (by decide) (by decide) (by decide)))
        replace h2 : sX B (.inr (s.2.2.2 + 1, s.2.2.1, 0)) m2 := h2
        have hY2 : ∀ a : Nat, ¬ a = 128 → m2 a = m a := fun a ha => (hf2.1 a ha).trans (xu_row ha)
        have hK2 : ∀ k : Nat, ¬ (24 ≤ k ∧ k ≤ 29) → m2 128 k = xu m 128 21 (m 128 21 ||| (1 : Int32) <<< (3 &&& 31)) 128 k := hf2.2
        replace hr := hr.go (s_iload_n t169_91 rfl)
        replace hr := hr.go (s_tswitch (q := 321) t169_92 (by decide) (by decide) rfl rfl)
        replace hr := hr.go (s_aload_n t169_321 rfl)
        obtain ⟨_, m3, g3, hP, hr⟩ := hr.callv t169_322 rfl rfl (ct_tellLine (i := s.2.2.2 + 1) (kn := s.2.2.1) (rows := s.1 3) (js := s.1 2) hG.1 hE hG.2.1 (hG.2.2.1 12 (by decide) (by decide)) (hG.2.2.1 9 (by decide) (by decide)) hG.2.2.2.2.1 h2 ((congrFun (hY2 130 (by decide)) _).trans (hA.2.2.1 2 (by decide) (by decide))) (hA.2.1 2 (by decide)) (fun r hr2 => (congrFun (hY2 136 (by decide)) _).trans (hA.2.2.2.1 2 (by decide) r hr2 0 (by decide))) (fun j hj v hv => hA.2.2.2.2.2.2 j hj v (by omega)))
        obtain ⟨rfl, ⟨hFM, hFG⟩, hP⟩ := hP
        replace hr : RR nf xs d 11 false 6 none zt169 G r h' N (325, [(1, .int 3), (0, .ref 128)], [], m3, g3) := hr
        replace hr := hr.go (s_goto t169_325)
        have hlin : linF B s = oMap (fun q => (eup s.1 3 (s.1 3 ++ [q.1]), s.2.1, s.2.2.1, q.2)) (rendF B (telF B (s.1 3) (s.1 2) (s.2.2.2 + 1))) := by
          rw [lin_tab (w := 3) (by decide) hk, tab_nam hnf (by decide)]
          rfl
        split at hP
        · next e he =>
          obtain ⟨rfl, hs⟩ := le485F rfl hP hr
          exact ⟨_, _, hs, PL_bad (by rw [hlin, he]; rfl) hP ((FM.er hY2 (fun k hk => (hf2.2 k (by omega)).trans (xu_oth (by omega))) FM.rf).tr hFM) hFG⟩
        · next q he =>
          obtain ⟨p1, p2, j, v, p3, p4, p5, p6, p7, p8⟩ := hP
          obtain ⟨m', hs, rfl, h4, h22, hfa, hfk⟩ := le485G hG.1 hE rfl p1 hr
          refine ⟨m', _, hs, PL_good (w := 3) (row := q.1) (j := q.2) (by rw [hlin, he]) h4 (fun hq => ?_) ?_ (FM.er hfa (fun k hk => hfk k (by omega) (by omega)) ((FM.er hY2 (fun k hk => (hf2.2 k (by omega)).trans (xu_oth (by omega))) FM.rf).tr hFM)) hFG⟩
          · rw [p5]
            refine AR_tell hA hlt hq p3 p4 p6 (fun a a1 a2 => ?_) (fun k hk2 => ?_) ?_ ?_
            · rw [hfa a a1, p7 a a1, xu_row a2, hY2 a a1]
            · rw [hfa 130 (by decide), p7 130 (by decide), xu_oth (fun z => hk2 z.2), hY2 130 (by decide)]
            · rw [hfa 130 (by decide), p7 130 (by decide), xu_same, hY2 130 (by decide)]
            · rw [hfk 21 (by decide) (by decide), p8 21 (by decide), hK2 21 (by decide)]; exact xu_same
          · rw [h22, p8 22 (by decide), hK2 22 (by decide), xu_oth (by decide)]
      · exact absurd hA.1.1 b71
    · exact absurd rfl b47
  · replace hr := hr.go (s_aload_n t169_35 rfl)
    replace hr := hr.go (s_k t169_36)
    obtain ⟨m1, ⟨h1, hf1⟩, hr⟩ := hr.fvN t169_37 rfl rfl (ct_wrongG (f := 2) hA.1 (by decide) (by decide))
    skip
    replace hr := hr.go (s_goto t169_40)
    replace hr := hr.go (s_aload_n t169_67 rfl)
    replace hr := hr.go (s_getf t169_68)
    rcases hr.zEq t169_71 with ⟨b71, hr⟩ | ⟨b71, hr⟩
    · exact absurd b71 h1.2.1
    · obtain ⟨rfl, hs⟩ := hr.ret t169_74
      exact ⟨_, _, hs, PL_bad (by rw [lin_tab (w := 3) (by decide) hk, tab_full (Nat.le_of_eq (of_decide_eq_true (bI_1 b32)).2.2.symm)]; rfl) h1 (FM.er hf1.1 (fun k hk => hf1.2 k (by omega)) FM.rf) FG.rf⟩
/-- a law's line behind its word, in the reference -/
def PW (B : eB) (L : Nat → Bool) (i kn : Nat) (m : xM) (g : xL) : Option Value → xM → xL → Prop := fun r m' g' => r = none ∧ g' = g ∧ FM m m' ∧ match rul (tK B i) with
  | none => sX B (.inl (1, i)) m'
  | some k => if L k = true then sX B (.inl (3, i)) m' else ∃ (f : Nat) (o : eO), gE B f 0 (.inr (i + 1, kn, 0)) = some o ∧ sX B o m' ∧ m' 128 21 = m 128 21 ||| (1 : Int32) <<< (Int32.ofNat (16 + k) &&& 31) ∧ m' 128 22 = m 128 22 ∧ (∀ a : Nat, ¬ a = 128 → ¬ a = 130 → ¬ (144 ≤ a ∧ a ≤ 147) → m' a = m a) ∧ ∀ k : Nat, ¬ k = 17 → m' 130 k = m 130 k
theorem ct_lawLine {nf : Bool} {xs : List Int32} {d : Nat} {m : xM} {g : xL} {G : xG} {B : eB} {i kn : Nat} {L : Nat → Bool} (hG : GL G) (hE : EV B) (h : sX B (.inr (i, kn, 0)) m) (hL : ∀ k : Nat, k < 3 → bj (m 128 21) (16 + k) = L k) : CT nf xs d 171 [.ref 128] m g G (PW B L i kn m g) := by
  refine CT.of (c := 11) (ini := false) (nL := 2) (rt := none) (tab := zt171) rfl (fun d' r h' N hd hr => ?_)
  replace hr : RR nf xs d' 11 false 2 none zt171 G r h' N (0, [(0, .ref 128)], [], m, g) := hr
  have tr : TR (tK B i) (tV B i) (m 128 26) (m 128 27) := h.2.1.2.2.2.2
  have k9 : (9 : Int32).toInt = 9 := rfl
  have k11 : (11 : Int32).toInt = 11 := rfl
  have bad : rul (tK B i) = none → ∀ N : Nat, RR nf xs d' 11 false 2 none zt171 G r h' N (25, [(0, .ref 128)], [], m, g) → ∃ (m' : xM) (g' : xL), HS h' m' g' G ∧ PW B L i kn m g r m' g' := by
    intro hn N hr
    replace hr := hr.go (s_aload_n t171_25 rfl)
    replace hr := hr.go (s_k t171_26)
    obtain ⟨m3, ⟨h3, hf3⟩, hr⟩ := hr.fvN t171_27 rfl rfl (ct_wrongG (f := 1) h (by decide) (by decide))
    replace h3 : sX B (.inl (1, i)) m3 := h3
    replace hr := hr.go (s_aload_n t171_30 rfl)
    replace hr := hr.go (s_getf t171_31)
    replace hr := hr.go (s_k t171_34)
    replace hr := hr.go (s_isub t171_36)
    replace hr := hr.go (s_istore_n (ls' := [(1, _), (0, _)]) t171_37 rfl)
    replace hr := hr.go (s_aload_n t171_38 rfl)
    replace hr := hr.go (s_getf t171_39)
    rcases hr.zNe t171_42 with ⟨b42, hr⟩ | ⟨b42, hr⟩
    · replace hr := hr.go (s_aload_n t171_65 rfl)
      replace hr := hr.go (s_getf t171_66)
      rcases hr.zEq t171_69 with ⟨b69, hr⟩ | ⟨b69, hr⟩
      · exact absurd b69 h3.2.1
      · obtain ⟨rfl, hs⟩ := hr.ret t171_72
        exact ⟨_, _, hs, rfl, rfl, FM.er hf3.1 (fun k hk => hf3.2 k (by omega)) FM.rf, by rw [hn]; exact h3⟩
    · exact absurd b42 h3.2.1
  replace hr := hr.go (s_aload_n t171_0 rfl)
  replace hr := hr.go (s_getf t171_1)
  rcases hr.zNe t171_4 with ⟨b4, hr⟩ | ⟨b4, hr⟩
  · refine bad (rul_n (fun q => b4 ((tr_wrd tr).mpr (by omega)))) _ hr
  · obtain ⟨w, hw, hv, hkw⟩ := tr_wv tr ((tr_wrd tr).mp b4)
    have hwi : (Int32.ofNat w).toInt = (w : Int) := xn_int (by omega)
    have hki : (tK B i).toInt = 32 + (w : Int) := by rw [hkw, xn_int (by omega)]; omega
    replace hr := hr.go (s_aload_n t171_7 rfl)
    replace hr := hr.go (s_getf t171_8)
    rw [hv] at hr
    replace hr := hr.go (s_k t171_11)
    rcases hr.bLt t171_13 with ⟨b13, hr⟩ | ⟨b13, hr⟩
    · exact bad (rul_n (by omega)) _ hr
    · replace hr := hr.go (s_aload_n t171_16 rfl)
      replace hr := hr.go (s_getf t171_17)
      rw [hv] at hr
      replace hr := hr.go (s_k t171_20)
      rcases hr.bLe t171_22 with ⟨b22, hr⟩ | ⟨b22, hr⟩
      · obtain ⟨k, k3, hrk, -⟩ := rul_k (x := tK B i) (by omega) (by omega)
        have hwk : w = 9 + k := by
          unfold rul at hrk
          rw [hkw] at hrk
          split at hrk
          · next q => have := xn_inj (b := 41) (by omega) (by omega) q; cases hrk; omega
          · split at hrk
            · next q => have := xn_inj (b := 42) (by omega) (by omega) q; cases hrk; omega
            · split at hrk
              · next q => have := xn_inj (b := 43) (by omega) (by omega) q; cases hrk; omega
              · cases hrk
        have eW : Int32.ofNat w - 9 = Int32.ofNat k := by
          have := xn_sub (s := 9) (e := w) (by omega)
          rw [show w - 9 = k by omega] at this
          exact this
        have hLk := hL k k3
        replace hr := hr.go (s_aload_n t171_30 rfl)
        replace hr := hr.go (s_getf t171_31)
        rw [hv] at hr
        replace hr := hr.go (s_k t171_34)
        replace hr := hr.go (s_isub t171_36)
        rw [eW] at hr
        replace hr := hr.go (s_istore_n (ls' := [(1, _), (0, _)]) t171_37 rfl)
        replace hr := hr.go (s_aload_n t171_38 rfl)
        replace hr := hr.go (s_getf t171_39)
        rcases hr.zNe t171_42 with ⟨b42, hr⟩ | ⟨b42, hr⟩
        · exact absurd h.1 b42
        · replace hr := hr.go (s_aload_n t171_45 rfl)
          replace hr := hr.go (s_getf t171_46)
          replace hr := hr.go (s_k t171_49)
          replace hr := hr.go (s_iload_n t171_51 rfl)
          replace hr := hr.go (s_iadd t171_52)
          rw [show (16 : Int32) + Int32.ofNat k = Int32.ofNat (16 + k) from xn_add (p := 16)] at hr
          replace hr := hr.go (s_ishr t171_53)
          replace hr := hr.go (s_k t171_54)
          replace hr := hr.go (s_iand t171_55)
          replace hr := hr.go (s_k t171_56)
          rcases hr.bNe t171_57 with ⟨b57, hr⟩ | ⟨b57, hr⟩
          · replace hr := hr.go (s_aload_n t171_65 rfl)
            replace hr := hr.go (s_getf t171_66)
            rcases hr.zEq t171_69 with ⟨b69, hr⟩ | ⟨b69, hr⟩
            · replace hr := hr.go (s_aload_n t171_73 rfl)
              replace hr := hr.go (s_dup t171_74 rfl)
              replace hr := hr.go (s_getf t171_75)
              replace hr := hr.go (s_k t171_78)
              replace hr := hr.go (s_k t171_79)
              replace hr := hr.go (s_iload_n t171_81 rfl)
              replace hr := hr.go (s_iadd t171_82)
              rw [show (16 : Int32) + Int32.ofNat k = Int32.ofNat (16 + k) from xn_add (p := 16)] at hr
              replace hr := hr.go (s_ishl t171_83)
              replace hr := hr.go (s_ior t171_84)
              replace hr := hr.go (s_putf t171_85)
              replace hr := hr.go (s_aload_n t171_88 rfl)
              obtain ⟨m2, ⟨h2, hf2⟩, hr⟩ := hr.fvN t171_89 rfl rfl (ct_tokG hG.1 hE (sX_f (k := 21) h (by decide) (by decide) (by decide)))
              replace h2 : sX B (.inr (i + 1, kn, 0)) m2 := h2
              replace hr := hr.go (s_aload_n t171_92 rfl)
              replace hr := hr.go (s_getr t171_93 (hG.2.2.1 17 (by decide) (by decide)))
              replace hr := hr.go (s_k t171_96)
              replace hr := hr.go (s_iload_n t171_97 rfl)
              replace hr := hr.go (s_iadd t171_98)
              rw [show (3 : Int32) + Int32.ofNat k = Int32.ofNat (3 + k) from xn_add (p := 3)] at hr
              replace hr := hr.go (s_aload_n t171_99 rfl)
              replace hr := hr.go (s_k t171_100)
              replace hr := hr.cvI t171_102 rfl rfl (ct_fresher hG.2.1.1 hG.2.1.2.1)
              replace hr := hr.go (s_iastore t171_105)
              replace hr := hr.go (s_aload_n t171_106 rfl)
              obtain ⟨m4, f, oo, hgE, h4, hf4, hr⟩ := hr.cPX t171_107 ((ex_all hE _).1 _ _ _ _ hG.1 hG.2.1 (sX_row h2 (xu_row (by decide)) (xu_row (by decide))))
              skip
              replace hr := hr.go (s_aload_n t171_110 rfl)
              replace hr := hr.go (s_getr t171_111 (hG.2.2.1 18 (by decide) (by decide)))
              replace hr := hr.go (s_k t171_114)
              replace hr := hr.go (s_iload_n t171_115 rfl)
              replace hr := hr.go (s_iadd t171_116)
              rw [show (3 : Int32) + Int32.ofNat k = Int32.ofNat (3 + k) from xn_add (p := 3)] at hr
              replace hr := hr.go (s_aload_n t171_117 rfl)
              replace hr := hr.go (s_k t171_118)
              replace hr := hr.cvI t171_120 rfl rfl (ct_fresher hG.2.1.1 hG.2.1.2.1)
              replace hr := hr.go (s_iastore t171_123)
              obtain ⟨rfl, hs⟩ := hr.ret t171_124
              refine ⟨_, _, hs, rfl, rfl, ?_, ?_⟩
              · intro a j q
                by_cases e8 : a = 128
                · subst e8
                  have hj : 34 ≤ j := by
                    rcases q with q | q | q
                    · have := fhp_b q; omega
                    · omega
                    · exact q.2
                  rw [xu_row (by decide), hf4.2.1 j (by omega) (by omega) (by omega), xu_row (by decide), hf2.2 j (by omega), xu_oth (by omega)]
                have hb : 130 ≤ a ∧ ¬ a = 144 ∧ ¬ a = 145 ∧ ¬ a = 146 ∧ ¬ a = 147 := by
                  rcases q with q | q | q
                  · have := fhp_b q; omega
                  · omega
                  · exact absurd q.1 e8
                by_cases e : a = 130
                · subst e
                  have hj : j < 9 := by unfold fhq fhp at q; omega
                  rw [xu_row (by decide), hf4.2.2 j (by omega), xu_row (by decide), hf2.1 130 (by decide), xu_row (by decide)]
                · rw [xu_row (by omega), hf4.1 a (by omega) e (by omega) (by omega), xu_row (by omega), hf2.1 a (by omega), xu_row (by omega)]
              rw [hrk]
              dsimp only
              rw [if_neg (fun q => b57 ((bj_tst (by omega)).mpr (hLk.trans q)))]
              refine ⟨f, oo, hgE, sX_row h4 (xu_row (by decide)) (xu_row (by decide)), ?_, ?_, fun a a1 a2 a3 => ?_, fun k k1 => ?_⟩
              · rw [xu_row (by decide), hf4.2.1 21 (by decide) (by decide) (by decide), xu_row (by decide), hf2.2 21 (by decide)]; exact xu_same
              · rw [xu_row (by decide), hf4.2.1 22 (by decide) (by decide) (by decide), xu_row (by decide), hf2.2 22 (by decide)]; exact xu_oth (by decide)
              · rw [xu_row (by omega), hf4.1 a a1 a2 (by omega) (by omega), xu_row (by omega), hf2.1 a a1, xu_row a1]
              · rw [xu_row (by decide), hf4.2.2 k k1, xu_row (by decide), hf2.1 130 (by decide), xu_row (by decide)]
            · exact absurd h.1 b69
          · skip
            replace hr := hr.go (s_aload_n t171_60 rfl)
            replace hr := hr.go (s_k t171_61)
            obtain ⟨m3, ⟨h3, hf3⟩, hr⟩ := hr.fvN t171_62 rfl rfl (ct_wrongG (f := 3) h (by decide) (by decide))
            replace h3 : sX B (.inl (3, i)) m3 := h3
            replace hr := hr.go (s_aload_n t171_65 rfl)
            replace hr := hr.go (s_getf t171_66)
            rcases hr.zEq t171_69 with ⟨b69, hr⟩ | ⟨b69, hr⟩
            · exact absurd b69 h3.2.1
            · obtain ⟨rfl, hs⟩ := hr.ret t171_72
              exact ⟨_, _, hs, rfl, rfl, FM.er hf3.1 (fun k hk => hf3.2 k (by omega)) FM.rf, by rw [hrk]; dsimp only; rw [if_pos (hLk.symm.trans ((bj_tst (by omega)).mp b57))]; exact h3⟩
      · exact bad (rul_n (by omega)) _ hr
theorem rul_lt {x : Int32} {k : Nat} (h : rul x = some k) : k < 3 := by
  unfold rul at h
  split at h
  · cases h; decide
  · split at h
    · cases h; decide
    · split at h
      · cases h; decide
      · cases h
theorem AR_law {B : eB} {s : eS} {m m' : xM} {g : xL} {k t1 t2 : Nat} (hA : AR B s m g) (hk : k < 3) (h1 : sX B (.inr (t1 + 1, t2, 0)) m') (hr : ∀ a : Nat, ¬ a = 128 → ¬ a = 130 → ¬ (144 ≤ a ∧ a ≤ 147) → m' a = m a) (h130 : ∀ k : Nat, ¬ k = 17 → m' 130 k = m 130 k) (h21 : m' 128 21 = (m 128 21 ||| (1 : Int32) <<< (Int32.ofNat 8 &&& 31)) ||| (1 : Int32) <<< (Int32.ofNat (16 + k) &&& 31)) : AR B (s.1, eup s.2.1 k true, t2, t1 + 1) m' g := by
  obtain ⟨-, a2, a3, a4, a5, a6, a7⟩ := hA
  have hb : ∀ w : Nat, w < 32 → ¬ w = 8 → bj (m' 128 21) w = (bj (m 128 21) w || decide (16 + k = w)) := fun w hw h8 => by
    rw [h21, bj_set (by omega) hw, told_k (by omega) hw (fun q => h8 q.symm)]
  refine ⟨h1, a2, fun u u1 u2 => (h130 _ (by omega)).trans (a3 u u1 u2), fun u hu r hr2 c hc => ?_, fun u hu => ⟨(h130 _ (by omega)).trans (a5 u hu).1, ?_⟩, fun i hi => ?_, a7⟩
  · rw [hr _ (by have := ar_b hu hc; omega) (by have := ar_b hu hc; omega) (by have := ar_b hu hc; omega)]
    exact a4 u hu r hr2 c hc
  · rw [hb u (by omega) (by omega), decide_eq_false (by omega), Bool.or_false]
    exact (a5 u hu).2
  · rw [hb (16 + i) (by omega) (by omega), a6 i hi]
    show _ = if i = k then true else s.2.1 i
    by_cases e : i = k
    · rw [if_pos e, e, decide_eq_true rfl, Bool.or_true]
    · rw [if_neg e, decide_eq_false (by omega), Bool.or_false]
theorem ln8 {nf : Bool} {xs : List Int32} {d : Nat} {g : xL} {G : xG} {r : Option Value} {h' : zH} {N : Nat} {m : xM} {B : eB} {s : eS} (hG : GL G) (hE : EV B) (hA : AR B s m g) (hk : tK B s.2.2.2 = Int32.ofNat (32 + 8)) (hr : RR nf xs d 11 false 6 none zt169 G r h' N (27, [(1, .int 8), (0, .ref 128)], [], m, g)) : ∃ (m' : xM) (g' : xL), HS h' m' g' G ∧ PL B s m g r m' g' := by
  have hL : ∀ u : Nat, 1 ≤ u → u ≤ 5 → m 130 (9 + u) = Int32.ofNat ((fun u => (s.1 u).length) u) ∧ (fun u => (s.1 u).length) u ≤ 8 := fun u u1 u2 => ⟨hA.2.2.1 u u1 u2, by have := hA.2.1 u (by omega); have := (mN_b u).1; dsimp only; omega⟩
  replace hr := hr.go (s_aload_n t169_27 rfl)
  replace hr := hr.go (s_iload_n t169_28 rfl)
  replace hr := hr.cvI t169_29 rfl rfl (ct_isFullR (w := 8) (L := (fun u => (s.1 u).length)) hG.2.1 (by decide) hL)
  rw [show fulR (fun u => (s.1 u).length) 8 = false from decide_eq_false (by omega)] at hr
  rcases hr.zEq t169_32 with ⟨b32, hr⟩ | ⟨b32, hr⟩
  · replace hr := hr.go (s_iload_n t169_43 rfl)
    replace hr := hr.csI t169_44 rfl rfl (ct_isOnce (w := 8) (by decide))
    rw [show onR 8 = false from by decide] at hr
    rcases hr.zEq t169_47 with ⟨b47, hr⟩ | ⟨b47, hr⟩
    · replace hr := hr.go (s_aload_n t169_67 rfl)
      replace hr := hr.go (s_getf t169_68)
      rcases hr.zEq t169_71 with ⟨b71, hr⟩ | ⟨b71, hr⟩
      · replace hr := hr.go (s_aload_n t169_75 rfl)
        replace hr := hr.go (s_dup t169_76 rfl)
        replace hr := hr.go (s_getf t169_77)
        replace hr := hr.go (s_k t169_80)
        replace hr := hr.go (s_iload_n t169_81 rfl)
        replace hr := hr.go (s_ishl t169_82)
        replace hr := hr.go (s_ior t169_83)
        replace hr := hr.go (s_putf t169_84)
        replace hr := hr.go (s_aload_n t169_87 rfl)
        obtain ⟨m2, ⟨h2, hf2⟩, hr⟩ := hr.fvN t169_88 rfl rfl (ct_tokG hG.1 hE (sX_f (k := 21) hA.1 (by decide) (by decide) (by decide)))
        replace h2 : sX B (.inr (s.2.2.2 + 1, s.2.2.1, 0)) m2 := h2
        have hY2 : ∀ a : Nat, ¬ a = 128 → m2 a = m a := fun a ha => (hf2.1 a ha).trans (xu_row ha)
        have hK2 : ∀ k : Nat, ¬ (24 ≤ k ∧ k ≤ 29) → m2 128 k = xu m 128 21 (m 128 21 ||| (1 : Int32) <<< (8 &&& 31)) 128 k := hf2.2
        replace hr := hr.go (s_iload_n t169_91 rfl)
        replace hr := hr.go (s_tswitchD (q := 481) t169_92 (by decide) rfl)
        replace hr := hr.go (s_aload_n t169_481 rfl)
        obtain ⟨_, m3, g3, hP, hr⟩ := hr.callv t169_482 rfl rfl (ct_lawLine (i := s.2.2.2 + 1) (kn := s.2.2.1) (L := s.2.1) hG hE h2 (fun k hk3 => by rw [hK2 21 (by decide), xu_same]; exact (told_k (w := 8) (by decide) (by omega) (by omega)).trans (hA.2.2.2.2.2.1 k hk3)))
        obtain ⟨e1, e2, hFM, hP⟩ := hP
        subst e1
        rw [e2] at hr
        replace hr : RR nf xs d 11 false 6 none zt169 G r h' N (485, [(1, .int 8), (0, .ref 128)], [], m3, g) := hr
        have hlin : linF B s = (match lawF B s.2.1 s.2.2.1 s.2.2.2 with
            | .inl e => .inl e
            | .inr q => .inr (s.1, q)) := by
          unfold linF
          rw [hk, wrd_of (by decide)]
          dsimp only
          rw [if_pos rfl]
          rfl
        unfold lawF at hlin
        split at hP
        · next he =>
          rw [he] at hlin
          obtain ⟨rfl, hs⟩ := le485F rfl hP hr
          exact ⟨_, _, hs, PL_bad hlin hP ((FM.er hY2 (fun k hk => (hf2.2 k (by omega)).trans (xu_oth (by omega))) FM.rf).tr hFM) FG.rf⟩
        · next k he =>
          rw [he] at hlin
          dsimp only at hlin
          have hk3 : k < 3 := rul_lt he
          by_cases hLk : s.2.1 k = true
          · rw [if_pos hLk] at hP hlin
            obtain ⟨rfl, hs⟩ := le485F rfl hP hr
            exact ⟨_, _, hs, PL_bad hlin hP ((FM.er hY2 (fun k hk => (hf2.2 k (by omega)).trans (xu_oth (by omega))) FM.rf).tr hFM) FG.rf⟩
          · rw [if_neg hLk] at hP hlin
            obtain ⟨f, oo, hgE, h4, p21, p22, pa, pk⟩ := hP
            have hes := ex_same hgE hA.1.2.2.2.1
            cases oo with
            | inl e =>
              have hes : exC B (s.2.2.2 + 1 + 1) s.2.2.1 = .inl e := hes
              rw [show s.2.2.2 + 2 = s.2.2.2 + 1 + 1 from rfl, hes] at hlin
              obtain ⟨rfl, hs⟩ := le485F rfl h4 hr
              exact ⟨_, _, hs, PL_bad hlin h4 ((FM.er hY2 (fun k hk => (hf2.2 k (by omega)).trans (xu_oth (by omega))) FM.rf).tr hFM) FG.rf⟩
            | inr t =>
              obtain ⟨t1, t2, t3⟩ := t
              obtain ⟨he1, he2, he3⟩ := hes
              have he2 : t3 = 0 := he2
              subst he2
              rw [show s.2.2.2 + 2 = s.2.2.2 + 1 + 1 from rfl, he3] at hlin
              obtain ⟨m', hs, rfl, h5, h22, hfa, hfk⟩ := le485G hG.1 hE rfl h4 hr
              refine ⟨m', _, hs, rfl, ⟨FM.er hfa (fun k hk => hfk k (by omega) (by omega)) ((FM.er hY2 (fun k hk => (hf2.2 k (by omega)).trans (xu_oth (by omega))) FM.rf).tr hFM), FG.rf⟩, ?_⟩
              rw [hlin]
              by_cases c4 : tK B t1 = 4
              · rw [if_pos c4] at h5
                rw [if_pos c4]
                refine ⟨AR_law hA hk3 h5 (fun a a1 a2 a3 => ?_) (fun k k1 => ?_) ?_, ?_⟩
                · rw [hfa a a1, pa a a1 a2 a3, hY2 a a1]
                · rw [hfa 130 (by decide), pk k k1, hY2 130 (by decide)]
                · rw [hfk 21 (by decide) (by decide), p21, hK2 21 (by decide), xu_same]; rfl
                · rw [h22, p22, hK2 22 (by decide), xu_oth (by decide)]
              · rw [if_neg c4] at h5
                rw [if_neg c4]
                exact h5
      · exact absurd hA.1.1 b71
    · exact absurd rfl b47
  · exact absurd rfl b32
theorem ct_lineR {nf : Bool} {xs : List Int32} {d : Nat} {m : xM} {g : xL} {G : xG} {B : eB} {s : eS} (hG : GL G) (hE : EV B) (hA : AR B s m g) : CT nf xs d 169 [.ref 128] m g G (PL B s m g) := by
  refine CT.of (c := 11) (ini := false) (nL := 6) (rt := none) (tab := zt169) rfl (fun d' r h' N hd hr => ?_)
  replace hr : RR nf xs d' 11 false 6 none zt169 G r h' N (0, [(0, .ref 128)], [], m, g) := hr
  have tr : TR (tK B s.2.2.2) (tV B s.2.2.2) (m 128 26) (m 128 27) := hA.1.2.1.2.2.2.2
  have k8 : (8 : Int32).toInt = 8 := rfl
  have bad : wrd (tK B s.2.2.2) = none → ∀ N : Nat, RR nf xs d' 11 false 6 none zt169 G r h' N (16, [(0, .ref 128)], [], m, g) → ∃ (m' : xM) (g' : xL), HS h' m' g' G ∧ PL B s m g r m' g' := by
    intro hn N hr
    replace hr := hr.go (s_aload_n t169_16 rfl)
    replace hr := hr.go (s_k t169_17)
    obtain ⟨m3, ⟨h3, hf3⟩, hr⟩ := hr.fvN t169_18 rfl rfl (ct_wrongG (f := 1) hA.1 (by decide) (by decide))
    replace h3 : sX B (.inl (1, s.2.2.2)) m3 := h3
    obtain ⟨rfl, hs⟩ := hr.ret t169_21
    exact ⟨_, _, hs, PL_bad (by unfold linF; rw [hn]) h3 (FM.er hf3.1 (fun k hk => hf3.2 k (by omega)) FM.rf) FG.rf⟩
  replace hr := hr.go (s_aload_n t169_0 rfl)
  replace hr := hr.go (s_getf t169_1)
  rcases hr.zNe t169_4 with ⟨b4, hr⟩ | ⟨b4, hr⟩
  · exact bad (wrd_n (fun q => b4 ((tr_wrd tr).mpr q.1))) _ hr
  · obtain ⟨w, hw, hv, hkw⟩ := tr_wv tr ((tr_wrd tr).mp b4)
    have hwi : (Int32.ofNat w).toInt = (w : Int) := xn_int (by omega)
    have hki : (tK B s.2.2.2).toInt = 32 + (w : Int) := by rw [hkw, xn_int (by omega)]; omega
    replace hr := hr.go (s_aload_n t169_7 rfl)
    replace hr := hr.go (s_getf t169_8)
    rw [hv] at hr
    replace hr := hr.go (s_k t169_11)
    rcases hr.bLe t169_13 with ⟨b13, hr⟩ | ⟨b13, hr⟩
    · replace hr := hr.go (s_aload_n t169_22 rfl)
      replace hr := hr.go (s_getf t169_23)
      rw [hv] at hr
      replace hr := hr.go (s_istore_n (ls' := [(1, _), (0, _)]) t169_26 rfl)
      rcases (show w = 0 ∨ w = 1 ∨ w = 2 ∨ w = 3 ∨ w = 4 ∨ w = 5 ∨ w = 6 ∨ w = 7 ∨ w = 8 by omega) with rfl | rfl | rfl | rfl | rfl | rfl | rfl | rfl | rfl
      · exact ln0 hG hE hA hkw hr
      · exact ln1 hG hE hA hkw hr
      · exact ln2 hG hE hA hkw hr
      · exact ln3 hG hE hA hkw hr
      · exact ln4 hG hE hA hkw hr
      · exact ln5 hG hE hA hkw hr
      · exact ln6 hG hE hA hkw hr
      · exact ln7 hG hE hA hkw hr
      · exact ln8 hG hE hA hkw hr
    · exact bad (wrd_n (by omega)) _ hr
end
section
/-! The reference: a whole text; rules for constants. -/
theorem t189_0 : xt zt189 0 1 (.aload_n 0) := ⟨rfl, rfl⟩
theorem t189_1 : xtk zt189 1 2 (0) := Or.inl ⟨0, ⟨rfl, rfl⟩, by decide⟩
theorem t189_2 : xtc zt189 11 2 5 (.invokevirtual 349) 349 1 188 1 := ⟨rfl, rfl, rfl⟩
theorem t189_5 : xt zt189 5 6 .return_ := ⟨rfl, rfl⟩
theorem t188_0 : xt zt188 0 1 (.aload_n 0) := ⟨rfl, rfl⟩
theorem t188_1 : xtf zt188 11 1 4 (.getfield 78) 78 11 37 3 := ⟨rfl, rfl, rfl, rfl⟩
theorem t188_4 : xt zt188 4 5 (.iload_n 1) := ⟨rfl, rfl⟩
theorem t188_5 : xtk zt188 5 6 (0) := Or.inl ⟨0, ⟨rfl, rfl⟩, by decide⟩
theorem t188_6 : xt zt188 6 7 .iastore := ⟨rfl, rfl⟩
theorem t188_7 : xt zt188 7 8 (.aload_n 0) := ⟨rfl, rfl⟩
theorem t188_8 : xtf zt188 11 8 11 (.getfield 81) 81 11 38 3 := ⟨rfl, rfl, rfl, rfl⟩
theorem t188_11 : xt zt188 11 12 (.iload_n 1) := ⟨rfl, rfl⟩
theorem t188_12 : xtk zt188 12 13 (0) := Or.inl ⟨0, ⟨rfl, rfl⟩, by decide⟩
theorem t188_13 : xt zt188 13 14 .iastore := ⟨rfl, rfl⟩
theorem t188_14 : xt zt188 14 15 (.aload_n 0) := ⟨rfl, rfl⟩
theorem t188_15 : xtf zt188 11 15 18 (.getfield 84) 84 11 39 3 := ⟨rfl, rfl, rfl, rfl⟩
theorem t188_18 : xt zt188 18 19 (.iload_n 1) := ⟨rfl, rfl⟩
theorem t188_19 : xtk zt188 19 20 (0) := Or.inl ⟨0, ⟨rfl, rfl⟩, by decide⟩
theorem t188_20 : xt zt188 20 21 .iastore := ⟨rfl, rfl⟩
theorem t188_21 : xt zt188 21 22 (.aload_n 0) := ⟨rfl, rfl⟩
theorem t188_22 : xtf zt188 11 22 25 (.getfield 87) 87 11 40 3 := ⟨rfl, rfl, rfl, rfl⟩
theorem t188_25 : xt zt188 25 26 (.iload_n 1) := ⟨rfl, rfl⟩
theorem t188_26 : xtk zt188 26 27 (0) := Or.inl ⟨0, ⟨rfl, rfl⟩, by decide⟩
theorem t188_27 : xt zt188 27 28 .iastore := ⟨rfl, rfl⟩
theorem t188_28 : xt zt188 28 29 (.aload_n 0) := ⟨rfl, rfl⟩
theorem t188_29 : xtf zt188 11 29 32 (.getfield 90) 90 11 41 3 := ⟨rfl, rfl, rfl, rfl⟩
theorem t188_32 : xt zt188 32 33 (.iload_n 1) := ⟨rfl, rfl⟩
theorem t188_33 : xtk zt188 33 34 (0) := Or.inl ⟨0, ⟨rfl, rfl⟩, by decide⟩
theorem t188_34 : xt zt188 34 35 .iastore := ⟨rfl, rfl⟩
theorem t188_35 : xt zt188 35 36 (.aload_n 0) := ⟨rfl, rfl⟩
theorem t188_36 : xtf zt188 11 36 39 (.getfield 93) 93 11 42 3 := ⟨rfl, rfl, rfl, rfl⟩
theorem t188_39 : xt zt188 39 40 (.iload_n 1) := ⟨rfl, rfl⟩
theorem t188_40 : xtk zt188 40 41 (0) := Or.inl ⟨0, ⟨rfl, rfl⟩, by decide⟩
theorem t188_41 : xt zt188 41 42 .iastore := ⟨rfl, rfl⟩
theorem t188_42 : xtk zt188 42 43 (0) := Or.inl ⟨0, ⟨rfl, rfl⟩, by decide⟩
theorem t188_43 : xt zt188 43 44 (.istore_n 2) := ⟨rfl, rfl⟩
theorem t188_44 : xt zt188 44 45 (.iload_n 2) := ⟨rfl, rfl⟩
theorem t188_45 : xtk zt188 45 47 (6) := Or.inr (Or.inl ⟨6, ⟨rfl, rfl⟩, by decide⟩)
theorem t188_47 : xtb zt188 47 50 178 (.if_icmp .ge 131) (131) := ⟨rfl, rfl, rfl⟩
theorem t188_50 : xtk zt188 50 52 (6) := Or.inr (Or.inl ⟨6, ⟨rfl, rfl⟩, by decide⟩)
theorem t188_52 : xt zt188 52 53 (.iload_n 1) := ⟨rfl, rfl⟩
theorem t188_53 : xt zt188 53 54 .imul := ⟨rfl, rfl⟩
theorem t188_54 : xt zt188 54 55 (.iload_n 2) := ⟨rfl, rfl⟩
theorem t188_55 : xt zt188 55 56 .iadd := ⟨rfl, rfl⟩
theorem t188_56 : xt zt188 56 57 (.istore_n 3) := ⟨rfl, rfl⟩
theorem t188_57 : xt zt188 57 58 (.iload_n 2) := ⟨rfl, rfl⟩
theorem t188_58 : xt zt188 58 59 (.aload_n 0) := ⟨rfl, rfl⟩
theorem t188_59 : xtf zt188 11 59 62 (.getfield 13) 13 11 3 3 := ⟨rfl, rfl, rfl, rfl⟩
theorem t188_62 : xtk zt188 62 63 (1) := Or.inl ⟨1, ⟨rfl, rfl⟩, by decide⟩
theorem t188_63 : xt zt188 63 64 .iaload := ⟨rfl, rfl⟩
theorem t188_64 : xtb zt188 64 67 71 (.if_icmp .ge 7) (7) := ⟨rfl, rfl, rfl⟩
theorem t188_67 : xtk zt188 67 68 (1) := Or.inl ⟨1, ⟨rfl, rfl⟩, by decide⟩
theorem t188_68 : xtb zt188 68 71 72 (.goto 4) (4) := ⟨rfl, rfl, rfl⟩
theorem t188_71 : xtk zt188 71 72 (0) := Or.inl ⟨0, ⟨rfl, rfl⟩, by decide⟩
theorem t188_72 : xt zt188 72 74 (.istore 4) := ⟨rfl, rfl⟩
theorem t188_74 : xt zt188 74 75 (.aload_n 0) := ⟨rfl, rfl⟩
theorem t188_75 : xtf zt188 11 75 78 (.getfield 96) 96 11 43 3 := ⟨rfl, rfl, rfl, rfl⟩
theorem t188_78 : xt zt188 78 79 (.iload_n 3) := ⟨rfl, rfl⟩
theorem t188_79 : xt zt188 79 81 (.iload 4) := ⟨rfl, rfl⟩
theorem t188_81 : xtb zt188 81 84 93 (.ifCond .eq 12) (12) := ⟨rfl, rfl, rfl⟩
theorem t188_84 : xt zt188 84 85 (.aload_n 0) := ⟨rfl, rfl⟩
theorem t188_85 : xtf zt188 11 85 88 (.getfield 25) 25 11 7 3 := ⟨rfl, rfl, rfl, rfl⟩
theorem t188_88 : xt zt188 88 89 (.iload_n 2) := ⟨rfl, rfl⟩
theorem t188_89 : xt zt188 89 90 .iaload := ⟨rfl, rfl⟩
theorem t188_90 : xtb zt188 90 93 94 (.goto 4) (4) := ⟨rfl, rfl, rfl⟩
theorem t188_93 : xtk zt188 93 94 (0) := Or.inl ⟨0, ⟨rfl, rfl⟩, by decide⟩
theorem t188_94 : xt zt188 94 95 .iastore := ⟨rfl, rfl⟩
theorem t188_95 : xt zt188 95 96 (.aload_n 0) := ⟨rfl, rfl⟩
theorem t188_96 : xtf zt188 11 96 99 (.getfield 99) 99 11 44 3 := ⟨rfl, rfl, rfl, rfl⟩
theorem t188_99 : xt zt188 99 100 (.iload_n 3) := ⟨rfl, rfl⟩
theorem t188_100 : xtk zt188 100 101 (0) := Or.inl ⟨0, ⟨rfl, rfl⟩, by decide⟩
theorem t188_101 : xt zt188 101 102 .iastore := ⟨rfl, rfl⟩
theorem t188_102 : xt zt188 102 103 (.aload_n 0) := ⟨rfl, rfl⟩
theorem t188_103 : xtf zt188 11 103 106 (.getfield 102) 102 11 45 3 := ⟨rfl, rfl, rfl, rfl⟩
theorem t188_106 : xt zt188 106 107 (.iload_n 3) := ⟨rfl, rfl⟩
theorem t188_107 : xt zt188 107 109 (.iload 4) := ⟨rfl, rfl⟩
theorem t188_109 : xtb zt188 109 112 116 (.ifCond .eq 7) (7) := ⟨rfl, rfl, rfl⟩
theorem t188_112 : xtk zt188 112 113 (1) := Or.inl ⟨1, ⟨rfl, rfl⟩, by decide⟩
theorem t188_113 : xtb zt188 113 116 117 (.goto 4) (4) := ⟨rfl, rfl, rfl⟩
theorem t188_116 : xtk zt188 116 117 (0) := Or.inl ⟨0, ⟨rfl, rfl⟩, by decide⟩
theorem t188_117 : xt zt188 117 118 .iastore := ⟨rfl, rfl⟩
theorem t188_118 : xt zt188 118 119 (.aload_n 0) := ⟨rfl, rfl⟩
theorem t188_119 : xtf zt188 11 119 122 (.getfield 105) 105 11 46 3 := ⟨rfl, rfl, rfl, rfl⟩
theorem t188_122 : xt zt188 122 123 (.iload_n 3) := ⟨rfl, rfl⟩
theorem t188_123 : xtk zt188 123 124 (-1) := Or.inl ⟨-1, ⟨rfl, rfl⟩, by decide⟩
theorem t188_124 : xt zt188 124 125 .iastore := ⟨rfl, rfl⟩
theorem t188_125 : xt zt188 125 126 (.aload_n 0) := ⟨rfl, rfl⟩
theorem t188_126 : xtf zt188 11 126 129 (.getfield 108) 108 11 47 3 := ⟨rfl, rfl, rfl, rfl⟩
theorem t188_129 : xt zt188 129 130 (.iload_n 3) := ⟨rfl, rfl⟩
theorem t188_130 : xtk zt188 130 131 (0) := Or.inl ⟨0, ⟨rfl, rfl⟩, by decide⟩
theorem t188_131 : xt zt188 131 132 .iastore := ⟨rfl, rfl⟩
theorem t188_132 : xt zt188 132 133 (.aload_n 0) := ⟨rfl, rfl⟩
theorem t188_133 : xtf zt188 11 133 136 (.getfield 111) 111 11 48 3 := ⟨rfl, rfl, rfl, rfl⟩
theorem t188_136 : xt zt188 136 137 (.iload_n 3) := ⟨rfl, rfl⟩
theorem t188_137 : xtk zt188 137 138 (0) := Or.inl ⟨0, ⟨rfl, rfl⟩, by decide⟩
theorem t188_138 : xt zt188 138 139 .iastore := ⟨rfl, rfl⟩
theorem t188_139 : xt zt188 139 140 (.aload_n 0) := ⟨rfl, rfl⟩
theorem t188_140 : xtf zt188 11 140 143 (.getfield 114) 114 11 49 3 := ⟨rfl, rfl, rfl, rfl⟩
theorem t188_143 : xt zt188 143 144 (.iload_n 3) := ⟨rfl, rfl⟩
theorem t188_144 : xtk zt188 144 145 (0) := Or.inl ⟨0, ⟨rfl, rfl⟩, by decide⟩
theorem t188_145 : xt zt188 145 146 .iastore := ⟨rfl, rfl⟩
theorem t188_146 : xt zt188 146 147 (.aload_n 0) := ⟨rfl, rfl⟩
theorem t188_147 : xtf zt188 11 147 150 (.getfield 120) 120 11 51 3 := ⟨rfl, rfl, rfl, rfl⟩
theorem t188_150 : xt zt188 150 151 (.iload_n 3) := ⟨rfl, rfl⟩
theorem t188_151 : xt zt188 151 152 (.iload_n 2) := ⟨rfl, rfl⟩
theorem t188_152 : xt zt188 152 153 (.aload_n 0) := ⟨rfl, rfl⟩
theorem t188_153 : xtf zt188 11 153 156 (.getfield 13) 13 11 3 3 := ⟨rfl, rfl, rfl, rfl⟩
theorem t188_156 : xtk zt188 156 157 (2) := Or.inl ⟨2, ⟨rfl, rfl⟩, by decide⟩
theorem t188_157 : xt zt188 157 158 .iaload := ⟨rfl, rfl⟩
theorem t188_158 : xtb zt188 158 161 170 (.if_icmp .ge 12) (12) := ⟨rfl, rfl, rfl⟩
theorem t188_161 : xt zt188 161 162 (.aload_n 0) := ⟨rfl, rfl⟩
theorem t188_162 : xtf zt188 11 162 165 (.getfield 40) 40 11 12 3 := ⟨rfl, rfl, rfl, rfl⟩
theorem t188_165 : xt zt188 165 166 (.iload_n 2) := ⟨rfl, rfl⟩
theorem t188_166 : xt zt188 166 167 .laload := ⟨rfl, rfl⟩
theorem t188_167 : xtb zt188 167 170 171 (.goto 4) (4) := ⟨rfl, rfl, rfl⟩
theorem t188_170 : xt zt188 170 171 (.lconst 0) := ⟨rfl, rfl⟩
theorem t188_171 : xt zt188 171 172 .lastore := ⟨rfl, rfl⟩
theorem t188_172 : xt zt188 172 175 (.iinc 2 1) := ⟨rfl, rfl⟩
theorem t188_175 : xtb zt188 175 178 44 (.goto (-131)) (-131) := ⟨rfl, rfl, rfl⟩
theorem t188_178 : xtk zt188 178 179 (0) := Or.inl ⟨0, ⟨rfl, rfl⟩, by decide⟩
theorem t188_179 : xt zt188 179 180 (.istore_n 2) := ⟨rfl, rfl⟩
theorem t188_180 : xt zt188 180 181 (.iload_n 2) := ⟨rfl, rfl⟩
theorem t188_181 : xtk zt188 181 183 (36) := Or.inr (Or.inl ⟨36, ⟨rfl, rfl⟩, by decide⟩)
theorem t188_183 : xtb zt188 183 186 204 (.if_icmp .ge 21) (21) := ⟨rfl, rfl, rfl⟩
theorem t188_186 : xt zt188 186 187 (.aload_n 0) := ⟨rfl, rfl⟩
theorem t188_187 : xtf zt188 11 187 190 (.getfield 117) 117 11 50 3 := ⟨rfl, rfl, rfl, rfl⟩
theorem t188_190 : xtk zt188 190 192 (36) := Or.inr (Or.inl ⟨36, ⟨rfl, rfl⟩, by decide⟩)
theorem t188_192 : xt zt188 192 193 (.iload_n 1) := ⟨rfl, rfl⟩
theorem t188_193 : xt zt188 193 194 .imul := ⟨rfl, rfl⟩
theorem t188_194 : xt zt188 194 195 (.iload_n 2) := ⟨rfl, rfl⟩
theorem t188_195 : xt zt188 195 196 .iadd := ⟨rfl, rfl⟩
theorem t188_196 : xtk zt188 196 197 (0) := Or.inl ⟨0, ⟨rfl, rfl⟩, by decide⟩
theorem t188_197 : xt zt188 197 198 .iastore := ⟨rfl, rfl⟩
theorem t188_198 : xt zt188 198 201 (.iinc 2 1) := ⟨rfl, rfl⟩
theorem t188_201 : xtb zt188 201 204 180 (.goto (-21)) (-21) := ⟨rfl, rfl, rfl⟩
theorem t188_204 : xt zt188 204 205 .return_ := ⟨rfl, rfl⟩
section XI
variable {nf : Bool} {xs : List Int32} {d c : Nat} {ini : Bool} {nL : Nat} {rt : Option FieldType} {tab : Nat → Option (Instr × Nat)} {G : xG} {r : Option Value} {h' : zH} {pc pc' len q : Nat} {ls ls' : zL} {st : List Value} {m : xM} {g : xL} {N : Nat} {off : Int} {x y : Int32}
theorem RR.brT {cnd : Jvm.ClassFile.Cond} (hr : RR nf xs d c ini nL rt tab G r h' N (pc, ls, .int y :: .int x :: st, m, g)) (t : xtb tab pc pc' q (.if_icmp cnd off) off) (h : zicmp cnd x y = true) : RR nf xs d c ini nL rt tab G r h' N (q, ls, st, m, g) := by
  rcases hr.br t with ⟨-, b⟩ | ⟨a, -⟩
  · exact b
  · rw [h] at a; cases a
theorem RR.brF {cnd : Jvm.ClassFile.Cond} (hr : RR nf xs d c ini nL rt tab G r h' N (pc, ls, .int y :: .int x :: st, m, g)) (t : xtb tab pc pc' q (.if_icmp cnd off) off) (h : zicmp cnd x y = false) : RR nf xs d c ini nL rt tab G r h' N (pc', ls, st, m, g) := by
  rcases hr.br t with ⟨a, -⟩ | ⟨-, b⟩
  · rw [h] at a; cases a
  · exact b
theorem RR.bzT {cnd : Jvm.ClassFile.Cond} (hr : RR nf xs d c ini nL rt tab G r h' N (pc, ls, .int x :: st, m, g)) (t : xtb tab pc pc' q (.ifCond cnd off) off) (h : zicmp cnd x 0 = true) : RR nf xs d c ini nL rt tab G r h' N (q, ls, st, m, g) := by
  rcases hr.bz t with ⟨-, b⟩ | ⟨a, -⟩
  · exact b
  · rw [h] at a; cases a
theorem RR.bzF {cnd : Jvm.ClassFile.Cond} (hr : RR nf xs d c ini nL rt tab G r h' N (pc, ls, .int x :: st, m, g)) (t : xtb tab pc pc' q (.ifCond cnd off) off) (h : zicmp cnd x 0 = false) : RR nf xs d c ini nL rt tab G r h' N (pc', ls, st, m, g) := by
  rcases hr.bz t with ⟨a, -⟩ | ⟨-, b⟩
  · rw [h] at a; cases a
  · exact b
theorem s_idiv (hy : ¬ y = 0) (t : xt tab pc pc' .idiv) : XS nf xs d c ini nL rt tab G r h' (pc, ls, .int y :: .int x :: st, m, g) (pc', ls, .int (x / y) :: st, m, g) := by
  obtain ⟨t, rfl⟩ := t
  exact xpure t rfl rfl (fun _ => rfl) (fun h s q => by
    simp only [zstep, zstI, if_neg hy] at q
    cases q
    rfl)
theorem s_irem (hy : ¬ y = 0) (t : xt tab pc pc' .irem) : XS nf xs d c ini nL rt tab G r h' (pc, ls, .int y :: .int x :: st, m, g) (pc', ls, .int (x - x / y * y) :: st, m, g) := by
  obtain ⟨t, rfl⟩ := t
  exact xpure t rfl rfl (fun _ => rfl) (fun h s q => by
    simp only [zstep, zstI, if_neg hy] at q
    cases q
    rfl)
theorem s_iushr (t : xt tab pc pc' .iushr) : XS nf xs d c ini nL rt tab G r h' (pc, ls, .int y :: .int x :: st, m, g) (pc', ls, .int ((x.toUInt32 >>> (y.toUInt32 &&& Int32.toUInt32 31)).toInt32) :: st, m, g) := by
  obtain ⟨t, rfl⟩ := t
  exact xpure t rfl rfl (fun _ => rfl) (fun h s q => by cases q; rfl)
theorem s_lxor {x y : Int64} (t : xt tab pc pc' .lxor) : XS nf xs d c ini nL rt tab G r h' (pc, ls, .long y :: .long x :: st, m, g) (pc', ls, .long (x ^^^ y) :: st, m, g) := by
  obtain ⟨t, rfl⟩ := t
  exact xpure t rfl rfl (fun _ => rfl) (fun h s q => by cases q; rfl)
theorem s_ldc2 {j : Nat} {x : Int64} (t : xt tab pc pc' (.ldc2_w j)) (e : zkonT c j = some (.long x)) : XS nf xs d c ini nL rt tab G r h' (pc, ls, st, m, g) (pc', ls, .long x :: st, m, g) := by
  obtain ⟨t, rfl⟩ := t
  exact xpure t rfl rfl (fun _ => rfl) (fun h s q => by
    have e' : zkon (zXt nf xs) c j = some (.long x) := e
    simp only [zstep, zstI, zstL, zstH, e'] at q
    cases q
    rfl)
theorem s_aaload {a b : Nat} {i : Int32} (t : xt tab pc pc' .aaload) (hb : G.1 a i.toNatClampNeg = some b) : XS nf xs d c ini nL rt tab G r h' (pc, ls, .int i :: .ref a :: st, m, g) (pc', ls, .ref b :: st, m, g) := by
  obtain ⟨t, rfl⟩ := t
  intro n ⟨h, hs, q2⟩
  obtain ⟨n', p1, l1, s1, k1, en, z, q⟩ := zinv t rfl rfl rfl q2
  simp only [zstep, zstI, zstL, zstH] at z
  split at z
  · next l hh =>
    split at z
    · next qi =>
      cases z
      refine ⟨n', en, h, hs, ?_⟩
      have : zrv (l.getD i.toNatClampNeg none) = .ref b := by
        have q := hs.2.2.2.1
        rw [← q] at hb
        have hb : xr (rd h a i.toNatClampNeg) = some b := hb
        unfold rd at hb
        rw [hh] at hb
        have hb : xr (l[i.toNatClampNeg]?.map zrv) = some b := hb
        rw [List.getElem?_eq_getElem (xidx qi).1] at hb
        rw [List.getD_eq_getElem?_getD, List.getElem?_eq_getElem (xidx qi).1]
        cases hv : l[i.toNatClampNeg]'(xidx qi).1 with
        | none =>
          rw [hv] at hb
          cases hb
        | some k =>
          rw [hv] at hb
          have hb : some k = some b := hb
          cases hb
          rfl
      dsimp only
      rw [← this]
      exact q
    · cases z
  · cases z
end XI
theorem lp180 {nf : Bool} {xs : List Int32} {d : Nat} {g : xL} {G : xG} {r : Option Value} {h' : zH} {a n L : Nat} {m0 : xM} (ha : G.2 a = (0, 1, L)) (hn : n ≤ 100) : ∀ (N k : Nat) (m : xM), k ≤ n → (∀ b : Nat, ¬ b = a → m b = m0 b) → (∀ j : Nat, j < k → m a j = m0 a (n + j)) → (∀ j : Nat, k ≤ j → m a j = m0 a j) → RR nf xs d 11 false 3 none zt180 G r h' N (7, [(2, .int (Int32.ofNat k)), (1, .int (Int32.ofNat n)), (0, .ref a)], [], m, g) → ∃ (m' : xM) (g' : xL), HS h' m' g' G ∧ PF none g (fun m' => (∀ b : Nat, ¬ b = a → m' b = m0 b) ∧ ∀ j : Nat, j < n → m' a j = m0 a (n + j)) r m' g' := by
  intro N
  induction N with
  | zero => intro k m _ _ _ _ hr; exact hr.no.elim
  | succ N ih =>
    intro k m hk h1 h2 h3 hr
    have qk : (Int32.ofNat k).toInt = (k : Int) := xn_int (by omega)
    have qn : (Int32.ofNat n).toInt = (n : Int) := xn_int (by omega)
    replace hr := hr.go1 (s_iload_n t180_7 rfl)
    replace hr := hr.go (s_iload_n t180_8 rfl)
    rcases hr.bGe t180_9 with ⟨b9, hr⟩ | ⟨b9, hr⟩
    · obtain ⟨rfl, hs⟩ := hr.ret t180_26
      have e : k = n := by omega
      subst e
      exact ⟨_, _, hs, rfl, rfl, h1, h2⟩
    · replace hr := hr.go (s_aload_n t180_12 rfl)
      replace hr := hr.go (s_iload_n t180_13 rfl)
      replace hr := hr.go (s_aload_n t180_14 rfl)
      replace hr := hr.go (s_iload_n t180_15 rfl)
      replace hr := hr.go (s_iload_n t180_16 rfl)
      replace hr := hr.go (s_iadd t180_17)
      rw [show Int32.ofNat n + Int32.ofNat k = Int32.ofNat (n + k) from xn_add] at hr
      replace hr := hr.go (s_iaload t180_18 (ha))
      rw [xn_nat (show n + k < 2147483648 by omega)] at hr
      replace hr := hr.go (s_iastore t180_19)
      rw [xn_nat (show k < 2147483648 by omega)] at hr
      replace hr := hr.go (s_iinc (ls' := [(2, _), (1, _), (0, _)]) t180_20 rfl rfl)
      rw [xn_1i] at hr
      replace hr := hr.go (s_goto t180_23)
      exact ih (k + 1) (xu m a k (m a (n + k))) (by omega) (fun b hb => by rw [xu_row hb]; exact h1 b hb) (fun j hj => by
        by_cases e : j = k
        · rw [e, xu_same]; exact h3 (n + k) (by omega)
        · rw [xu_oth (fun q => e q.2)]; exact h2 j (by omega)) (fun j hj => by rw [xu_oth (fun q => by omega)]; exact h3 j (by omega)) hr
theorem ct_half {nf : Bool} {xs : List Int32} {d : Nat} {m : xM} {g : xL} {G : xG} {a n L : Nat} (ha : G.2 a = (0, 1, L)) (hd : Int32.ofNat L / 2 = Int32.ofNat n) (hn : n ≤ 100) : CT nf xs d 180 [.ref a] m g G (PF none g (fun m' => (∀ b : Nat, ¬ b = a → m' b = m b) ∧ ∀ j : Nat, j < n → m' a j = m a (n + j))) := by
  refine CT.of (c := 11) (ini := false) (nL := 3) (rt := none) (tab := zt180) rfl (fun d' r h' N hd' hr => ?_)
  replace hr : RR nf xs d' 11 false 3 none zt180 G r h' N (0, [(0, .ref a)], [], m, g) := hr
  replace hr := hr.go (s_aload_n t180_0 rfl)
  replace hr := hr.go (s_alen t180_1 (ha))
  replace hr := hr.go (s_k t180_2)
  replace hr := hr.go (s_idiv (by decide) t180_3)
  rw [hd] at hr
  replace hr := hr.go (s_istore_n (ls' := [(1, _), (0, _)]) t180_4 rfl)
  replace hr := hr.go (s_k t180_5)
  replace hr := hr.go (s_istore_n (ls' := [(2, _), (1, _), (0, _)]) t180_6 rfl)
  exact lp180 ha hn N 0 m (by omega) (fun _ _ => rfl) (fun j hj => by omega) (fun _ _ => rfl) hr
/-- the reference's rows, all of them -/
def GT (G : xG) : Prop := GL G ∧ (∀ k : Nat, 37 ≤ k → k ≤ 51 → G.1 128 k = some (113 + k)) ∧ (∀ a L : Nat, (a, L) ∈ ([(130, 18), (131, 12), (132, 12), (133, 12), (134, 12), (135, 12), (136, 12), (137, 12), (138, 12), (140, 10), (141, 10), (142, 6), (143, 6), (144, 6), (145, 6), (146, 128), (147, 128)] : List (Nat × Nat)) → G.2 a = (0, 1, L)) ∧ G.1 128 1 = some 129
theorem lp188b {nf : Bool} {xs : List Int32} {d : Nat} {G : xG} {r : Option Value} {h' : zH} {m0 : xM} (hG : GT G) : ∀ (N : Nat) (k b i : Int32) (m : xM) (g : xL), (∀ a : Nat, a < 150 → m a = m0 a) → RR nf xs d 11 false 5 none zt188 G r h' N (180, [(2, .int k), (4, .int b), (3, .int i), (0, .ref 128), (1, .int 0)], [], m, g) → ∃ (m' : xM) (g' : xL), HS h' m' g' G ∧ r = none ∧ ∀ a : Nat, a < 150 → m' a = m0 a := by
  have hF := hG.2.1
  intro N
  induction N with
  | zero => intro k b i m g _ hr; exact hr.no.elim
  | succ N ih =>
    intro k b i m g hm hr
    replace hr := hr.go1 (s_iload_n t188_180 rfl)
    replace hr := hr.go (s_k t188_181)
    rcases hr.bGe t188_183 with ⟨b183, hr⟩ | ⟨b183, hr⟩
    · obtain ⟨rfl, hs⟩ := hr.ret t188_204
      exact ⟨_, _, hs, rfl, hm⟩
    · replace hr := hr.go (s_aload_n t188_186 rfl)
      replace hr := hr.go (s_getr t188_187 (hF 50 (by decide) (by decide)))
      replace hr := hr.go (s_k t188_190)
      replace hr := hr.go (s_iload_n t188_192 rfl)
      replace hr := hr.go (s_imul t188_193)
      replace hr := hr.go (s_iload_n t188_194 rfl)
      replace hr := hr.go (s_iadd t188_195)
      replace hr := hr.go (s_k t188_196)
      replace hr := hr.go (s_iastore t188_197)
      replace hr := hr.go (s_iinc (ls' := [(2, _), (4, _), (3, _), (0, _), (1, _)]) t188_198 rfl rfl)
      replace hr := hr.go (s_goto t188_201)
      exact ih _ b i _ g (fun a ha => by (repeat rw [xu_row (by omega)]); exact hm a ha) hr
theorem bd188 {nf : Bool} {xs : List Int32} {d : Nat} {G : xG} {r : Option Value} {h' : zH} {m0 : xM} (hG : GT G) {N : Nat} {k b i : Int32} {m : xM} {g : xL} (hm : ∀ a : Nat, a < 150 → m a = m0 a) (ih : ∀ (k b i : Int32) (m : xM) (g : xL), (∀ a : Nat, a < 150 → m a = m0 a) → RR nf xs d 11 false 5 none zt188 G r h' N (44, [(2, .int k), (4, .int b), (3, .int i), (0, .ref 128), (1, .int 0)], [], m, g) → ∃ (m' : xM) (g' : xL), HS h' m' g' G ∧ r = none ∧ ∀ a : Nat, a < 150 → m' a = m0 a) (hr : RR nf xs d 11 false 5 none zt188 G r h' N (74, [(4, .int b), (3, .int i), (2, .int k), (0, .ref 128), (1, .int 0)], [], m, g)) : ∃ (m' : xM) (g' : xL), HS h' m' g' G ∧ r = none ∧ ∀ a : Nat, a < 150 → m' a = m0 a := by
  have hF := hG.2.1
  have k171 : ∀ (x : Int64) (m : xM) (g : xL), (∀ a : Nat, a < 150 → m a = m0 a) → RR nf xs d 11 false 5 none zt188 G r h' N (171, [(4, .int b), (3, .int i), (2, .int k), (0, .ref 128), (1, .int 0)], [.long x, .int i, .ref 164], m, g) → ∃ (m' : xM) (g' : xL), HS h' m' g' G ∧ r = none ∧ ∀ a : Nat, a < 150 → m' a = m0 a := by
    intro x m g hm hr
    replace hr := hr.go (s_lastore t188_171)
    replace hr := hr.go (s_iinc (ls' := [(2, _), (4, _), (3, _), (0, _), (1, _)]) t188_172 rfl rfl)
    replace hr := hr.go (s_goto t188_175)
    exact ih _ b i _ _ (fun a ha => by (repeat rw [xu_row (by omega)]); exact hm a ha) hr
  have k117 : ∀ (x : Int32) (m : xM) (g : xL), (∀ a : Nat, a < 150 → m a = m0 a) → RR nf xs d 11 false 5 none zt188 G r h' N (117, [(4, .int b), (3, .int i), (2, .int k), (0, .ref 128), (1, .int 0)], [.int x, .int i, .ref 158], m, g) → ∃ (m' : xM) (g' : xL), HS h' m' g' G ∧ r = none ∧ ∀ a : Nat, a < 150 → m' a = m0 a := by
    intro x m g hm hr
    replace hr := hr.go (s_iastore t188_117)
    replace hr := hr.go (s_aload_n t188_118 rfl)
    replace hr := hr.go (s_getr t188_119 (hF 46 (by decide) (by decide)))
    replace hr := hr.go (s_iload_n t188_122 rfl)
    replace hr := hr.go (s_k t188_123)
    replace hr := hr.go (s_iastore t188_124)
    replace hr := hr.go (s_aload_n t188_125 rfl)
    replace hr := hr.go (s_getr t188_126 (hF 47 (by decide) (by decide)))
    replace hr := hr.go (s_iload_n t188_129 rfl)
    replace hr := hr.go (s_k t188_130)
    replace hr := hr.go (s_iastore t188_131)
    replace hr := hr.go (s_aload_n t188_132 rfl)
    replace hr := hr.go (s_getr t188_133 (hF 48 (by decide) (by decide)))
    replace hr := hr.go (s_iload_n t188_136 rfl)
    replace hr := hr.go (s_k t188_137)
    replace hr := hr.go (s_iastore t188_138)
    replace hr := hr.go (s_aload_n t188_139 rfl)
    replace hr := hr.go (s_getr t188_140 (hF 49 (by decide) (by decide)))
    replace hr := hr.go (s_iload_n t188_143 rfl)
    replace hr := hr.go (s_k t188_144)
    replace hr := hr.go (s_iastore t188_145)
    replace hr := hr.go (s_aload_n t188_146 rfl)
    replace hr := hr.go (s_getr t188_147 (hF 51 (by decide) (by decide)))
    replace hr := hr.go (s_iload_n t188_150 rfl)
    replace hr := hr.go (s_iload_n t188_151 rfl)
    replace hr := hr.go (s_aload_n t188_152 rfl)
    replace hr := hr.go (s_getr t188_153 (hG.1.2.1.1))
    replace hr := hr.go (s_k t188_156)
    replace hr := hr.go (s_iaload t188_157 (hG.1.2.1.2.1))
    rcases hr.bGe t188_158 with ⟨b158, hr⟩ | ⟨b158, hr⟩
    · replace hr := hr.go (s_lconst t188_170)
      exact k171 _ _ _ (fun a ha => by (repeat rw [xu_row (by omega)]); exact hm a ha) hr
    · replace hr := hr.go (s_aload_n t188_161 rfl)
      replace hr := hr.go (s_getr t188_162 (hG.1.2.2.1 12 (by decide) (by decide)))
      replace hr := hr.go (s_iload_n t188_165 rfl)
      replace hr := hr.go (s_laload t188_166)
      replace hr := hr.go (s_goto t188_167)
      exact k171 _ _ _ (fun a ha => by (repeat rw [xu_row (by omega)]); exact hm a ha) hr
  have k94 : ∀ (x : Int32) (m : xM) (g : xL), (∀ a : Nat, a < 150 → m a = m0 a) → RR nf xs d 11 false 5 none zt188 G r h' N (94, [(4, .int b), (3, .int i), (2, .int k), (0, .ref 128), (1, .int 0)], [.int x, .int i, .ref 156], m, g) → ∃ (m' : xM) (g' : xL), HS h' m' g' G ∧ r = none ∧ ∀ a : Nat, a < 150 → m' a = m0 a := by
    intro x m g hm hr
    replace hr := hr.go (s_iastore t188_94)
    replace hr := hr.go (s_aload_n t188_95 rfl)
    replace hr := hr.go (s_getr t188_96 (hF 44 (by decide) (by decide)))
    replace hr := hr.go (s_iload_n t188_99 rfl)
    replace hr := hr.go (s_k t188_100)
    replace hr := hr.go (s_iastore t188_101)
    replace hr := hr.go (s_aload_n t188_102 rfl)
    replace hr := hr.go (s_getr t188_103 (hF 45 (by decide) (by decide)))
    replace hr := hr.go (s_iload_n t188_106 rfl)
    replace hr := hr.go (s_iload t188_107 rfl)
    rcases hr.zEq t188_109 with ⟨b109, hr⟩ | ⟨b109, hr⟩
    · replace hr := hr.go (s_k t188_116)
      exact k117 _ _ _ (fun a ha => by (repeat rw [xu_row (by omega)]); exact hm a ha) hr
    · replace hr := hr.go (s_k t188_112)
      replace hr := hr.go (s_goto t188_113)
      exact k117 _ _ _ (fun a ha => by (repeat rw [xu_row (by omega)]); exact hm a ha) hr
  replace hr := hr.go (s_aload_n t188_74 rfl)
  replace hr := hr.go (s_getr t188_75 (hF 43 (by decide) (by decide)))
  replace hr := hr.go (s_iload_n t188_78 rfl)
  replace hr := hr.go (s_iload t188_79 rfl)
  rcases hr.zEq t188_81 with ⟨b81, hr⟩ | ⟨b81, hr⟩
  · replace hr := hr.go (s_k t188_93)
    exact k94 _ _ _ (fun a ha => by (repeat rw [xu_row (by omega)]); exact hm a ha) hr
  · replace hr := hr.go (s_aload_n t188_84 rfl)
    replace hr := hr.go (s_getr t188_85 (hG.1.2.2.1 7 (by decide) (by decide)))
    replace hr := hr.go (s_iload_n t188_88 rfl)
    replace hr := hr.go (s_iaload t188_89 (hG.2.2.1 134 12 (by decide)))
    replace hr := hr.go (s_goto t188_90)
    exact k94 _ _ _ (fun a ha => by (repeat rw [xu_row (by omega)]); exact hm a ha) hr
theorem lp188a {nf : Bool} {xs : List Int32} {d : Nat} {G : xG} {r : Option Value} {h' : zH} {m0 : xM} (hG : GT G) : ∀ (N : Nat) (k b i : Int32) (m : xM) (g : xL), (∀ a : Nat, a < 150 → m a = m0 a) → RR nf xs d 11 false 5 none zt188 G r h' N (44, [(2, .int k), (4, .int b), (3, .int i), (0, .ref 128), (1, .int 0)], [], m, g) → ∃ (m' : xM) (g' : xL), HS h' m' g' G ∧ r = none ∧ ∀ a : Nat, a < 150 → m' a = m0 a := by
  have hF := hG.2.1
  intro N
  induction N with
  | zero => intro k b i m g _ hr; exact hr.no.elim
  | succ N ih =>
    intro k b i m g hm hr
    replace hr := hr.go1 (s_iload_n t188_44 rfl)
    replace hr := hr.go (s_k t188_45)
    rcases hr.bGe t188_47 with ⟨b47, hr⟩ | ⟨b47, hr⟩
    · replace hr := hr.go (s_k t188_178)
      replace hr := hr.go (s_istore_n (ls' := [(2, _), (4, _), (3, _), (0, _), (1, _)]) t188_179 rfl)
      exact lp188b hG _ _ _ _ _ _ hm hr
    · replace hr := hr.go (s_k t188_50)
      replace hr := hr.go (s_iload_n t188_52 rfl)
      replace hr := hr.go (s_imul t188_53)
      replace hr := hr.go (s_iload_n t188_54 rfl)
      replace hr := hr.go (s_iadd t188_55)
      replace hr := hr.go (s_istore_n (ls' := [(3, _), (2, _), (4, _), (0, _), (1, _)]) t188_56 rfl)
      replace hr := hr.go (s_iload_n t188_57 rfl)
      replace hr := hr.go (s_aload_n t188_58 rfl)
      replace hr := hr.go (s_getr t188_59 (hG.1.2.1.1))
      replace hr := hr.go (s_k t188_62)
      replace hr := hr.go (s_iaload t188_63 (hG.1.2.1.2.1))
      rcases hr.bGe t188_64 with ⟨b64, hr⟩ | ⟨b64, hr⟩
      · replace hr := hr.go (s_k t188_71)
        replace hr := hr.go (s_istore (ls' := [(4, _), (3, _), (2, _), (0, _), (1, _)]) t188_72 rfl)
        exact bd188 hG hm (fun k b i m g q1 q2 => ih k b i m g q1 q2) hr
      · replace hr := hr.go (s_k t188_67)
        replace hr := hr.go (s_goto t188_68)
        replace hr := hr.go (s_istore (ls' := [(4, _), (3, _), (2, _), (0, _), (1, _)]) t188_72 rfl)
        exact bd188 hG hm (fun k b i m g q1 q2 => ih k b i m g q1 q2) hr
theorem ct_starts {nf : Bool} {xs : List Int32} {d : Nat} {m : xM} {g : xL} {G : xG} (hG : GT G) : CT nf xs d 188 [.ref 128, .int 0] m g G (fun r m' _ => r = none ∧ ∀ a : Nat, a < 150 → m' a = m a) := by
  have hF := hG.2.1
  refine CT.of (c := 11) (ini := false) (nL := 5) (rt := none) (tab := zt188) rfl (fun d' r h' N hd' hr => ?_)
  replace hr : RR nf xs d' 11 false 5 none zt188 G r h' N (0, [(0, .ref 128), (1, .int 0)], [], m, g) := hr
  have hr : RR nf xs d' 11 false 5 none zt188 G r h' N (0, [(0, .ref 128), (1, .int 0)], [], m, g) := hr
  replace hr := hr.go (s_aload_n t188_0 rfl)
  replace hr := hr.go (s_getr t188_1 (hF 37 (by decide) (by decide)))
  replace hr := hr.go (s_iload_n t188_4 rfl)
  replace hr := hr.go (s_k t188_5)
  replace hr := hr.go (s_iastore t188_6)
  replace hr := hr.go (s_aload_n t188_7 rfl)
  replace hr := hr.go (s_getr t188_8 (hF 38 (by decide) (by decide)))
  replace hr := hr.go (s_iload_n t188_11 rfl)
  replace hr := hr.go (s_k t188_12)
  replace hr := hr.go (s_iastore t188_13)
  replace hr := hr.go (s_aload_n t188_14 rfl)
  replace hr := hr.go (s_getr t188_15 (hF 39 (by decide) (by decide)))
  replace hr := hr.go (s_iload_n t188_18 rfl)
  replace hr := hr.go (s_k t188_19)
  replace hr := hr.go (s_iastore t188_20)
  replace hr := hr.go (s_aload_n t188_21 rfl)
  replace hr := hr.go (s_getr t188_22 (hF 40 (by decide) (by decide)))
  replace hr := hr.go (s_iload_n t188_25 rfl)
  replace hr := hr.go (s_k t188_26)
  replace hr := hr.go (s_iastore t188_27)
  replace hr := hr.go (s_aload_n t188_28 rfl)
  replace hr := hr.go (s_getr t188_29 (hF 41 (by decide) (by decide)))
  replace hr := hr.go (s_iload_n t188_32 rfl)
  replace hr := hr.go (s_k t188_33)
  replace hr := hr.go (s_iastore t188_34)
  replace hr := hr.go (s_aload_n t188_35 rfl)
  replace hr := hr.go (s_getr t188_36 (hF 42 (by decide) (by decide)))
  replace hr := hr.go (s_iload_n t188_39 rfl)
  replace hr := hr.go (s_k t188_40)
  replace hr := hr.go (s_iastore t188_41)
  replace hr := hr.go (s_k t188_42)
  replace hr := hr.go (s_istore_n (ls' := [(2, _), (0, _), (1, _)]) t188_43 rfl)
  replace hr := hr.go (s_iload_n t188_44 rfl)
  replace hr := hr.go (s_k t188_45)
  replace hr := hr.brF t188_47 (by decide)
  replace hr := hr.go (s_k t188_50)
  replace hr := hr.go (s_iload_n t188_52 rfl)
  replace hr := hr.go (s_imul t188_53)
  replace hr := hr.go (s_iload_n t188_54 rfl)
  replace hr := hr.go (s_iadd t188_55)
  replace hr := hr.go (s_istore_n (ls' := [(3, _), (2, _), (0, _), (1, _)]) t188_56 rfl)
  replace hr := hr.go (s_iload_n t188_57 rfl)
  replace hr := hr.go (s_aload_n t188_58 rfl)
  replace hr := hr.go (s_getr t188_59 (hG.1.2.1.1))
  replace hr := hr.go (s_k t188_62)
  replace hr := hr.go (s_iaload t188_63 (hG.1.2.1.2.1))
  rcases hr.bGe t188_64 with ⟨b64, hr⟩ | ⟨b64, hr⟩
  · replace hr := hr.go (s_k t188_71)
    replace hr := hr.go (s_istore (ls' := [(4, _), (3, _), (2, _), (0, _), (1, _)]) t188_72 rfl)
    exact bd188 (m0 := m) hG (fun a ha => by (repeat rw [xu_row (by omega)])) (fun k b i m g q1 q2 => lp188a hG _ k b i m g q1 q2) hr
  · replace hr := hr.go (s_k t188_67)
    replace hr := hr.go (s_goto t188_68)
    replace hr := hr.go (s_istore (ls' := [(4, _), (3, _), (2, _), (0, _), (1, _)]) t188_72 rfl)
    exact bd188 (m0 := m) hG (fun a ha => by (repeat rw [xu_row (by omega)])) (fun k b i m g q1 q2 => lp188a hG _ k b i m g q1 q2) hr
theorem ct_begins {nf : Bool} {xs : List Int32} {d : Nat} {m : xM} {g : xL} {G : xG} (hG : GT G) : CT nf xs d 189 [.ref 128] m g G (fun r m' _ => r = none ∧ ∀ a : Nat, a < 150 → m' a = m a) := by
  refine CT.of (c := 11) (ini := false) (nL := 1) (rt := none) (tab := zt189) rfl (fun d' r h' N hd' hr => ?_)
  replace hr : RR nf xs d' 11 false 1 none zt189 G r h' N (0, [(0, .ref 128)], [], m, g) := hr
  replace hr := hr.go (s_aload_n t189_0 rfl)
  replace hr := hr.go (s_k t189_1)
  obtain ⟨_, m1, g1, ⟨rfl, h1⟩, hr⟩ := hr.callv t189_2 rfl rfl (ct_starts hG)
  replace hr : RR nf xs d' 11 false 1 none zt189 G r h' N (5, [(0, .ref 128)], [], m1, g1) := hr
  obtain ⟨rfl, hs⟩ := hr.ret t189_5
  exact ⟨_, _, hs, rfl, h1⟩
end
section
/-! The reference: its row 0 begun, exactly (by program: wip/x/gV8.py). -/
/-- seats and tellings of the row that now is, as the first halves have them -/
def bSe (R : Nat) (f : Nat → Int32) (p : Nat) : Int32 := if p < R then f p else 0
def bTe (J : Nat) (f : Nat → Int64) (p : Nat) : Int64 := if p < J then f p else 0
def GS0 (G : xG) : Prop := (∀ k : Nat, 37 ≤ k → k ≤ 51 → G.1 128 k = some (113 + k)) ∧ G.1 128 3 = some 130 ∧ G.1 128 7 = some 134 ∧ G.1 128 12 = some 139 ∧ G.2 130 = (0, 1, 18) ∧ G.2 134 = (0, 1, 12)
theorem ix0 {k : Nat} : (6 : Int32) * 0 + Int32.ofNat k = Int32.ofNat k := by
  rw [show (6 : Int32) * 0 = 0 from rfl, Int32.zero_add]
theorem lp188y {nf : Bool} {xs : List Int32} {d : Nat} {g : xL} {G : xG} {r : Option Value} {h' : zH} {b i : Int32} {m0 : xM} (hG : GS0 G) : ∀ (N : Nat) (k : Int32) (m : xM), (∀ c : Nat, ¬ c = 163 → m c = m0 c) → RR nf xs d 11 false 5 none zt188 G r h' N (180, [(2, .int k), (4, .int b), (3, .int i), (0, .ref 128), (1, .int 0)], [], m, g) → ∃ (m' : xM) (g' : xL), HS h' m' g' G ∧ r = none ∧ g' = g ∧ ∀ c : Nat, ¬ c = 163 → m' c = m0 c := by
  intro N
  induction N with
  | zero => intro k m _ hr; exact hr.no.elim
  | succ N ih =>
    intro k m hm hr
    replace hr := hr.go1 (s_iload_n t188_180 rfl)
    replace hr := hr.go (s_k t188_181)
    rcases hr.bGe t188_183 with ⟨b183, hr⟩ | ⟨b183, hr⟩
    · obtain ⟨rfl, hs⟩ := hr.ret t188_204
      exact ⟨_, _, hs, rfl, rfl, hm⟩
    · replace hr := hr.go (s_aload_n t188_186 rfl)
      replace hr := hr.go (s_getr t188_187 (hG.1 50 (by decide) (by decide)))
      replace hr := hr.go (s_k t188_190)
      replace hr := hr.go (s_iload_n t188_192 rfl)
      replace hr := hr.go (s_imul t188_193)
      replace hr := hr.go (s_iload_n t188_194 rfl)
      replace hr := hr.go (s_iadd t188_195)
      replace hr := hr.go (s_k t188_196)
      replace hr := hr.go (s_iastore t188_197)
      replace hr := hr.go (s_iinc (ls' := [(2, _), (4, _), (3, _), (0, _), (1, _)]) t188_198 rfl rfl)
      replace hr := hr.go (s_goto t188_201)
      exact ih _ _ (fun c hc => (xu_row hc).trans (hm c hc)) hr
theorem bd188y {nf : Bool} {xs : List Int32} {d : Nat} {g : xL} {G : xG} {r : Option Value} {h' : zH} {k R J N : Nat} {b : Int32} {m : xM} (hG : GS0 G) (hR : m 130 1 = Int32.ofNat R) (hJ : m 130 2 = Int32.ofNat J) (hR6 : R ≤ 6) (hJ6 : J ≤ 6) (hk : k < 6) (hb : b = 1 ∧ k < R ∨ b = 0 ∧ R ≤ k) (hr : RR nf xs d 11 false 5 none zt188 G r h' N (74, [(4, .int b), (3, .int (Int32.ofNat k)), (2, .int (Int32.ofNat k)), (0, .ref 128), (1, .int 0)], [], m, g)) : ∃ (m2 : xM) (g2 : xL), (∀ c : Nat, c < 156 ∨ 162 < c → m2 c = m c) ∧ (∀ c : Nat, ¬ c = 164 → g2 c = g c) ∧ (∀ q : Nat, m2 156 q = if q = k then bSe R (m 134) k else m 156 q) ∧ (∀ q : Nat, g2 164 q = if q = k then bTe J (g 139) k else g 164 q) ∧ RR nf xs d 11 false 5 none zt188 G r h' N (44, [(2, .int (Int32.ofNat (k + 1))), (4, .int b), (3, .int (Int32.ofNat k)), (0, .ref 128), (1, .int 0)], [], m2, g2) := by
  have qk : (Int32.ofNat k).toInt = (k : Int) := xn_int (by omega)
  have qJ : (Int32.ofNat J).toInt = (J : Int) := xn_int (by omega)
  rcases hb with ⟨rfl, hk2⟩ | ⟨rfl, hk2⟩
  · replace hr := hr.go (s_aload_n t188_74 rfl)
    replace hr := hr.go (s_getr t188_75 (hG.1 43 (by decide) (by decide)))
    replace hr := hr.go (s_iload_n t188_78 rfl)
    replace hr := hr.go (s_iload t188_79 rfl)
    replace hr := hr.bzF t188_81 (by decide)
    replace hr := hr.go (s_aload_n t188_84 rfl)
    replace hr := hr.go (s_getr t188_85 (hG.2.2.1))
    replace hr := hr.go (s_iload_n t188_88 rfl)
    replace hr := hr.go (s_iaload t188_89 (hG.2.2.2.2.2))
    replace hr := hr.go (s_goto t188_90)
    replace hr := hr.go (s_iastore t188_94)
    replace hr := hr.go (s_aload_n t188_95 rfl)
    replace hr := hr.go (s_getr t188_96 (hG.1 44 (by decide) (by decide)))
    replace hr := hr.go (s_iload_n t188_99 rfl)
    replace hr := hr.go (s_k t188_100)
    replace hr := hr.go (s_iastore t188_101)
    replace hr := hr.go (s_aload_n t188_102 rfl)
    replace hr := hr.go (s_getr t188_103 (hG.1 45 (by decide) (by decide)))
    replace hr := hr.go (s_iload_n t188_106 rfl)
    replace hr := hr.go (s_iload t188_107 rfl)
    replace hr := hr.bzF t188_109 (by decide)
    replace hr := hr.go (s_k t188_112)
    replace hr := hr.go (s_goto t188_113)
    replace hr := hr.go (s_iastore t188_117)
    replace hr := hr.go (s_aload_n t188_118 rfl)
    replace hr := hr.go (s_getr t188_119 (hG.1 46 (by decide) (by decide)))
    replace hr := hr.go (s_iload_n t188_122 rfl)
    replace hr := hr.go (s_k t188_123)
    replace hr := hr.go (s_iastore t188_124)
    replace hr := hr.go (s_aload_n t188_125 rfl)
    replace hr := hr.go (s_getr t188_126 (hG.1 47 (by decide) (by decide)))
    replace hr := hr.go (s_iload_n t188_129 rfl)
    replace hr := hr.go (s_k t188_130)
    replace hr := hr.go (s_iastore t188_131)
    replace hr := hr.go (s_aload_n t188_132 rfl)
    replace hr := hr.go (s_getr t188_133 (hG.1 48 (by decide) (by decide)))
    replace hr := hr.go (s_iload_n t188_136 rfl)
    replace hr := hr.go (s_k t188_137)
    replace hr := hr.go (s_iastore t188_138)
    replace hr := hr.go (s_aload_n t188_139 rfl)
    replace hr := hr.go (s_getr t188_140 (hG.1 49 (by decide) (by decide)))
    replace hr := hr.go (s_iload_n t188_143 rfl)
    replace hr := hr.go (s_k t188_144)
    replace hr := hr.go (s_iastore t188_145)
    replace hr := hr.go (s_aload_n t188_146 rfl)
    replace hr := hr.go (s_getr t188_147 (hG.1 51 (by decide) (by decide)))
    replace hr := hr.go (s_iload_n t188_150 rfl)
    replace hr := hr.go (s_iload_n t188_151 rfl)
    replace hr := hr.go (s_aload_n t188_152 rfl)
    replace hr := hr.go (s_getr t188_153 (hG.2.1))
    replace hr := hr.go (s_k t188_156)
    replace hr := hr.go (s_iaload t188_157 (hG.2.2.2.2.1))
    repeat rw [xu_row (b := 130) (by decide)] at hr
    rw [show m 130 (Int32.toNatClampNeg 2) = Int32.ofNat J from hJ] at hr
    rcases hr.bGe t188_158 with ⟨b158, hr⟩ | ⟨b158, hr⟩
    · replace hr := hr.go (s_lconst t188_170)
      replace hr := hr.go (s_lastore t188_171)
      rw [xn_nat (show k < 2147483648 by omega)] at hr
      replace hr := hr.go (s_iinc (ls' := [(2, _), (4, _), (3, _), (0, _), (1, _)]) t188_172 rfl rfl)
      rw [xn_1i] at hr
      replace hr := hr.go (s_goto t188_175)
      refine ⟨_, _, fun c hc => ?_, fun c hc => xu_row hc, fun q => ?_, fun q => ?_, hr⟩
      · repeat rw [xu_row (by omega)]
      · repeat rw [xu_row (by decide)]
        rw [xu_at, show bSe R (m 134) k = m 134 k from if_pos hk2]
      · rw [xu_at, show bTe J (g 139) k = 0 from if_neg (by omega)]
        rfl
    · replace hr := hr.go (s_aload_n t188_161 rfl)
      replace hr := hr.go (s_getr t188_162 (hG.2.2.2.1))
      replace hr := hr.go (s_iload_n t188_165 rfl)
      replace hr := hr.go (s_laload t188_166)
      replace hr := hr.go (s_goto t188_167)
      replace hr := hr.go (s_lastore t188_171)
      rw [xn_nat (show k < 2147483648 by omega)] at hr
      replace hr := hr.go (s_iinc (ls' := [(2, _), (4, _), (3, _), (0, _), (1, _)]) t188_172 rfl rfl)
      rw [xn_1i] at hr
      replace hr := hr.go (s_goto t188_175)
      refine ⟨_, _, fun c hc => ?_, fun c hc => xu_row hc, fun q => ?_, fun q => ?_, hr⟩
      · repeat rw [xu_row (by omega)]
      · repeat rw [xu_row (by decide)]
        rw [xu_at, show bSe R (m 134) k = m 134 k from if_pos hk2]
      · rw [xu_at, show bTe J (g 139) k = g 139 k from if_pos (by omega)]
  · replace hr := hr.go (s_aload_n t188_74 rfl)
    replace hr := hr.go (s_getr t188_75 (hG.1 43 (by decide) (by decide)))
    replace hr := hr.go (s_iload_n t188_78 rfl)
    replace hr := hr.go (s_iload t188_79 rfl)
    replace hr := hr.bzT t188_81 (by decide)
    replace hr := hr.go (s_k t188_93)
    replace hr := hr.go (s_iastore t188_94)
    replace hr := hr.go (s_aload_n t188_95 rfl)
    replace hr := hr.go (s_getr t188_96 (hG.1 44 (by decide) (by decide)))
    replace hr := hr.go (s_iload_n t188_99 rfl)
    replace hr := hr.go (s_k t188_100)
    replace hr := hr.go (s_iastore t188_101)
    replace hr := hr.go (s_aload_n t188_102 rfl)
    replace hr := hr.go (s_getr t188_103 (hG.1 45 (by decide) (by decide)))
    replace hr := hr.go (s_iload_n t188_106 rfl)
    replace hr := hr.go (s_iload t188_107 rfl)
    replace hr := hr.bzT t188_109 (by decide)
    replace hr := hr.go (s_k t188_116)
    replace hr := hr.go (s_iastore t188_117)
    replace hr := hr.go (s_aload_n t188_118 rfl)
    replace hr := hr.go (s_getr t188_119 (hG.1 46 (by decide) (by decide)))
    replace hr := hr.go (s_iload_n t188_122 rfl)
    replace hr := hr.go (s_k t188_123)
    replace hr := hr.go (s_iastore t188_124)
    replace hr := hr.go (s_aload_n t188_125 rfl)
    replace hr := hr.go (s_getr t188_126 (hG.1 47 (by decide) (by decide)))
    replace hr := hr.go (s_iload_n t188_129 rfl)
    replace hr := hr.go (s_k t188_130)
    replace hr := hr.go (s_iastore t188_131)
    replace hr := hr.go (s_aload_n t188_132 rfl)
    replace hr := hr.go (s_getr t188_133 (hG.1 48 (by decide) (by decide)))
    replace hr := hr.go (s_iload_n t188_136 rfl)
    replace hr := hr.go (s_k t188_137)
    replace hr := hr.go (s_iastore t188_138)
    replace hr := hr.go (s_aload_n t188_139 rfl)
    replace hr := hr.go (s_getr t188_140 (hG.1 49 (by decide) (by decide)))
    replace hr := hr.go (s_iload_n t188_143 rfl)
    replace hr := hr.go (s_k t188_144)
    replace hr := hr.go (s_iastore t188_145)
    replace hr := hr.go (s_aload_n t188_146 rfl)
    replace hr := hr.go (s_getr t188_147 (hG.1 51 (by decide) (by decide)))
    replace hr := hr.go (s_iload_n t188_150 rfl)
    replace hr := hr.go (s_iload_n t188_151 rfl)
    replace hr := hr.go (s_aload_n t188_152 rfl)
    replace hr := hr.go (s_getr t188_153 (hG.2.1))
    replace hr := hr.go (s_k t188_156)
    replace hr := hr.go (s_iaload t188_157 (hG.2.2.2.2.1))
    repeat rw [xu_row (b := 130) (by decide)] at hr
    rw [show m 130 (Int32.toNatClampNeg 2) = Int32.ofNat J from hJ] at hr
    rcases hr.bGe t188_158 with ⟨b158, hr⟩ | ⟨b158, hr⟩
    · replace hr := hr.go (s_lconst t188_170)
      replace hr := hr.go (s_lastore t188_171)
      rw [xn_nat (show k < 2147483648 by omega)] at hr
      replace hr := hr.go (s_iinc (ls' := [(2, _), (4, _), (3, _), (0, _), (1, _)]) t188_172 rfl rfl)
      rw [xn_1i] at hr
      replace hr := hr.go (s_goto t188_175)
      refine ⟨_, _, fun c hc => ?_, fun c hc => xu_row hc, fun q => ?_, fun q => ?_, hr⟩
      · repeat rw [xu_row (by omega)]
      · repeat rw [xu_row (by decide)]
        rw [xu_at, show bSe R (m 134) k = 0 from if_neg (by omega)]
      · rw [xu_at, show bTe J (g 139) k = 0 from if_neg (by omega)]
        rfl
    · replace hr := hr.go (s_aload_n t188_161 rfl)
      replace hr := hr.go (s_getr t188_162 (hG.2.2.2.1))
      replace hr := hr.go (s_iload_n t188_165 rfl)
      replace hr := hr.go (s_laload t188_166)
      replace hr := hr.go (s_goto t188_167)
      replace hr := hr.go (s_lastore t188_171)
      rw [xn_nat (show k < 2147483648 by omega)] at hr
      replace hr := hr.go (s_iinc (ls' := [(2, _), (4, _), (3, _), (0, _), (1, _)]) t188_172 rfl rfl)
      rw [xn_1i] at hr
      replace hr := hr.go (s_goto t188_175)
      refine ⟨_, _, fun c hc => ?_, fun c hc => xu_row hc, fun q => ?_, fun q => ?_, hr⟩
      · repeat rw [xu_row (by omega)]
      · repeat rw [xu_row (by decide)]
        rw [xu_at, show bSe R (m 134) k = 0 from if_neg (by omega)]
      · rw [xu_at, show bTe J (g 139) k = g 139 k from if_pos (by omega)]
theorem lp188x {nf : Bool} {xs : List Int32} {d : Nat} {G : xG} {r : Option Value} {h' : zH} {R J : Nat} {m0 : xM} {g0 : xL} (hG : GS0 G) (hR : m0 130 1 = Int32.ofNat R) (hJ : m0 130 2 = Int32.ofNat J) (hR6 : R ≤ 6) (hJ6 : J ≤ 6) : ∀ (N k : Nat) (b i : Int32) (m : xM) (g : xL), (∀ c : Nat, c < 156 ∨ 162 < c → m c = m0 c) → (∀ c : Nat, ¬ c = 164 → g c = g0 c) → (∀ q : Nat, q < k → m 156 q = bSe R (m0 134) q) → (∀ q : Nat, q < k → g 164 q = bTe J (g0 139) q) → k ≤ 6 → RR nf xs d 11 false 5 none zt188 G r h' N (44, [(2, .int (Int32.ofNat k)), (4, .int b), (3, .int i), (0, .ref 128), (1, .int 0)], [], m, g) → ∃ (m' : xM) (g' : xL), HS h' m' g' G ∧ r = none ∧ (∀ c : Nat, c < 156 ∨ 163 < c → m' c = m0 c) ∧ (∀ c : Nat, ¬ c = 164 → g' c = g0 c) ∧ (∀ q : Nat, q < 6 → m' 156 q = bSe R (m0 134) q) ∧ ∀ q : Nat, q < 6 → g' 164 q = bTe J (g0 139) q := by
  intro N
  induction N with
  | zero => intro k b i m g _ _ _ _ _ hr; exact hr.no.elim
  | succ N ih =>
    intro k b i m g h1 h2 h3 h4 hk hr
    have qk : (Int32.ofNat k).toInt = (k : Int) := xn_int (by omega)
    have qR : (Int32.ofNat R).toInt = (R : Int) := xn_int (by omega)
    have k6 : (6 : Int32).toInt = 6 := rfl
    have w130 : m 130 = m0 130 := h1 130 (by decide)
    have w134 : m 134 = m0 134 := h1 134 (by decide)
    have w139 : g 139 = g0 139 := h2 139 (by decide)
    replace hr := hr.go1 (s_iload_n t188_44 rfl)
    replace hr := hr.go (s_k t188_45)
    rcases hr.bGe t188_47 with ⟨b47, hr⟩ | ⟨b47, hr⟩
    · replace hr := hr.go (s_k t188_178)
      replace hr := hr.go (s_istore_n (ls' := [(2, _), (4, _), (3, _), (0, _), (1, _)]) t188_179 rfl)
      obtain ⟨m', g', hs, e1, e2, e3⟩ := lp188y hG N _ m (fun c _ => rfl) hr
      subst e2
      exact ⟨m', _, hs, e1, fun c hc => (e3 c (by omega)).trans (h1 c (by omega)), h2, fun q hq => by rw [e3 156 (by decide)]; exact h3 q (by omega), fun q hq => h4 q (by omega)⟩
    · replace hr := hr.go (s_k t188_50)
      replace hr := hr.go (s_iload_n t188_52 rfl)
      replace hr := hr.go (s_imul t188_53)
      replace hr := hr.go (s_iload_n t188_54 rfl)
      replace hr := hr.go (s_iadd t188_55)
      rw [ix0] at hr
      replace hr := hr.go (s_istore_n (ls' := [(3, _), (2, _), (4, _), (0, _), (1, _)]) t188_56 rfl)
      replace hr := hr.go (s_iload_n t188_57 rfl)
      replace hr := hr.go (s_aload_n t188_58 rfl)
      replace hr := hr.go (s_getr t188_59 (hG.2.1))
      replace hr := hr.go (s_k t188_62)
      replace hr := hr.go (s_iaload t188_63 (hG.2.2.2.2.1))
      rw [show m 130 (Int32.toNatClampNeg 1) = Int32.ofNat R from (congrFun w130 1).trans hR] at hr
      rcases hr.bGe t188_64 with ⟨b64, hr⟩ | ⟨b64, hr⟩
      · replace hr := hr.go (s_k t188_71)
        replace hr := hr.go (s_istore (ls' := [(4, _), (3, _), (2, _), (0, _), (1, _)]) t188_72 rfl)
        obtain ⟨m2, g2, f1, f2, f3, f4, hr⟩ := bd188y (k := k) (R := R) (J := J) hG (by rw [w130, hR]) (by rw [w130, hJ]) hR6 hJ6 (by omega) (Or.inr ⟨rfl, by omega⟩) hr
        refine ih (k + 1) _ _ m2 g2 (fun c hc => (f1 c hc).trans (h1 c hc)) (fun c hc => (f2 c hc).trans (h2 c hc)) (fun q hq => ?_) (fun q hq => ?_) (by omega) hr
        · rw [f3 q]
          by_cases e : q = k
          · rw [if_pos e, w134, e]
          · rw [if_neg e]; exact h3 q (by omega)
        · rw [f4 q]
          by_cases e : q = k
          · rw [if_pos e, w139, e]
          · rw [if_neg e]; exact h4 q (by omega)
      · replace hr := hr.go (s_k t188_67)
        replace hr := hr.go (s_goto t188_68)
        replace hr := hr.go (s_istore (ls' := [(4, _), (3, _), (2, _), (0, _), (1, _)]) t188_72 rfl)
        obtain ⟨m2, g2, f1, f2, f3, f4, hr⟩ := bd188y (k := k) (R := R) (J := J) hG (by rw [w130, hR]) (by rw [w130, hJ]) hR6 hJ6 (by omega) (Or.inl ⟨rfl, by omega⟩) hr
        refine ih (k + 1) _ _ m2 g2 (fun c hc => (f1 c hc).trans (h1 c hc)) (fun c hc => (f2 c hc).trans (h2 c hc)) (fun q hq => ?_) (fun q hq => ?_) (by omega) hr
        · rw [f3 q]
          by_cases e : q = k
          · rw [if_pos e, w134, e]
          · rw [if_neg e]; exact h3 q (by omega)
        · rw [f4 q]
          by_cases e : q = k
          · rw [if_pos e, w139, e]
          · rw [if_neg e]; exact h4 q (by omega)
theorem ct_startsX {nf : Bool} {xs : List Int32} {d : Nat} {m : xM} {g : xL} {G : xG} {R J : Nat} (hG : GS0 G) (hR : m 130 1 = Int32.ofNat R) (hJ : m 130 2 = Int32.ofNat J) (hR6 : R ≤ 6) (hJ6 : J ≤ 6) : CT nf xs d 188 [.ref 128, .int 0] m g G (fun r m' g' => r = none ∧ (∀ c : Nat, c < 150 ∨ 163 < c → m' c = m c) ∧ (∀ c : Nat, ¬ c = 164 → g' c = g c) ∧ m' 150 0 = 0 ∧ m' 151 0 = 0 ∧ m' 155 0 = 0 ∧ (∀ q : Nat, q < 6 → m' 156 q = bSe R (m 134) q) ∧ ∀ q : Nat, q < 6 → g' 164 q = bTe J (g 139) q) := by
  refine CT.of (c := 11) (ini := false) (nL := 5) (rt := none) (tab := zt188) rfl (fun d' r h' N hd' hr => ?_)
  replace hr : RR nf xs d' 11 false 5 none zt188 G r h' N (0, [(0, .ref 128), (1, .int 0)], [], m, g) := hr
  have qR : (Int32.ofNat R).toInt = (R : Int) := xn_int (by omega)
  have q0 : (0 : Int32).toInt = 0 := rfl
  replace hr := hr.go (s_aload_n t188_0 rfl)
  replace hr := hr.go (s_getr t188_1 (hG.1 37 (by decide) (by decide)))
  replace hr := hr.go (s_iload_n t188_4 rfl)
  replace hr := hr.go (s_k t188_5)
  replace hr := hr.go (s_iastore t188_6)
  replace hr := hr.go (s_aload_n t188_7 rfl)
  replace hr := hr.go (s_getr t188_8 (hG.1 38 (by decide) (by decide)))
  replace hr := hr.go (s_iload_n t188_11 rfl)
  replace hr := hr.go (s_k t188_12)
  replace hr := hr.go (s_iastore t188_13)
  replace hr := hr.go (s_aload_n t188_14 rfl)
  replace hr := hr.go (s_getr t188_15 (hG.1 39 (by decide) (by decide)))
  replace hr := hr.go (s_iload_n t188_18 rfl)
  replace hr := hr.go (s_k t188_19)
  replace hr := hr.go (s_iastore t188_20)
  replace hr := hr.go (s_aload_n t188_21 rfl)
  replace hr := hr.go (s_getr t188_22 (hG.1 40 (by decide) (by decide)))
  replace hr := hr.go (s_iload_n t188_25 rfl)
  replace hr := hr.go (s_k t188_26)
  replace hr := hr.go (s_iastore t188_27)
  replace hr := hr.go (s_aload_n t188_28 rfl)
  replace hr := hr.go (s_getr t188_29 (hG.1 41 (by decide) (by decide)))
  replace hr := hr.go (s_iload_n t188_32 rfl)
  replace hr := hr.go (s_k t188_33)
  replace hr := hr.go (s_iastore t188_34)
  replace hr := hr.go (s_aload_n t188_35 rfl)
  replace hr := hr.go (s_getr t188_36 (hG.1 42 (by decide) (by decide)))
  replace hr := hr.go (s_iload_n t188_39 rfl)
  replace hr := hr.go (s_k t188_40)
  replace hr := hr.go (s_iastore t188_41)
  obtain ⟨m0, hm0⟩ : ∃ m0 : xM, m0 = xu (xu (xu (xu (xu (xu m 150 (Int32.toNatClampNeg 0) 0) 151 (Int32.toNatClampNeg 0) 0) 152 (Int32.toNatClampNeg 0) 0) 153 (Int32.toNatClampNeg 0) 0) 154 (Int32.toNatClampNeg 0) 0) 155 (Int32.toNatClampNeg 0) 0 := ⟨_, rfl⟩
  have w130 : m0 130 = m 130 := by rw [hm0]; repeat rw [xu_row (by decide)]
  replace hr : RR nf xs d' 11 false 5 none zt188 G r h' N (42, [(0, .ref 128), (1, .int 0)], [], m0, g) := by rw [hm0]; exact hr
  replace hr := hr.go (s_k t188_42)
  replace hr := hr.go (s_istore_n (ls' := [(2, _), (0, _), (1, _)]) t188_43 rfl)
  replace hr := hr.go (s_iload_n t188_44 rfl)
  replace hr := hr.go (s_k t188_45)
  replace hr := hr.brF t188_47 (by decide)
  replace hr := hr.go (s_k t188_50)
  replace hr := hr.go (s_iload_n t188_52 rfl)
  replace hr := hr.go (s_imul t188_53)
  replace hr := hr.go (s_iload_n t188_54 rfl)
  replace hr := hr.go (s_iadd t188_55)
  rw [show (6 : Int32) * 0 + 0 = Int32.ofNat 0 from rfl] at hr
  replace hr := hr.go (s_istore_n (ls' := [(3, _), (2, _), (0, _), (1, _)]) t188_56 rfl)
  replace hr := hr.go (s_iload_n t188_57 rfl)
  replace hr := hr.go (s_aload_n t188_58 rfl)
  replace hr := hr.go (s_getr t188_59 (hG.2.1))
  replace hr := hr.go (s_k t188_62)
  replace hr := hr.go (s_iaload t188_63 (hG.2.2.2.2.1))
  rw [show m0 130 (Int32.toNatClampNeg 1) = Int32.ofNat R from (congrFun w130 1).trans hR] at hr
  rcases hr.bGe t188_64 with ⟨b64, hr⟩ | ⟨b64, hr⟩
  · replace hr := hr.go (s_k t188_71)
    replace hr := hr.go (s_istore (ls' := [(4, _), (3, _), (2, _), (0, _), (1, _)]) t188_72 rfl)
    obtain ⟨m2, g2, f1, f2, f3, f4, hr⟩ := bd188y (k := 0) (R := R) (J := J) hG (by rw [w130]; exact hR) (by rw [w130]; exact hJ) hR6 hJ6 (by omega) (Or.inr ⟨rfl, by omega⟩) hr
    obtain ⟨m', g', hs, e1, e2, e3, e4, e5⟩ := lp188x (m0 := m0) (g0 := g) hG (by rw [w130]; exact hR) (by rw [w130]; exact hJ) hR6 hJ6 _ 1 _ _ m2 g2 f1 f2 (fun q hq => by rw [f3 q, if_pos (by omega), show q = 0 by omega]) (fun q hq => by rw [f4 q, if_pos (by omega), show q = 0 by omega]) (by decide) hr
    refine ⟨m', g', hs, e1, fun c hc => ?_, e3, ?_, ?_, ?_, fun q hq => ?_, e5⟩
    · rw [e2 c (by omega), hm0]
      repeat rw [xu_row (by omega)]
    · rw [e2 150 (by decide), hm0]
      repeat rw [xu_row (a := 155) (by decide)]
      repeat rw [xu_row (by decide)]
      exact xu_same
    · rw [e2 151 (by decide), hm0]
      repeat rw [xu_row (a := 155) (by decide)]
      repeat rw [xu_row (by decide)]
      exact xu_same
    · rw [e2 155 (by decide), hm0]
      exact xu_same
    · rw [e4 q hq, hm0]
      repeat rw [xu_row (by decide)]
  · replace hr := hr.go (s_k t188_67)
    replace hr := hr.go (s_goto t188_68)
    replace hr := hr.go (s_istore (ls' := [(4, _), (3, _), (2, _), (0, _), (1, _)]) t188_72 rfl)
    obtain ⟨m2, g2, f1, f2, f3, f4, hr⟩ := bd188y (k := 0) (R := R) (J := J) hG (by rw [w130]; exact hR) (by rw [w130]; exact hJ) hR6 hJ6 (by omega) (Or.inl ⟨rfl, by omega⟩) hr
    obtain ⟨m', g', hs, e1, e2, e3, e4, e5⟩ := lp188x (m0 := m0) (g0 := g) hG (by rw [w130]; exact hR) (by rw [w130]; exact hJ) hR6 hJ6 _ 1 _ _ m2 g2 f1 f2 (fun q hq => by rw [f3 q, if_pos (by omega), show q = 0 by omega]) (fun q hq => by rw [f4 q, if_pos (by omega), show q = 0 by omega]) (by decide) hr
    refine ⟨m', g', hs, e1, fun c hc => ?_, e3, ?_, ?_, ?_, fun q hq => ?_, e5⟩
    · rw [e2 c (by omega), hm0]
      repeat rw [xu_row (by omega)]
    · rw [e2 150 (by decide), hm0]
      repeat rw [xu_row (a := 155) (by decide)]
      repeat rw [xu_row (by decide)]
      exact xu_same
    · rw [e2 151 (by decide), hm0]
      repeat rw [xu_row (a := 155) (by decide)]
      repeat rw [xu_row (by decide)]
      exact xu_same
    · rw [e2 155 (by decide), hm0]
      exact xu_same
    · rw [e4 q hq, hm0]
      repeat rw [xu_row (by decide)]
theorem ct_beginsX {nf : Bool} {xs : List Int32} {d : Nat} {m : xM} {g : xL} {G : xG} {R J : Nat} (hG : GS0 G) (hR : m 130 1 = Int32.ofNat R) (hJ : m 130 2 = Int32.ofNat J) (hR6 : R ≤ 6) (hJ6 : J ≤ 6) : CT nf xs d 189 [.ref 128] m g G (fun r m' g' => r = none ∧ (∀ c : Nat, c < 150 ∨ 163 < c → m' c = m c) ∧ (∀ c : Nat, ¬ c = 164 → g' c = g c) ∧ m' 150 0 = 0 ∧ m' 151 0 = 0 ∧ m' 155 0 = 0 ∧ (∀ q : Nat, q < 6 → m' 156 q = bSe R (m 134) q) ∧ ∀ q : Nat, q < 6 → g' 164 q = bTe J (g 139) q) := by
  refine CT.of (c := 11) (ini := false) (nL := 1) (rt := none) (tab := zt189) rfl (fun d' r h' N hd hr => ?_)
  replace hr : RR nf xs d' 11 false 1 (none) zt189 G r h' N (0, [(0, .ref 128)], [], m, g) := hr
  replace hr := hr.go (s_aload_n t189_0 rfl)
  replace hr := hr.go (s_k t189_1)
  obtain ⟨_, m1, g1, ⟨rfl, hq⟩, hr⟩ := hr.callv t189_2 rfl rfl (ct_startsX hG hR hJ hR6 hJ6)
  replace hr : RR nf xs d' 11 false 1 (none) zt189 G r h' N (5, [(0, .ref 128)], [], m1, g1) := hr
  skip
  obtain ⟨rfl, hs⟩ := hr.ret t189_5
  exact ⟨_, _, hs, rfl, hq⟩
end
