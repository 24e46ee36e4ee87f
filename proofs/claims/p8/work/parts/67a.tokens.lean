/-! Tokens of both sides are the same ones. -/
theorem wd_none {b : Nat → Int32} {s e : Nat} (hs : s ≤ e) (h6 : 6 < e - s) : ∀ (r : List (Nat × Nat)) (k w : Nat), wch r k = true → k ≤ 113 → wdM b s e (114 - k) k w = -1 := by
  intro r
  induction r with
  | nil =>
    intro k w h1 h3
    have hk : k = 113 := Nat.eq_of_beq_eq_true h1
    subst hk
    rfl
  | cons a r ih =>
    intro k w h1 h3
    obtain ⟨j, L⟩ := a
    obtain ⟨c1, c2, c3, c4, c5, c6⟩ := wch_ok h1
    subst c1
    have hm := mat_iff (b := b) (s := s) (e := e) hs c2
    rw [show 114 - j = (113 - j) + 1 by omega]
    have eU : wdM b s e (113 - j + 1) j w = if 113 ≤ j then -1 else if chW (j + lcp b s e j (e - s) 0) = 32 ∧ s + lcp b s e j (e - s) 0 = e then Int32.ofNat w else wdM b s e (113 - j) (spc (113 - j) j + 1) (w + 1) := rfl
    rw [eU, if_neg (by omega), if_neg (fun q => by have := (hm.mp q).1; omega)]
    have hsp := spc_HW c2 _ 0 rfl (by omega) c3
    rw [Nat.add_zero] at hsp
    rw [hsp, wdM_up (113 - j) (114 - (j + L + 1)) (j + L + 1) (w + 1) (by omega) (by omega) (by omega)]
    exact ih (j + L + 1) (w + 1) c6 (by omega)
theorem wlk_no {wd : Nat → Int32} {v : Int32} : ∀ (f w : Nat) (k : Int32), (∀ j : Nat, j < f → ¬ wd (w + j) = v) → wlk wd v f w k = k := by
  intro f
  induction f with
  | zero => intro w k _; rfl
  | succ f ih =>
    intro w k h
    show wlk wd v f (w + 1) (if wd w = v then 32 + Int32.ofNat w else k) = k
    rw [if_neg (by have := h 0 (by omega); rwa [Nat.add_zero] at this)]
    exact ih (w + 1) k (fun j hj => by rw [show w + 1 + j = w + (j + 1) by omega]; exact h (j + 1) (by omega))
theorem wlk_one {wd : Nat → Int32} {v : Int32} : ∀ (f w i : Nat) (k : Int32), i < f → wd (w + i) = v → (∀ j : Nat, j < f → wd (w + j) = v → j = i) → wlk wd v f w k = 32 + Int32.ofNat (w + i) := by
  intro f
  induction f with
  | zero => intro w i k h; omega
  | succ f ih =>
    intro w i k hi h1 h2
    show wlk wd v f (w + 1) (if wd w = v then 32 + Int32.ofNat w else k) = _
    cases i with
    | zero =>
      rw [if_pos (by rwa [Nat.add_zero] at h1)]
      rw [wlk_no f (w + 1) _ (fun j hj q => by
        have := h2 (j + 1) (by omega) (by rw [show w + (j + 1) = w + 1 + j by omega]; exact q)
        omega)]
      rfl
    | succ i =>
      rw [if_neg (fun q => by have := h2 0 (by omega) (by rw [Nat.add_zero]; exact q); omega)]
      rw [ih (w + 1) i k (by omega) (by rw [show w + 1 + i = w + (i + 1) by omega]; exact h1) (fun j hj q => by
        have := h2 (j + 1) (by omega) (by rw [show w + (j + 1) = w + 1 + j by omega]; exact q)
        omega)]
      rw [show w + 1 + i = w + (i + 1) by omega]
theorem wcs_inj : ∀ i : Nat, i < 22 → ∀ j : Nat, j < 22 → wcs.getD i 0 = wcs.getD j 0 → i = j := by decide +kernel
/-- the words' row -/
def WD (wd : Nat → Int32) : Prop := ∀ i : Nat, i < 22 → wd i = wcs.getD i 0
theorem word_same {b wd : Nat → Int32} {n s : Nat} (hn : n ≤ 700) (hs : s < n) (hw : WD wd) (hq : ltr (b s) = true) :
    (scn ltr fW b n s (0, 0)).1 = (scn ltr fU b n s ()).1 ∧ s < (scn ltr fU b n s ()).1 ∧ (scn ltr fU b n s ()).1 ≤ n ∧ (scn ltr fW b n s (0, 0)).2.1 = Int32.ofNat ((scn ltr fU b n s ()).1 - s) ∧
    ((scn ltr fU b n s ()).1 - s ≤ 6 → (scn ltr fW b n s (0, 0)).2.2 <<< ((5 * (6 - (scn ltr fW b n s (0, 0)).2.1)) &&& 31) = nmv b s (scn ltr fU b n s ()).1 6 0 0 ∧
      ((wdM b s (scn ltr fU b n s ()).1 114 0 0 = -1 ∧ wlk wd (nmv b s (scn ltr fU b n s ()).1 6 0 0) 22 0 3 = 3) ∨ ∃ w : Nat, w < 22 ∧ wdM b s (scn ltr fU b n s ()).1 114 0 0 = Int32.ofNat w ∧ wlk wd (nmv b s (scn ltr fU b n s ()).1 6 0 0) 22 0 3 = 32 + Int32.ofNat w)) ∧
    (6 < (scn ltr fU b n s ()).1 - s → wdM b s (scn ltr fU b n s ()).1 114 0 0 = -1) := by
  have h1 := (scn_rel (q := ltr) (f := fW) (f2 := fU) (b := b) (n := n) (p := s) (R := fun _ _ => True) (fun _ _ _ _ _ => trivial) (s := (0, 0)) (t := ()) trivial).1
  have h2 := scn_le (q := ltr) (f := fU) (b := b) (n := n) _ s () rfl (by omega)
  have h3 : s < (scn ltr fU b n s ()).1 := by
    rw [scn_t hs hq]
    have := (scn_le (q := ltr) (f := fU) (b := b) (n := n) _ (s + 1) (fU () (b s)) rfl (by omega)).1
    omega
  have h4 := fW_big (b := b) (n := n) _ s s 0 0 rfl (Nat.le_refl _) (by omega) hn (by rw [Nat.sub_self]; rfl)
  have e0 : (Int32.ofNat (s - s), pck b s (s - s)) = ((0 : Int32), (0 : Int32)) := by rw [Nat.sub_self]; rfl
  have h5 := fW_run (b := b) (n := n) _ s s rfl (Nat.le_refl _) (by omega) hn (by omega)
  rw [e0] at h5
  rw [h1] at h4 h5
  generalize (scn ltr fU b n s ()).1 = e at h1 h2 h3 h4 h5
  refine ⟨h1, h3, h2.2.1, h4, fun h6 => ?_, fun h6 => wd_none (by omega) h6 wls 0 0 wls_ok (by omega)⟩
  have h7 := h5 h6
  have hl : ∀ j : Nat, s ≤ j → j < e → ltr (b j) = true := h2.2.2.2
  have h8 := val_same hl h3 h6
  refine ⟨by rw [h7]; exact h8, ?_⟩
  rcases wd_find (wd := wd) (by omega) h6 hl wls wcs 0 0 wls_ok wpk_ok (by omega) (fun i hi => by rw [Nat.zero_add]; exact hw i hi) with ⟨q1, q2⟩ | ⟨i, q1, q2, q3⟩
  · exact Or.inl ⟨q1, wlk_no 22 0 3 (fun j hj => q2 j hj)⟩
  · refine Or.inr ⟨i, q1, ?_, ?_⟩
    · rw [Nat.zero_add] at q2; exact q2
    · have := wlk_one (wd := wd) (v := nmv b s e 6 0 0) 22 0 i 3 q1 q3 (fun j hj q => by
        rw [Nat.zero_add] at q q3
        exact wcs_inj j hj i q1 (by rw [← hw j hj, ← hw i q1, q, q3]))
      rw [Nat.zero_add] at this
      exact this
theorem nxb_byt {b : Nat → Int32} {n s : Nat} : nxb b n s = byt b n (s + 1) := rfl
theorem sg_2 {x y : Int32} : (sg x y).2 = 1 ∨ ((sg x y).2 = 2 ∧ (y = 61 ∨ y = 62)) := by
  unfold sg
  repeat' split
  all_goals first | exact Or.inl rfl | skip
  all_goals (by_cases h1 : y = 61 <;> by_cases h2 : y = 62 <;> simp [h1, h2])
/-- a token, alike on both sides; where it stands -/
theorem tok_same {b wd : Nat → Int32} {n p : Nat} {old : Int32} (hn : n ≤ 700) (hp : p ≤ n) (hw : WD wd) :
    TR (tokC b wd n p).1 (tokC b wd n p).2.1 (tokM b n p old).1 (tokM b n p old).2.1 ∧ (tokM b n p old).2.2 = (tokC b wd n p).2.2 ∧
    p ≤ (tokC b wd n p).2.2.1 ∧ (tokC b wd n p).2.2.1 ≤ (tokC b wd n p).2.2.2 ∧ (tokC b wd n p).2.2.2 ≤ n ∧ (¬ (tokC b wd n p).1 = 0 → (tokC b wd n p).2.2.1 < (tokC b wd n p).2.2.2) := by
  have hb := scn_le (q := blk) (f := fU) (b := b) (n := n) _ p () rfl hp
  unfold tokC tokM
  generalize (scn blk fU b n p ()).1 = s at hb
  by_cases c1 : n ≤ s
  · rw [if_pos c1, if_pos c1]
    exact ⟨Or.inl ⟨rfl, rfl⟩, rfl, hb.1, Nat.le_refl _, hb.2.1, fun q => absurd rfl q⟩
  rw [if_neg c1, if_neg c1]
  by_cases c2 : ltr (b s) = true
  · rw [if_pos c2, if_pos c2]
    obtain ⟨w1, w2, w3, w4, w5, w6⟩ := word_same (b := b) (wd := wd) (n := n) (s := s) hn (by omega) hw c2
    rw [w4, w1]
    generalize (scn ltr fU b n s ()).1 = e at w1 w2 w3 w4 w5 w6
    by_cases c3 : 6 < e - s
    · rw [if_pos (by rw [xn_int (by omega)]; omega), if_neg (by rw [w6 c3]; exact fun q => q rfl), if_pos c3]
      exact ⟨Or.inr (Or.inl ⟨rfl, rfl⟩), rfl, hb.1, by dsimp only; omega, w3, fun _ => w2⟩
    · rw [if_neg (by rw [xn_int (by omega)]; omega)]
      obtain ⟨v1, v2⟩ := w5 (by omega)
      rw [w4] at v1
      rw [v1]
      rcases v2 with ⟨v2, v3⟩ | ⟨w, v2, v3, v4⟩
      · rw [if_neg (by rw [v2]; exact fun q => q rfl), if_neg c3, v3]
        exact ⟨Or.inr (Or.inr (Or.inr (Or.inl ⟨rfl, rfl, rfl⟩))), rfl, hb.1, by dsimp only; omega, w3, fun _ => w2⟩
      · rw [if_pos (by
          rw [v3]
          intro q
          have := congrArg Int32.toInt q
          rw [xn_int (by omega)] at this
          have k1 : (-1 : Int32).toInt = -1 := rfl
          omega), v3, v4]
        exact ⟨Or.inr (Or.inr (Or.inr (Or.inr (Or.inl ⟨w, v2, rfl, rfl, rfl⟩)))), rfl, hb.1, by dsimp only; omega, w3, fun _ => w2⟩
  rw [if_neg c2, if_neg c2]
  by_cases c3 : dgt (b s) = true
  · rw [if_pos c3, if_pos c3]
    obtain ⟨h1, h2⟩ := scn_rel (q := dgt) (f := fN) (f2 := fR) (b := b) (n := n) (p := s) (R := nv) (fun x y c hq h => fN_nv x y c hq h) (s := 0) (t := 0) (Or.inl ⟨rfl, by decide, by decide⟩)
    have h3 := scn_le (q := dgt) (f := fN) (b := b) (n := n) _ s 0 rfl (by omega)
    have h4 : s < (scn dgt fN b n s 0).1 := by
      rw [scn_t (by omega) c3]
      have := (scn_le (q := dgt) (f := fN) (b := b) (n := n) _ (s + 1) (fN 0 (b s)) rfl (by omega)).1
      omega
    refine ⟨Or.inr (Or.inr (Or.inl ⟨rfl, rfl, h2⟩)), ?_, hb.1, by dsimp only; omega, h3.2.1, fun _ => h4⟩
    dsimp only
    rw [h1]
  rw [if_neg c3, if_neg c3]
  rw [nxb_byt]
  obtain ⟨g1, g2⟩ := sg_TR (x := b s) (y := byt b n (s + 1))
  refine ⟨g1, by dsimp only; rw [g2], hb.1, by dsimp only; omega, ?_, fun _ => ?_⟩
  · dsimp only
    rcases sg_2 (x := b s) (y := byt b n (s + 1)) with q | ⟨q, q2⟩
    · omega
    · have hlt : s + 1 < n := by
        rcases q2 with q2 | q2
        · exact (byt_in q2 (by decide)).1
        · exact (byt_in q2 (by decide)).1
      omega
  · dsimp only
    rcases sg_2 (x := b s) (y := byt b n (s + 1)) with q | ⟨q, q2⟩ <;> omega
