/-! Joined: 67a.tokens, 67b.rows, 67c.base, 67d.table, 67e.small, 67f.fields, 67g.signs, 67h.expr, 67i.expr2, 67j.expr3, 67k.law. -/
section
/-! Tokens of both sides are the same ones. -/
theorem wd_none {b : Nat → Int32} {s e : Nat} (hs : s ≤ e) (h6 : 6 < e - s) : ∀ (r : List (Nat × Nat)) (k w : Nat), wch r k = true → k ≤ 113 → wdM b s e (114 - k) k w = -1 := by
  intro r
  induction r with
  | nil =>
    intro k w h1 h3
    have hk : k = 113 := Nat.eq_of_beq_eq_true h1
    subst hk
    rfl
  | cons a r ih =>
    intro k w h1 h3
    obtain ⟨j, L⟩ := a
    obtain ⟨c1, c2, c3, c4, c5, c6⟩ := wch_ok h1
    subst c1
    have hm := mat_iff (b := b) (s := s) (e := e) hs c2
    rw [show 114 - j = (113 - j) + 1 by omega]
    have eU : wdM b s e (113 - j + 1) j w = if 113 ≤ j then -1 else if chW (j + lcp b s e j (e - s) 0) = 32 ∧ s + lcp b s e j (e - s) 0 = e then Int32.ofNat w else wdM b s e (113 - j) (spc (113 - j) j + 1) (w + 1) := rfl
    rw [eU, if_neg (by omega), if_neg (fun q => by have := (hm.mp q).1; omega)]
    have hsp := spc_HW c2 _ 0 rfl (by omega) c3
    rw [Nat.add_zero] at hsp
    rw [hsp, wdM_up (113 - j) (114 - (j + L + 1)) (j + L + 1) (w + 1) (by omega) (by omega) (by omega)]
    exact ih (j + L + 1) (w + 1) c6 (by omega)
theorem wlk_no {wd : Nat → Int32} {v : Int32} : ∀ (f w : Nat) (k : Int32), (∀ j : Nat, j < f → ¬ wd (w + j) = v) → wlk wd v f w k = k := by
  intro f
  induction f with
  | zero => intro w k _; rfl
  | succ f ih =>
    intro w k h
    show wlk wd v f (w + 1) (if wd w = v then 32 + Int32.ofNat w else k) = k
    rw [if_neg (by have := h 0 (by omega); rwa [Nat.add_zero] at this)]
    exact ih (w + 1) k (fun j hj => by rw [show w + 1 + j = w + (j + 1) by omega]; exact h (j + 1) (by omega))
theorem wlk_one {wd : Nat → Int32} {v : Int32} : ∀ (f w i : Nat) (k : Int32), i < f → wd (w + i) = v → (∀ j : Nat, j < f → wd (w + j) = v → j = i) → wlk wd v f w k = 32 + Int32.ofNat (w + i) := by
  intro f
  induction f with
  | zero => intro w i k h; omega
  | succ f ih =>
    intro w i k hi h1 h2
    show wlk wd v f (w + 1) (if wd w = v then 32 + Int32.ofNat w else k) = _
    cases i with
    | zero =>
      rw [if_pos (by rwa [Nat.add_zero] at h1)]
      rw [wlk_no f (w + 1) _ (fun j hj q => by
        have := h2 (j + 1) (by omega) (by rw [show w + (j + 1) = w + 1 + j by omega]; exact q)
        omega)]
      rfl
    | succ i =>
      rw [if_neg (fun q => by have := h2 0 (by omega) (by rw [Nat.add_zero]; exact q); omega)]
      rw [ih (w + 1) i k (by omega) (by rw [show w + 1 + i = w + (i + 1) by omega]; exact h1) (fun j hj q => by
        have := h2 (j + 1) (by omega) (by rw [show w + (j + 1) = w + 1 + j by omega]; exact q)
        omega)]
      rw [show w + 1 + i = w + (i + 1) by omega]
theorem wcs_inj : ∀ i : Nat, i < 22 → ∀ j : Nat, j < 22 → wcs.getD i 0 = wcs.getD j 0 → i = j := by decide +kernel
/-- the words' row -/
def WD (wd : Nat → Int32) : Prop := ∀ i : Nat, i < 22 → wd i = wcs.getD i 0
theorem word_same {b wd : Nat → Int32} {n s : Nat} (hn : n ≤ 700) (hs : s < n) (hw : WD wd) (hq : ltr (b s) = true) :
    (scn ltr fW b n s (0, 0)).1 = (scn ltr fU b n s ()).1 ∧ s < (scn ltr fU b n s ()).1 ∧ (scn ltr fU b n s ()).1 ≤ n ∧ (scn ltr fW b n s (0, 0)).2.1 = Int32.ofNat ((scn ltr fU b n s ()).1 - s) ∧
    ((scn ltr fU b n s ()).1 - s ≤ 6 → (scn ltr fW b n s (0, 0)).2.2 <<< ((5 * (6 - (scn ltr fW b n s (0, 0)).2.1)) &&& 31) = nmv b s (scn ltr fU b n s ()).1 6 0 0 ∧
      ((wdM b s (scn ltr fU b n s ()).1 114 0 0 = -1 ∧ wlk wd (nmv b s (scn ltr fU b n s ()).1 6 0 0) 22 0 3 = 3) ∨ ∃ w : Nat, w < 22 ∧ wdM b s (scn ltr fU b n s ()).1 114 0 0 = Int32.ofNat w ∧ wlk wd (nmv b s (scn ltr fU b n s ()).1 6 0 0) 22 0 3 = 32 + Int32.ofNat w)) ∧
    (6 < (scn ltr fU b n s ()).1 - s → wdM b s (scn ltr fU b n s ()).1 114 0 0 = -1) := by
  have h1 := (scn_rel (q := ltr) (f := fW) (f2 := fU) (b := b) (n := n) (p := s) (R := fun _ _ => True) (fun _ _ _ _ _ => trivial) (s := (0, 0)) (t := ()) trivial).1
  have h2 := scn_le (q := ltr) (f := fU) (b := b) (n := n) _ s () rfl (by omega)
  have h3 : s < (scn ltr fU b n s ()).1 := by
    rw [scn_t hs hq]
    have := (scn_le (q := ltr) (f := fU) (b := b) (n := n) _ (s + 1) (fU () (b s)) rfl (by omega)).1
    omega
  have h4 := fW_big (b := b) (n := n) _ s s 0 0 rfl (Nat.le_refl _) (by omega) hn (by rw [Nat.sub_self]; rfl)
  have e0 : (Int32.ofNat (s - s), pck b s (s - s)) = ((0 : Int32), (0 : Int32)) := by rw [Nat.sub_self]; rfl
  have h5 := fW_run (b := b) (n := n) _ s s rfl (Nat.le_refl _) (by omega) hn (by omega)
  rw [e0] at h5
  rw [h1] at h4 h5
  generalize (scn ltr fU b n s ()).1 = e at h1 h2 h3 h4 h5
  refine ⟨h1, h3, h2.2.1, h4, fun h6 => ?_, fun h6 => wd_none (by omega) h6 wls 0 0 wls_ok (by omega)⟩
  have h7 := h5 h6
  have hl : ∀ j : Nat, s ≤ j → j < e → ltr (b j) = true := h2.2.2.2
  have h8 := val_same hl h3 h6
  refine ⟨by rw [h7]; exact h8, ?_⟩
  rcases wd_find (wd := wd) (by omega) h6 hl wls wcs 0 0 wls_ok wpk_ok (by omega) (fun i hi => by rw [Nat.zero_add]; exact hw i hi) with ⟨q1, q2⟩ | ⟨i, q1, q2, q3⟩
  · exact Or.inl ⟨q1, wlk_no 22 0 3 (fun j hj => q2 j hj)⟩
  · refine Or.inr ⟨i, q1, ?_, ?_⟩
    · rw [Nat.zero_add] at q2; exact q2
    · have := wlk_one (wd := wd) (v := nmv b s e 6 0 0) 22 0 i 3 q1 q3 (fun j hj q => by
        rw [Nat.zero_add] at q q3
        exact wcs_inj j hj i q1 (by rw [← hw j hj, ← hw i q1, q, q3]))
      rw [Nat.zero_add] at this
      exact this
theorem nxb_byt {b : Nat → Int32} {n s : Nat} : nxb b n s = byt b n (s + 1) := rfl
theorem sg_2 {x y : Int32} : (sg x y).2 = 1 ∨ ((sg x y).2 = 2 ∧ (y = 61 ∨ y = 62)) := by
  unfold sg
  repeat' split
  all_goals first | exact Or.inl rfl | skip
  all_goals (by_cases h1 : y = 61 <;> by_cases h2 : y = 62 <;> simp [h1, h2])
/-- a token, alike on both sides; where it stands -/
theorem tok_same {b wd : Nat → Int32} {n p : Nat} {old : Int32} (hn : n ≤ 700) (hp : p ≤ n) (hw : WD wd) :
    TR (tokC b wd n p).1 (tokC b wd n p).2.1 (tokM b n p old).1 (tokM b n p old).2.1 ∧ (tokM b n p old).2.2 = (tokC b wd n p).2.2 ∧
    p ≤ (tokC b wd n p).2.2.1 ∧ (tokC b wd n p).2.2.1 ≤ (tokC b wd n p).2.2.2 ∧ (tokC b wd n p).2.2.2 ≤ n ∧ (¬ (tokC b wd n p).1 = 0 → (tokC b wd n p).2.2.1 < (tokC b wd n p).2.2.2) := by
  have hb := scn_le (q := blk) (f := fU) (b := b) (n := n) _ p () rfl hp
  unfold tokC tokM
  generalize (scn blk fU b n p ()).1 = s at hb
  by_cases c1 : n ≤ s
  · rw [if_pos c1, if_pos c1]
    exact ⟨Or.inl ⟨rfl, rfl⟩, rfl, hb.1, Nat.le_refl _, hb.2.1, fun q => absurd rfl q⟩
  rw [if_neg c1, if_neg c1]
  by_cases c2 : ltr (b s) = true
  · rw [if_pos c2, if_pos c2]
    obtain ⟨w1, w2, w3, w4, w5, w6⟩ := word_same (b := b) (wd := wd) (n := n) (s := s) hn (by omega) hw c2
    rw [w4, w1]
    generalize (scn ltr fU b n s ()).1 = e at w1 w2 w3 w4 w5 w6
    by_cases c3 : 6 < e - s
    · rw [if_pos (by rw [xn_int (by omega)]; omega), if_neg (by rw [w6 c3]; exact fun q => q rfl), if_pos c3]
      exact ⟨Or.inr (Or.inl ⟨rfl, rfl⟩), rfl, hb.1, by dsimp only; omega, w3, fun _ => w2⟩
    · rw [if_neg (by rw [xn_int (by omega)]; omega)]
      obtain ⟨v1, v2⟩ := w5 (by omega)
      rw [w4] at v1
      rw [v1]
      rcases v2 with ⟨v2, v3⟩ | ⟨w, v2, v3, v4⟩
      · rw [if_neg (by rw [v2]; exact fun q => q rfl), if_neg c3, v3]
        exact ⟨Or.inr (Or.inr (Or.inr (Or.inl ⟨rfl, rfl, rfl⟩))), rfl, hb.1, by dsimp only; omega, w3, fun _ => w2⟩
      · rw [if_pos (by
          rw [v3]
          intro q
          have := congrArg Int32.toInt q
          rw [xn_int (by omega)] at this
          have k1 : (-1 : Int32).toInt = -1 := rfl
          omega), v3, v4]
        exact ⟨Or.inr (Or.inr (Or.inr (Or.inr (Or.inl ⟨w, v2, rfl, rfl, rfl⟩)))), rfl, hb.1, by dsimp only; omega, w3, fun _ => w2⟩
  rw [if_neg c2, if_neg c2]
  by_cases c3 : dgt (b s) = true
  · rw [if_pos c3, if_pos c3]
    obtain ⟨h1, h2⟩ := scn_rel (q := dgt) (f := fN) (f2 := fR) (b := b) (n := n) (p := s) (R := nv) (fun x y c hq h => fN_nv x y c hq h) (s := 0) (t := 0) (Or.inl ⟨rfl, by decide, by decide⟩)
    have h3 := scn_le (q := dgt) (f := fN) (b := b) (n := n) _ s 0 rfl (by omega)
    have h4 : s < (scn dgt fN b n s 0).1 := by
      rw [scn_t (by omega) c3]
      have := (scn_le (q := dgt) (f := fN) (b := b) (n := n) _ (s + 1) (fN 0 (b s)) rfl (by omega)).1
      omega
    refine ⟨Or.inr (Or.inr (Or.inl ⟨rfl, rfl, h2⟩)), ?_, hb.1, by dsimp only; omega, h3.2.1, fun _ => h4⟩
    dsimp only
    rw [h1]
  rw [if_neg c3, if_neg c3]
  rw [nxb_byt]
  obtain ⟨g1, g2⟩ := sg_TR (x := b s) (y := byt b n (s + 1))
  refine ⟨g1, by dsimp only; rw [g2], hb.1, by dsimp only; omega, ?_, fun _ => ?_⟩
  · dsimp only
    rcases sg_2 (x := b s) (y := byt b n (s + 1)) with q | ⟨q, q2⟩
    · omega
    · have hlt : s + 1 < n := by
        rcases q2 with q2 | q2
        · exact (byt_in q2 (by decide)).1
        · exact (byt_in q2 (by decide)).1
      omega
  · dsimp only
    rcases sg_2 (x := b s) (y := byt b n (s + 1)) with q | ⟨q, q2⟩ <;> omega
end
section
/-! The class Reader, Table, Plan, Laws: their instructions. -/
theorem t1_0 : xt zt1 0 1 (.aload_n 0) := ⟨rfl, rfl⟩
theorem t1_1 : xtk zt1 1 2 (0) := Or.inl ⟨0, ⟨rfl, rfl⟩, by decide⟩
theorem t1_2 : xtf zt1 0 2 5 (.putfield 24) 24 0 4 1 := ⟨rfl, rfl, rfl, rfl⟩
theorem t1_5 : xtk zt1 5 6 (0) := Or.inl ⟨0, ⟨rfl, rfl⟩, by decide⟩
theorem t1_6 : xt zt1 6 7 (.istore_n 1) := ⟨rfl, rfl⟩
theorem t1_7 : xt zt1 7 8 (.iload_n 1) := ⟨rfl, rfl⟩
theorem t1_8 : xtk zt1 8 9 (2) := Or.inl ⟨2, ⟨rfl, rfl⟩, by decide⟩
theorem t1_9 : xtb zt1 9 12 32 (.if_icmp .gt 23) (23) := ⟨rfl, rfl, rfl⟩
theorem t1_12 : xt zt1 12 13 (.aload_n 0) := ⟨rfl, rfl⟩
theorem t1_13 : xtf zt1 0 13 16 (.getfield 18) 18 0 2 3 := ⟨rfl, rfl, rfl, rfl⟩
theorem t1_16 : xt zt1 16 17 (.iload_n 1) := ⟨rfl, rfl⟩
theorem t1_17 : xtk zt1 17 18 (-1) := Or.inl ⟨-1, ⟨rfl, rfl⟩, by decide⟩
theorem t1_18 : xt zt1 18 19 .iastore := ⟨rfl, rfl⟩
theorem t1_19 : xt zt1 19 20 (.aload_n 0) := ⟨rfl, rfl⟩
theorem t1_20 : xtf zt1 0 20 23 (.getfield 21) 21 0 3 3 := ⟨rfl, rfl, rfl, rfl⟩
theorem t1_23 : xt zt1 23 24 (.iload_n 1) := ⟨rfl, rfl⟩
theorem t1_24 : xtk zt1 24 25 (-1) := Or.inl ⟨-1, ⟨rfl, rfl⟩, by decide⟩
theorem t1_25 : xt zt1 25 26 .iastore := ⟨rfl, rfl⟩
theorem t1_26 : xt zt1 26 29 (.iinc 1 1) := ⟨rfl, rfl⟩
theorem t1_29 : xtb zt1 29 32 7 (.goto (-22)) (-22) := ⟨rfl, rfl, rfl⟩
theorem t1_32 : xt zt1 32 33 .return_ := ⟨rfl, rfl⟩
theorem t2_0 : xt zt2 0 1 (.iload_n 1) := ⟨rfl, rfl⟩
theorem t2_1 : xtb zt2 1 4 22 (.ifCond .lt 21) (21) := ⟨rfl, rfl, rfl⟩
theorem t2_4 : xt zt2 4 5 (.iload_n 1) := ⟨rfl, rfl⟩
theorem t2_5 : xtk zt2 5 6 (2) := Or.inl ⟨2, ⟨rfl, rfl⟩, by decide⟩
theorem t2_6 : xtb zt2 6 9 22 (.if_icmp .gt 16) (16) := ⟨rfl, rfl, rfl⟩
theorem t2_9 : xt zt2 9 10 (.aload_n 0) := ⟨rfl, rfl⟩
theorem t2_10 : xtf zt2 0 10 13 (.getfield 21) 21 0 3 3 := ⟨rfl, rfl, rfl, rfl⟩
theorem t2_13 : xt zt2 13 14 (.iload_n 1) := ⟨rfl, rfl⟩
theorem t2_14 : xt zt2 14 15 .iaload := ⟨rfl, rfl⟩
theorem t2_15 : xtb zt2 15 18 22 (.ifCond .lt 7) (7) := ⟨rfl, rfl, rfl⟩
theorem t2_18 : xtk zt2 18 19 (1) := Or.inl ⟨1, ⟨rfl, rfl⟩, by decide⟩
theorem t2_19 : xtb zt2 19 22 23 (.goto 4) (4) := ⟨rfl, rfl, rfl⟩
theorem t2_22 : xtk zt2 22 23 (0) := Or.inl ⟨0, ⟨rfl, rfl⟩, by decide⟩
theorem t2_23 : xt zt2 23 24 .ireturn := ⟨rfl, rfl⟩
theorem t3_0 : xt zt3 0 1 (.iload_n 1) := ⟨rfl, rfl⟩
theorem t3_1 : xtb zt3 1 4 19 (.ifCond .lt 18) (18) := ⟨rfl, rfl, rfl⟩
theorem t3_4 : xt zt3 4 5 (.iload_n 1) := ⟨rfl, rfl⟩
theorem t3_5 : xtk zt3 5 6 (2) := Or.inl ⟨2, ⟨rfl, rfl⟩, by decide⟩
theorem t3_6 : xtb zt3 6 9 19 (.if_icmp .gt 13) (13) := ⟨rfl, rfl, rfl⟩
theorem t3_9 : xt zt3 9 10 (.aload_n 0) := ⟨rfl, rfl⟩
theorem t3_10 : xtf zt3 0 10 13 (.getfield 18) 18 0 2 3 := ⟨rfl, rfl, rfl, rfl⟩
theorem t3_13 : xt zt3 13 14 (.iload_n 1) := ⟨rfl, rfl⟩
theorem t3_14 : xt zt3 14 15 (.aload_n 0) := ⟨rfl, rfl⟩
theorem t3_15 : xtf zt3 0 15 18 (.getfield 24) 24 0 4 1 := ⟨rfl, rfl, rfl, rfl⟩
theorem t3_18 : xt zt3 18 19 .iastore := ⟨rfl, rfl⟩
theorem t3_19 : xt zt3 19 20 .return_ := ⟨rfl, rfl⟩
theorem t4_0 : xt zt4 0 1 (.iload_n 1) := ⟨rfl, rfl⟩
theorem t4_1 : xtb zt4 1 4 19 (.ifCond .lt 18) (18) := ⟨rfl, rfl, rfl⟩
theorem t4_4 : xt zt4 4 5 (.iload_n 1) := ⟨rfl, rfl⟩
theorem t4_5 : xtk zt4 5 6 (2) := Or.inl ⟨2, ⟨rfl, rfl⟩, by decide⟩
theorem t4_6 : xtb zt4 6 9 19 (.if_icmp .gt 13) (13) := ⟨rfl, rfl, rfl⟩
theorem t4_9 : xt zt4 9 10 (.aload_n 0) := ⟨rfl, rfl⟩
theorem t4_10 : xtf zt4 0 10 13 (.getfield 21) 21 0 3 3 := ⟨rfl, rfl, rfl, rfl⟩
theorem t4_13 : xt zt4 13 14 (.iload_n 1) := ⟨rfl, rfl⟩
theorem t4_14 : xt zt4 14 15 (.aload_n 0) := ⟨rfl, rfl⟩
theorem t4_15 : xtf zt4 0 15 18 (.getfield 24) 24 0 4 1 := ⟨rfl, rfl, rfl, rfl⟩
theorem t4_18 : xt zt4 18 19 .iastore := ⟨rfl, rfl⟩
theorem t4_19 : xt zt4 19 20 .return_ := ⟨rfl, rfl⟩
theorem t5_0 : xt zt5 0 1 (.aload_n 0) := ⟨rfl, rfl⟩
theorem t5_1 : xtf zt5 0 1 4 (.getfield 24) 24 0 4 1 := ⟨rfl, rfl, rfl, rfl⟩
theorem t5_4 : xtk zt5 4 6 (64) := Or.inr (Or.inl ⟨64, ⟨rfl, rfl⟩, by decide⟩)
theorem t5_6 : xtb zt5 6 9 39 (.if_icmp .ge 33) (33) := ⟨rfl, rfl, rfl⟩
theorem t5_9 : xt zt5 9 10 (.aload_n 0) := ⟨rfl, rfl⟩
theorem t5_10 : xtf zt5 0 10 13 (.getfield 11) 11 0 0 3 := ⟨rfl, rfl, rfl, rfl⟩
theorem t5_13 : xt zt5 13 14 (.aload_n 0) := ⟨rfl, rfl⟩
theorem t5_14 : xtf zt5 0 14 17 (.getfield 24) 24 0 4 1 := ⟨rfl, rfl, rfl, rfl⟩
theorem t5_17 : xt zt5 17 18 (.iload_n 1) := ⟨rfl, rfl⟩
theorem t5_18 : xt zt5 18 19 .iastore := ⟨rfl, rfl⟩
theorem t5_19 : xt zt5 19 20 (.aload_n 0) := ⟨rfl, rfl⟩
theorem t5_20 : xtf zt5 0 20 23 (.getfield 15) 15 0 1 3 := ⟨rfl, rfl, rfl, rfl⟩
theorem t5_23 : xt zt5 23 24 (.aload_n 0) := ⟨rfl, rfl⟩
theorem t5_24 : xtf zt5 0 24 27 (.getfield 24) 24 0 4 1 := ⟨rfl, rfl, rfl, rfl⟩
theorem t5_27 : xt zt5 27 28 (.iload_n 2) := ⟨rfl, rfl⟩
theorem t5_28 : xt zt5 28 29 .iastore := ⟨rfl, rfl⟩
theorem t5_29 : xt zt5 29 30 (.aload_n 0) := ⟨rfl, rfl⟩
theorem t5_30 : xt zt5 30 31 .dup := ⟨rfl, rfl⟩
theorem t5_31 : xtf zt5 0 31 34 (.getfield 24) 24 0 4 1 := ⟨rfl, rfl, rfl, rfl⟩
theorem t5_34 : xtk zt5 34 35 (1) := Or.inl ⟨1, ⟨rfl, rfl⟩, by decide⟩
theorem t5_35 : xt zt5 35 36 .iadd := ⟨rfl, rfl⟩
theorem t5_36 : xtf zt5 0 36 39 (.putfield 24) 24 0 4 1 := ⟨rfl, rfl, rfl, rfl⟩
theorem t5_39 : xt zt5 39 40 .return_ := ⟨rfl, rfl⟩
theorem t21_0 : xtk zt21 0 2 (32) := Or.inr (Or.inl ⟨32, ⟨rfl, rfl⟩, by decide⟩)
theorem t21_2 : xt zt21 2 3 (.istore_n 1) := ⟨rfl, rfl⟩
theorem t21_3 : xt zt21 3 4 (.iload_n 1) := ⟨rfl, rfl⟩
theorem t21_4 : xtk zt21 4 6 (40) := Or.inr (Or.inl ⟨40, ⟨rfl, rfl⟩, by decide⟩)
theorem t21_6 : xtb zt21 6 9 24 (.if_icmp .ge 18) (18) := ⟨rfl, rfl, rfl⟩
theorem t21_9 : xt zt21 9 10 (.aload_n 0) := ⟨rfl, rfl⟩
theorem t21_10 : xt zt21 10 11 (.iload_n 1) := ⟨rfl, rfl⟩
theorem t21_11 : xtc zt21 3 11 14 (.invokevirtual 60) 60 1 22 1 := ⟨rfl, rfl, rfl⟩
theorem t21_14 : xtk zt21 14 15 (0) := Or.inl ⟨0, ⟨rfl, rfl⟩, by decide⟩
theorem t21_15 : xtf zt21 3 15 18 (.putfield 64) 64 7 3 1 := ⟨rfl, rfl, rfl, rfl⟩
theorem t21_18 : xt zt21 18 21 (.iinc 1 1) := ⟨rfl, rfl⟩
theorem t21_21 : xtb zt21 21 24 3 (.goto (-18)) (-18) := ⟨rfl, rfl, rfl⟩
theorem t21_24 : xt zt21 24 25 (.aload_n 0) := ⟨rfl, rfl⟩
theorem t21_25 : xtf zt21 3 25 28 (.getfield 44) 44 3 8 3 := ⟨rfl, rfl, rfl, rfl⟩
theorem t21_28 : xtc zt21 3 28 31 (.invokevirtual 67) 67 1 1 0 := ⟨rfl, rfl, rfl⟩
theorem t21_31 : xt zt21 31 32 (.aload_n 0) := ⟨rfl, rfl⟩
theorem t21_32 : xtk zt21 32 33 (0) := Or.inl ⟨0, ⟨rfl, rfl⟩, by decide⟩
theorem t21_33 : xtf zt21 3 33 36 (.putfield 48) 48 3 9 1 := ⟨rfl, rfl, rfl, rfl⟩
theorem t21_36 : xt zt21 36 37 .return_ := ⟨rfl, rfl⟩
theorem t22_0 : xt zt22 0 1 (.iload_n 1) := ⟨rfl, rfl⟩
theorem t22_1 : zt22 1 = some (.tableswitch 78 32 38 #[43, 48, 53, 58, 63, 68, 73], 43) := rfl
theorem t22_44 : xt zt22 44 45 (.aload_n 0) := ⟨rfl, rfl⟩
theorem t22_45 : xtf zt22 3 45 48 (.getfield 14) 14 3 0 3 := ⟨rfl, rfl, rfl, rfl⟩
theorem t22_48 : xt zt22 48 49 .areturn := ⟨rfl, rfl⟩
theorem t22_49 : xt zt22 49 50 (.aload_n 0) := ⟨rfl, rfl⟩
theorem t22_50 : xtf zt22 3 50 53 (.getfield 20) 20 3 1 3 := ⟨rfl, rfl, rfl, rfl⟩
theorem t22_53 : xt zt22 53 54 .areturn := ⟨rfl, rfl⟩
theorem t22_54 : xt zt22 54 55 (.aload_n 0) := ⟨rfl, rfl⟩
theorem t22_55 : xtf zt22 3 55 58 (.getfield 23) 23 3 2 3 := ⟨rfl, rfl, rfl, rfl⟩
theorem t22_58 : xt zt22 58 59 .areturn := ⟨rfl, rfl⟩
theorem t22_59 : xt zt22 59 60 (.aload_n 0) := ⟨rfl, rfl⟩
theorem t22_60 : xtf zt22 3 60 63 (.getfield 26) 26 3 3 3 := ⟨rfl, rfl, rfl, rfl⟩
theorem t22_63 : xt zt22 63 64 .areturn := ⟨rfl, rfl⟩
theorem t22_64 : xt zt22 64 65 (.aload_n 0) := ⟨rfl, rfl⟩
theorem t22_65 : xtf zt22 3 65 68 (.getfield 29) 29 3 4 3 := ⟨rfl, rfl, rfl, rfl⟩
theorem t22_68 : xt zt22 68 69 .areturn := ⟨rfl, rfl⟩
theorem t22_69 : xt zt22 69 70 (.aload_n 0) := ⟨rfl, rfl⟩
theorem t22_70 : xtf zt22 3 70 73 (.getfield 32) 32 3 5 3 := ⟨rfl, rfl, rfl, rfl⟩
theorem t22_73 : xt zt22 73 74 .areturn := ⟨rfl, rfl⟩
theorem t22_74 : xt zt22 74 75 (.aload_n 0) := ⟨rfl, rfl⟩
theorem t22_75 : xtf zt22 3 75 78 (.getfield 35) 35 3 6 3 := ⟨rfl, rfl, rfl, rfl⟩
theorem t22_78 : xt zt22 78 79 .areturn := ⟨rfl, rfl⟩
theorem t22_79 : xt zt22 79 80 (.aload_n 0) := ⟨rfl, rfl⟩
theorem t22_80 : xtf zt22 3 80 83 (.getfield 38) 38 3 7 3 := ⟨rfl, rfl, rfl, rfl⟩
theorem t22_83 : xt zt22 83 84 .areturn := ⟨rfl, rfl⟩
theorem t23_0 : xt zt23 0 1 (.aload_n 0) := ⟨rfl, rfl⟩
theorem t23_1 : xt zt23 1 2 (.aload_n 0) := ⟨rfl, rfl⟩
theorem t23_2 : xtf zt23 3 2 5 (.getfield 14) 14 3 0 3 := ⟨rfl, rfl, rfl, rfl⟩
theorem t23_5 : xtf zt23 3 5 8 (.getfield 64) 64 7 3 1 := ⟨rfl, rfl, rfl, rfl⟩
theorem t23_8 : xtb zt23 8 11 23 (.ifCond .le 15) (15) := ⟨rfl, rfl, rfl⟩
theorem t23_11 : xt zt23 11 12 (.aload_n 0) := ⟨rfl, rfl⟩
theorem t23_12 : xtf zt23 3 12 15 (.getfield 14) 14 3 0 3 := ⟨rfl, rfl, rfl, rfl⟩
theorem t23_15 : xtk zt23 15 16 (0) := Or.inl ⟨0, ⟨rfl, rfl⟩, by decide⟩
theorem t23_16 : xtk zt23 16 17 (0) := Or.inl ⟨0, ⟨rfl, rfl⟩, by decide⟩
theorem t23_17 : xtc zt23 3 17 20 (.invokevirtual 70) 70 1 83 2 := ⟨rfl, rfl, rfl⟩
theorem t23_20 : xtb zt23 20 23 25 (.goto 5) (5) := ⟨rfl, rfl, rfl⟩
theorem t23_23 : xtk zt23 23 25 (30) := Or.inr (Or.inl ⟨30, ⟨rfl, rfl⟩, by decide⟩)
theorem t23_25 : xtf zt23 3 25 28 (.putfield 52) 52 3 10 1 := ⟨rfl, rfl, rfl, rfl⟩
theorem t23_28 : xt zt23 28 29 (.aload_n 0) := ⟨rfl, rfl⟩
theorem t23_29 : xt zt23 29 30 (.aload_n 0) := ⟨rfl, rfl⟩
theorem t23_30 : xtf zt23 3 30 33 (.getfield 35) 35 3 6 3 := ⟨rfl, rfl, rfl, rfl⟩
theorem t23_33 : xtf zt23 3 33 36 (.getfield 64) 64 7 3 1 := ⟨rfl, rfl, rfl, rfl⟩
theorem t23_36 : xtb zt23 36 39 51 (.ifCond .le 15) (15) := ⟨rfl, rfl, rfl⟩
theorem t23_39 : xt zt23 39 40 (.aload_n 0) := ⟨rfl, rfl⟩
theorem t23_40 : xtf zt23 3 40 43 (.getfield 35) 35 3 6 3 := ⟨rfl, rfl, rfl, rfl⟩
theorem t23_43 : xtk zt23 43 44 (0) := Or.inl ⟨0, ⟨rfl, rfl⟩, by decide⟩
theorem t23_44 : xtk zt23 44 45 (0) := Or.inl ⟨0, ⟨rfl, rfl⟩, by decide⟩
theorem t23_45 : xtc zt23 3 45 48 (.invokevirtual 70) 70 1 83 2 := ⟨rfl, rfl, rfl⟩
theorem t23_48 : xtb zt23 48 51 52 (.goto 4) (4) := ⟨rfl, rfl, rfl⟩
theorem t23_51 : xtk zt23 51 52 (1) := Or.inl ⟨1, ⟨rfl, rfl⟩, by decide⟩
theorem t23_52 : xtf zt23 3 52 55 (.putfield 55) 55 3 11 1 := ⟨rfl, rfl, rfl, rfl⟩
theorem t23_55 : xt zt23 55 56 .return_ := ⟨rfl, rfl⟩
theorem t27_0 : xt zt27 0 1 (.aload_n 0) := ⟨rfl, rfl⟩
theorem t27_1 : xtk zt27 1 2 (0) := Or.inl ⟨0, ⟨rfl, rfl⟩, by decide⟩
theorem t27_2 : xtf zt27 4 2 5 (.putfield 34) 34 4 5 1 := ⟨rfl, rfl, rfl, rfl⟩
theorem t27_5 : xt zt27 5 6 (.aload_n 0) := ⟨rfl, rfl⟩
theorem t27_6 : xtk zt27 6 7 (-1) := Or.inl ⟨-1, ⟨rfl, rfl⟩, by decide⟩
theorem t27_7 : xtf zt27 4 7 10 (.putfield 37) 37 4 6 1 := ⟨rfl, rfl, rfl, rfl⟩
theorem t27_10 : xt zt27 10 11 (.aload_n 0) := ⟨rfl, rfl⟩
theorem t27_11 : xtk zt27 11 12 (0) := Or.inl ⟨0, ⟨rfl, rfl⟩, by decide⟩
theorem t27_12 : xtf zt27 4 12 15 (.putfield 31) 31 4 4 1 := ⟨rfl, rfl, rfl, rfl⟩
theorem t27_15 : xt zt27 15 16 (.aload_n 3) := ⟨rfl, rfl⟩
theorem t27_16 : xtc zt27 4 16 19 (.invokevirtual 40) 40 1 21 0 := ⟨rfl, rfl, rfl⟩
theorem t27_19 : xt zt27 19 20 (.aload_n 0) := ⟨rfl, rfl⟩
theorem t27_20 : xtf zt27 4 20 23 (.getfield 12) 12 4 0 3 := ⟨rfl, rfl, rfl, rfl⟩
theorem t27_23 : xt zt27 23 24 (.aload_n 1) := ⟨rfl, rfl⟩
theorem t27_24 : xt zt27 24 25 (.iload_n 2) := ⟨rfl, rfl⟩
theorem t27_25 : xtc zt27 4 25 28 (.invokevirtual 45) 45 1 73 2 := ⟨rfl, rfl, rfl⟩
theorem t27_28 : xtk zt27 28 29 (0) := Or.inl ⟨0, ⟨rfl, rfl⟩, by decide⟩
theorem t27_29 : xt zt27 29 31 (.istore 4) := ⟨rfl, rfl⟩
theorem t27_31 : xt zt27 31 33 (.iload 4) := ⟨rfl, rfl⟩
theorem t27_33 : xt zt27 33 34 (.iload_n 2) := ⟨rfl, rfl⟩
theorem t27_34 : xtb zt27 34 37 73 (.if_icmp .gt 39) (39) := ⟨rfl, rfl, rfl⟩
theorem t27_37 : xt zt27 37 38 (.aload_n 0) := ⟨rfl, rfl⟩
theorem t27_38 : xtf zt27 4 38 41 (.getfield 12) 12 4 0 3 := ⟨rfl, rfl, rfl, rfl⟩
theorem t27_41 : xtf zt27 4 41 44 (.getfield 49) 49 6 4 1 := ⟨rfl, rfl, rfl, rfl⟩
theorem t27_44 : xtb zt27 44 47 73 (.ifCond .eq 29) (29) := ⟨rfl, rfl, rfl⟩
theorem t27_47 : xt zt27 47 48 (.aload_n 0) := ⟨rfl, rfl⟩
theorem t27_48 : xt zt27 48 49 (.aload_n 3) := ⟨rfl, rfl⟩
theorem t27_49 : xtc zt27 4 49 52 (.invokevirtual 52) 52 1 29 1 := ⟨rfl, rfl, rfl⟩
theorem t27_52 : xtb zt27 52 55 57 (.ifCond .ne 5) (5) := ⟨rfl, rfl, rfl⟩
theorem t27_55 : xtk zt27 55 56 (0) := Or.inl ⟨0, ⟨rfl, rfl⟩, by decide⟩
theorem t27_56 : xt zt27 56 57 .ireturn := ⟨rfl, rfl⟩
theorem t27_57 : xt zt27 57 58 (.aload_n 3) := ⟨rfl, rfl⟩
theorem t27_58 : xt zt27 58 59 .dup := ⟨rfl, rfl⟩
theorem t27_59 : xtf zt27 4 59 62 (.getfield 56) 56 3 9 1 := ⟨rfl, rfl, rfl, rfl⟩
theorem t27_62 : xtk zt27 62 63 (1) := Or.inl ⟨1, ⟨rfl, rfl⟩, by decide⟩
theorem t27_63 : xt zt27 63 64 .iadd := ⟨rfl, rfl⟩
theorem t27_64 : xtf zt27 4 64 67 (.putfield 56) 56 3 9 1 := ⟨rfl, rfl, rfl, rfl⟩
theorem t27_67 : xt zt27 67 70 (.iinc 4 1) := ⟨rfl, rfl⟩
theorem t27_70 : xtb zt27 70 73 31 (.goto (-39)) (-39) := ⟨rfl, rfl, rfl⟩
theorem t27_73 : xt zt27 73 74 (.aload_n 3) := ⟨rfl, rfl⟩
theorem t27_74 : xtc zt27 4 74 77 (.invokevirtual 59) 59 1 23 0 := ⟨rfl, rfl, rfl⟩
theorem t27_77 : xtk zt27 77 78 (1) := Or.inl ⟨1, ⟨rfl, rfl⟩, by decide⟩
theorem t27_78 : xt zt27 78 79 .ireturn := ⟨rfl, rfl⟩
theorem t28_0 : xt zt28 0 1 (.aload_n 0) := ⟨rfl, rfl⟩
theorem t28_1 : xt zt28 1 2 (.iload_n 1) := ⟨rfl, rfl⟩
theorem t28_2 : xtf zt28 4 2 5 (.putfield 34) 34 4 5 1 := ⟨rfl, rfl, rfl, rfl⟩
theorem t28_5 : xt zt28 5 6 (.aload_n 0) := ⟨rfl, rfl⟩
theorem t28_6 : xt zt28 6 7 (.aload_n 0) := ⟨rfl, rfl⟩
theorem t28_7 : xtf zt28 4 7 10 (.getfield 12) 12 4 0 3 := ⟨rfl, rfl, rfl, rfl⟩
theorem t28_10 : xtf zt28 4 10 13 (.getfield 62) 62 6 6 1 := ⟨rfl, rfl, rfl, rfl⟩
theorem t28_13 : xtf zt28 4 13 16 (.putfield 37) 37 4 6 1 := ⟨rfl, rfl, rfl, rfl⟩
theorem t28_16 : xtk zt28 16 17 (0) := Or.inl ⟨0, ⟨rfl, rfl⟩, by decide⟩
theorem t28_17 : xt zt28 17 18 .ireturn := ⟨rfl, rfl⟩
theorem t29_0 : xt zt29 0 1 (.aload_n 0) := ⟨rfl, rfl⟩
theorem t29_1 : xtf zt29 4 1 4 (.getfield 12) 12 4 0 3 := ⟨rfl, rfl, rfl, rfl⟩
theorem t29_4 : xtf zt29 4 4 7 (.getfield 49) 49 6 4 1 := ⟨rfl, rfl, rfl, rfl⟩
theorem t29_7 : xt zt29 7 8 (.istore_n 2) := ⟨rfl, rfl⟩
theorem t29_8 : xt zt29 8 9 (.iload_n 2) := ⟨rfl, rfl⟩
theorem t29_9 : xtk zt29 9 11 (32) := Or.inr (Or.inl ⟨32, ⟨rfl, rfl⟩, by decide⟩)
theorem t29_11 : xtb zt29 11 14 20 (.if_icmp .lt 9) (9) := ⟨rfl, rfl, rfl⟩
theorem t29_14 : xt zt29 14 15 (.iload_n 2) := ⟨rfl, rfl⟩
theorem t29_15 : xtk zt29 15 17 (40) := Or.inr (Or.inl ⟨40, ⟨rfl, rfl⟩, by decide⟩)
theorem t29_17 : xtb zt29 17 20 26 (.if_icmp .le 9) (9) := ⟨rfl, rfl, rfl⟩
theorem t29_20 : xt zt29 20 21 (.aload_n 0) := ⟨rfl, rfl⟩
theorem t29_21 : xtk zt29 21 22 (1) := Or.inl ⟨1, ⟨rfl, rfl⟩, by decide⟩
theorem t29_22 : xtc zt29 4 22 25 (.invokevirtual 63) 63 1 28 1 := ⟨rfl, rfl, rfl⟩
theorem t29_25 : xt zt29 25 26 .ireturn := ⟨rfl, rfl⟩
theorem t29_26 : xt zt29 26 27 (.iload_n 2) := ⟨rfl, rfl⟩
theorem t29_27 : xtk zt29 27 29 (40) := Or.inr (Or.inl ⟨40, ⟨rfl, rfl⟩, by decide⟩)
theorem t29_29 : xtb zt29 29 32 41 (.if_icmp .ne 12) (12) := ⟨rfl, rfl, rfl⟩
theorem t29_32 : xt zt29 32 33 (.aload_n 0) := ⟨rfl, rfl⟩
theorem t29_33 : xt zt29 33 34 (.aload_n 1) := ⟨rfl, rfl⟩
theorem t29_34 : xtf zt29 4 34 37 (.getfield 67) 67 3 8 3 := ⟨rfl, rfl, rfl, rfl⟩
theorem t29_37 : xtc zt29 4 37 40 (.invokevirtual 71) 71 1 36 1 := ⟨rfl, rfl, rfl⟩
theorem t29_40 : xt zt29 40 41 .ireturn := ⟨rfl, rfl⟩
theorem t29_41 : xt zt29 41 42 (.aload_n 1) := ⟨rfl, rfl⟩
theorem t29_42 : xt zt29 42 43 (.iload_n 2) := ⟨rfl, rfl⟩
theorem t29_43 : xtc zt29 4 43 46 (.invokevirtual 75) 75 1 22 1 := ⟨rfl, rfl, rfl⟩
theorem t29_46 : xt zt29 46 47 (.astore_n 3) := ⟨rfl, rfl⟩
theorem t29_47 : xt zt29 47 48 (.aload_n 3) := ⟨rfl, rfl⟩
theorem t29_48 : xtc zt29 4 48 51 (.invokevirtual 79) 79 1 86 0 := ⟨rfl, rfl, rfl⟩
theorem t29_51 : xtb zt29 51 54 72 (.ifCond .eq 21) (21) := ⟨rfl, rfl, rfl⟩
theorem t29_54 : xt zt29 54 55 (.aload_n 0) := ⟨rfl, rfl⟩
theorem t29_55 : xt zt29 55 56 (.aload_n 3) := ⟨rfl, rfl⟩
theorem t29_56 : xtf zt29 4 56 59 (.getfield 85) 85 7 1 1 := ⟨rfl, rfl, rfl, rfl⟩
theorem t29_59 : xtk zt29 59 60 (1) := Or.inl ⟨1, ⟨rfl, rfl⟩, by decide⟩
theorem t29_60 : xtb zt29 60 63 67 (.if_icmp .ne 7) (7) := ⟨rfl, rfl, rfl⟩
theorem t29_63 : xtk zt29 63 64 (3) := Or.inl ⟨3, ⟨rfl, rfl⟩, by decide⟩
theorem t29_64 : xtb zt29 64 67 68 (.goto 4) (4) := ⟨rfl, rfl, rfl⟩
theorem t29_67 : xtk zt29 67 68 (2) := Or.inl ⟨2, ⟨rfl, rfl⟩, by decide⟩
theorem t29_68 : xtc zt29 4 68 71 (.invokevirtual 63) 63 1 28 1 := ⟨rfl, rfl, rfl⟩
theorem t29_71 : xt zt29 71 72 .ireturn := ⟨rfl, rfl⟩
theorem t29_72 : xt zt29 72 73 (.aload_n 0) := ⟨rfl, rfl⟩
theorem t29_73 : xtf zt29 4 73 76 (.getfield 12) 12 4 0 3 := ⟨rfl, rfl, rfl, rfl⟩
theorem t29_76 : xtc zt29 4 76 79 (.invokevirtual 88) 88 1 77 0 := ⟨rfl, rfl, rfl⟩
theorem t29_79 : xt zt29 79 80 (.iload_n 2) := ⟨rfl, rfl⟩
theorem t29_80 : xtk zt29 80 82 (33) := Or.inr (Or.inl ⟨33, ⟨rfl, rfl⟩, by decide⟩)
theorem t29_82 : xtb zt29 82 85 95 (.if_icmp .lt 13) (13) := ⟨rfl, rfl, rfl⟩
theorem t29_85 : xt zt29 85 86 (.iload_n 2) := ⟨rfl, rfl⟩
theorem t29_86 : xtk zt29 86 88 (35) := Or.inr (Or.inl ⟨35, ⟨rfl, rfl⟩, by decide⟩)
theorem t29_88 : xtb zt29 88 91 95 (.if_icmp .gt 7) (7) := ⟨rfl, rfl, rfl⟩
theorem t29_91 : xtk zt29 91 92 (1) := Or.inl ⟨1, ⟨rfl, rfl⟩, by decide⟩
theorem t29_92 : xtb zt29 92 95 96 (.goto 4) (4) := ⟨rfl, rfl, rfl⟩
theorem t29_95 : xtk zt29 95 96 (0) := Or.inl ⟨0, ⟨rfl, rfl⟩, by decide⟩
theorem t29_96 : xt zt29 96 98 (.istore 4) := ⟨rfl, rfl⟩
theorem t29_98 : xt zt29 98 100 (.iload 4) := ⟨rfl, rfl⟩
theorem t29_100 : xtb zt29 100 103 114 (.ifCond .eq 14) (14) := ⟨rfl, rfl, rfl⟩
theorem t29_103 : xt zt29 103 104 (.aload_n 0) := ⟨rfl, rfl⟩
theorem t29_104 : xt zt29 104 105 (.aload_n 1) := ⟨rfl, rfl⟩
theorem t29_105 : xt zt29 105 106 (.iload_n 2) := ⟨rfl, rfl⟩
theorem t29_106 : xtc zt29 4 106 109 (.invokevirtual 91) 91 1 31 2 := ⟨rfl, rfl, rfl⟩
theorem t29_109 : xtb zt29 109 112 114 (.ifCond .ne 5) (5) := ⟨rfl, rfl, rfl⟩
theorem t29_112 : xtk zt29 112 113 (0) := Or.inl ⟨0, ⟨rfl, rfl⟩, by decide⟩
theorem t29_113 : xt zt29 113 114 .ireturn := ⟨rfl, rfl⟩
theorem t29_114 : xt zt29 114 116 (.iload 4) := ⟨rfl, rfl⟩
theorem t29_116 : xtb zt29 116 119 123 (.ifCond .eq 7) (7) := ⟨rfl, rfl, rfl⟩
theorem t29_119 : xtk zt29 119 120 (1) := Or.inl ⟨1, ⟨rfl, rfl⟩, by decide⟩
theorem t29_120 : xtb zt29 120 123 124 (.goto 4) (4) := ⟨rfl, rfl, rfl⟩
theorem t29_123 : xtk zt29 123 124 (0) := Or.inl ⟨0, ⟨rfl, rfl⟩, by decide⟩
theorem t29_124 : xt zt29 124 126 (.istore 5) := ⟨rfl, rfl⟩
theorem t29_126 : xt zt29 126 128 (.iload 5) := ⟨rfl, rfl⟩
theorem t29_128 : xt zt29 128 129 (.aload_n 3) := ⟨rfl, rfl⟩
theorem t29_129 : xtf zt29 4 129 132 (.getfield 95) 95 7 0 1 := ⟨rfl, rfl, rfl, rfl⟩
theorem t29_132 : xtb zt29 132 135 154 (.if_icmp .ge 22) (22) := ⟨rfl, rfl, rfl⟩
theorem t29_135 : xt zt29 135 136 (.aload_n 0) := ⟨rfl, rfl⟩
theorem t29_136 : xt zt29 136 137 (.aload_n 3) := ⟨rfl, rfl⟩
theorem t29_137 : xt zt29 137 138 (.iload_n 2) := ⟨rfl, rfl⟩
theorem t29_138 : xt zt29 138 140 (.iload 5) := ⟨rfl, rfl⟩
theorem t29_140 : xtc zt29 4 140 143 (.invokevirtual 98) 98 1 32 3 := ⟨rfl, rfl, rfl⟩
theorem t29_143 : xtb zt29 143 146 148 (.ifCond .ne 5) (5) := ⟨rfl, rfl, rfl⟩
theorem t29_146 : xtk zt29 146 147 (0) := Or.inl ⟨0, ⟨rfl, rfl⟩, by decide⟩
theorem t29_147 : xt zt29 147 148 .ireturn := ⟨rfl, rfl⟩
theorem t29_148 : xt zt29 148 151 (.iinc 5 1) := ⟨rfl, rfl⟩
theorem t29_151 : xtb zt29 151 154 126 (.goto (-25)) (-25) := ⟨rfl, rfl, rfl⟩
theorem t29_154 : xt zt29 154 155 (.aload_n 3) := ⟨rfl, rfl⟩
theorem t29_155 : xtc zt29 4 155 158 (.invokevirtual 102) 102 1 85 0 := ⟨rfl, rfl, rfl⟩
theorem t29_158 : xt zt29 158 159 (.aload_n 0) := ⟨rfl, rfl⟩
theorem t29_159 : xtc zt29 4 159 162 (.invokevirtual 105) 105 1 30 0 := ⟨rfl, rfl, rfl⟩
theorem t29_162 : xt zt29 162 163 .ireturn := ⟨rfl, rfl⟩
theorem t30_0 : xt zt30 0 1 (.aload_n 0) := ⟨rfl, rfl⟩
theorem t30_1 : xtf zt30 4 1 4 (.getfield 12) 12 4 0 3 := ⟨rfl, rfl, rfl, rfl⟩
theorem t30_4 : xtf zt30 4 4 7 (.getfield 49) 49 6 4 1 := ⟨rfl, rfl, rfl, rfl⟩
theorem t30_7 : xtk zt30 7 8 (4) := Or.inl ⟨4, ⟨rfl, rfl⟩, by decide⟩
theorem t30_8 : xtb zt30 8 11 17 (.if_icmp .eq 9) (9) := ⟨rfl, rfl, rfl⟩
theorem t30_11 : xt zt30 11 12 (.aload_n 0) := ⟨rfl, rfl⟩
theorem t30_12 : xtk zt30 12 13 (1) := Or.inl ⟨1, ⟨rfl, rfl⟩, by decide⟩
theorem t30_13 : xtc zt30 4 13 16 (.invokevirtual 63) 63 1 28 1 := ⟨rfl, rfl, rfl⟩
theorem t30_16 : xt zt30 16 17 .ireturn := ⟨rfl, rfl⟩
theorem t30_17 : xt zt30 17 18 (.aload_n 0) := ⟨rfl, rfl⟩
theorem t30_18 : xtf zt30 4 18 21 (.getfield 12) 12 4 0 3 := ⟨rfl, rfl, rfl, rfl⟩
theorem t30_21 : xtc zt30 4 21 24 (.invokevirtual 88) 88 1 77 0 := ⟨rfl, rfl, rfl⟩
theorem t30_24 : xtk zt30 24 25 (1) := Or.inl ⟨1, ⟨rfl, rfl⟩, by decide⟩
theorem t30_25 : xt zt30 25 26 .ireturn := ⟨rfl, rfl⟩
theorem t31_0 : xt zt31 0 1 (.aload_n 0) := ⟨rfl, rfl⟩
theorem t31_1 : xtf zt31 4 1 4 (.getfield 12) 12 4 0 3 := ⟨rfl, rfl, rfl, rfl⟩
theorem t31_4 : xtf zt31 4 4 7 (.getfield 49) 49 6 4 1 := ⟨rfl, rfl, rfl, rfl⟩
theorem t31_7 : xtk zt31 7 8 (3) := Or.inl ⟨3, ⟨rfl, rfl⟩, by decide⟩
theorem t31_8 : xtb zt31 8 11 17 (.if_icmp .eq 9) (9) := ⟨rfl, rfl, rfl⟩
theorem t31_11 : xt zt31 11 12 (.aload_n 0) := ⟨rfl, rfl⟩
theorem t31_12 : xtk zt31 12 13 (1) := Or.inl ⟨1, ⟨rfl, rfl⟩, by decide⟩
theorem t31_13 : xtc zt31 4 13 16 (.invokevirtual 63) 63 1 28 1 := ⟨rfl, rfl, rfl⟩
theorem t31_16 : xt zt31 16 17 .ireturn := ⟨rfl, rfl⟩
theorem t31_17 : xt zt31 17 18 (.aload_n 1) := ⟨rfl, rfl⟩
theorem t31_18 : xt zt31 18 19 (.iload_n 2) := ⟨rfl, rfl⟩
theorem t31_19 : xtc zt31 4 19 22 (.invokevirtual 75) 75 1 22 1 := ⟨rfl, rfl, rfl⟩
theorem t31_22 : xt zt31 22 23 (.astore_n 3) := ⟨rfl, rfl⟩
theorem t31_23 : xt zt31 23 24 (.aload_n 0) := ⟨rfl, rfl⟩
theorem t31_24 : xtf zt31 4 24 27 (.getfield 12) 12 4 0 3 := ⟨rfl, rfl, rfl, rfl⟩
theorem t31_27 : xtf zt31 4 27 30 (.getfield 108) 108 6 5 1 := ⟨rfl, rfl, rfl, rfl⟩
theorem t31_30 : xt zt31 30 32 (.istore 4) := ⟨rfl, rfl⟩
theorem t31_32 : xt zt31 32 33 (.iload_n 2) := ⟨rfl, rfl⟩
theorem t31_33 : xtk zt31 33 35 (35) := Or.inr (Or.inl ⟨35, ⟨rfl, rfl⟩, by decide⟩)
theorem t31_35 : xtb zt31 35 38 71 (.if_icmp .ne 36) (36) := ⟨rfl, rfl, rfl⟩
theorem t31_38 : xt zt31 38 39 (.aload_n 1) := ⟨rfl, rfl⟩
theorem t31_39 : xtf zt31 4 39 42 (.getfield 111) 111 3 2 3 := ⟨rfl, rfl, rfl, rfl⟩
theorem t31_42 : xt zt31 42 44 (.iload 4) := ⟨rfl, rfl⟩
theorem t31_44 : xtc zt31 4 44 47 (.invokevirtual 115) 115 1 87 1 := ⟨rfl, rfl, rfl⟩
theorem t31_47 : xt zt31 47 49 (.istore 5) := ⟨rfl, rfl⟩
theorem t31_49 : xt zt31 49 51 (.iload 5) := ⟨rfl, rfl⟩
theorem t31_51 : xtk zt31 51 52 (-1) := Or.inl ⟨-1, ⟨rfl, rfl⟩, by decide⟩
theorem t31_52 : xtb zt31 52 55 61 (.if_icmp .ne 9) (9) := ⟨rfl, rfl, rfl⟩
theorem t31_55 : xt zt31 55 56 (.aload_n 0) := ⟨rfl, rfl⟩
theorem t31_56 : xtk zt31 56 57 (4) := Or.inl ⟨4, ⟨rfl, rfl⟩, by decide⟩
theorem t31_57 : xtc zt31 4 57 60 (.invokevirtual 63) 63 1 28 1 := ⟨rfl, rfl, rfl⟩
theorem t31_60 : xt zt31 60 61 .ireturn := ⟨rfl, rfl⟩
theorem t31_61 : xt zt31 61 62 (.aload_n 3) := ⟨rfl, rfl⟩
theorem t31_62 : xtk zt31 62 63 (0) := Or.inl ⟨0, ⟨rfl, rfl⟩, by decide⟩
theorem t31_63 : xt zt31 63 65 (.iload 5) := ⟨rfl, rfl⟩
theorem t31_65 : xtc zt31 4 65 68 (.invokevirtual 119) 119 1 84 2 := ⟨rfl, rfl, rfl⟩
theorem t31_68 : xtb zt31 68 71 94 (.goto 26) (26) := ⟨rfl, rfl, rfl⟩
theorem t31_71 : xt zt31 71 72 (.aload_n 3) := ⟨rfl, rfl⟩
theorem t31_72 : xt zt31 72 74 (.iload 4) := ⟨rfl, rfl⟩
theorem t31_74 : xtc zt31 4 74 77 (.invokevirtual 115) 115 1 87 1 := ⟨rfl, rfl, rfl⟩
theorem t31_77 : xtk zt31 77 78 (-1) := Or.inl ⟨-1, ⟨rfl, rfl⟩, by decide⟩
theorem t31_78 : xtb zt31 78 81 87 (.if_icmp .eq 9) (9) := ⟨rfl, rfl, rfl⟩
theorem t31_81 : xt zt31 81 82 (.aload_n 0) := ⟨rfl, rfl⟩
theorem t31_82 : xtk zt31 82 83 (3) := Or.inl ⟨3, ⟨rfl, rfl⟩, by decide⟩
theorem t31_83 : xtc zt31 4 83 86 (.invokevirtual 63) 63 1 28 1 := ⟨rfl, rfl, rfl⟩
theorem t31_86 : xt zt31 86 87 .ireturn := ⟨rfl, rfl⟩
theorem t31_87 : xt zt31 87 88 (.aload_n 3) := ⟨rfl, rfl⟩
theorem t31_88 : xtk zt31 88 89 (0) := Or.inl ⟨0, ⟨rfl, rfl⟩, by decide⟩
theorem t31_89 : xt zt31 89 91 (.iload 4) := ⟨rfl, rfl⟩
theorem t31_91 : xtc zt31 4 91 94 (.invokevirtual 119) 119 1 84 2 := ⟨rfl, rfl, rfl⟩
theorem t31_94 : xt zt31 94 95 (.aload_n 0) := ⟨rfl, rfl⟩
theorem t31_95 : xtf zt31 4 95 98 (.getfield 12) 12 4 0 3 := ⟨rfl, rfl, rfl, rfl⟩
theorem t31_98 : xtc zt31 4 98 101 (.invokevirtual 88) 88 1 77 0 := ⟨rfl, rfl, rfl⟩
theorem t31_101 : xtk zt31 101 102 (1) := Or.inl ⟨1, ⟨rfl, rfl⟩, by decide⟩
theorem t31_102 : xt zt31 102 103 .ireturn := ⟨rfl, rfl⟩
theorem t32_0 : xt zt32 0 1 (.aload_n 0) := ⟨rfl, rfl⟩
theorem t32_1 : xtf zt32 4 1 4 (.getfield 12) 12 4 0 3 := ⟨rfl, rfl, rfl, rfl⟩
theorem t32_4 : xtf zt32 4 4 7 (.getfield 49) 49 6 4 1 := ⟨rfl, rfl, rfl, rfl⟩
theorem t32_7 : xtk zt32 7 8 (2) := Or.inl ⟨2, ⟨rfl, rfl⟩, by decide⟩
theorem t32_8 : xtb zt32 8 11 17 (.if_icmp .eq 9) (9) := ⟨rfl, rfl, rfl⟩
theorem t32_11 : xt zt32 11 12 (.aload_n 0) := ⟨rfl, rfl⟩
theorem t32_12 : xtk zt32 12 13 (1) := Or.inl ⟨1, ⟨rfl, rfl⟩, by decide⟩
theorem t32_13 : xtc zt32 4 13 16 (.invokevirtual 63) 63 1 28 1 := ⟨rfl, rfl, rfl⟩
theorem t32_16 : xt zt32 16 17 .ireturn := ⟨rfl, rfl⟩
theorem t32_17 : xt zt32 17 18 (.aload_n 0) := ⟨rfl, rfl⟩
theorem t32_18 : xtf zt32 4 18 21 (.getfield 12) 12 4 0 3 := ⟨rfl, rfl, rfl, rfl⟩
theorem t32_21 : xtf zt32 4 21 24 (.getfield 108) 108 6 5 1 := ⟨rfl, rfl, rfl, rfl⟩
theorem t32_24 : xt zt32 24 26 (.istore 4) := ⟨rfl, rfl⟩
theorem t32_26 : xt zt32 26 28 (.iload 4) := ⟨rfl, rfl⟩
theorem t32_28 : xt zt32 28 29 (.aload_n 1) := ⟨rfl, rfl⟩
theorem t32_29 : xt zt32 29 30 (.iload_n 2) := ⟨rfl, rfl⟩
theorem t32_30 : xt zt32 30 31 (.iload_n 3) := ⟨rfl, rfl⟩
theorem t32_31 : xtc zt32 4 31 34 (.invokestatic 123) 123 2 33 3 := ⟨rfl, rfl, rfl⟩
theorem t32_34 : xtb zt32 34 37 47 (.if_icmp .lt 13) (13) := ⟨rfl, rfl, rfl⟩
theorem t32_37 : xt zt32 37 39 (.iload 4) := ⟨rfl, rfl⟩
theorem t32_39 : xt zt32 39 40 (.iload_n 2) := ⟨rfl, rfl⟩
theorem t32_40 : xt zt32 40 41 (.iload_n 3) := ⟨rfl, rfl⟩
theorem t32_41 : xtc zt32 4 41 44 (.invokestatic 127) 127 2 34 2 := ⟨rfl, rfl, rfl⟩
theorem t32_44 : xtb zt32 44 47 53 (.if_icmp .le 9) (9) := ⟨rfl, rfl, rfl⟩
theorem t32_47 : xt zt32 47 48 (.aload_n 0) := ⟨rfl, rfl⟩
theorem t32_48 : xtk zt32 48 49 (2) := Or.inl ⟨2, ⟨rfl, rfl⟩, by decide⟩
theorem t32_49 : xtc zt32 4 49 52 (.invokevirtual 63) 63 1 28 1 := ⟨rfl, rfl, rfl⟩
theorem t32_52 : xt zt32 52 53 .ireturn := ⟨rfl, rfl⟩
theorem t32_53 : xt zt32 53 54 (.aload_n 1) := ⟨rfl, rfl⟩
theorem t32_54 : xt zt32 54 55 (.iload_n 3) := ⟨rfl, rfl⟩
theorem t32_55 : xt zt32 55 57 (.iload 4) := ⟨rfl, rfl⟩
theorem t32_57 : xtc zt32 4 57 60 (.invokevirtual 119) 119 1 84 2 := ⟨rfl, rfl, rfl⟩
theorem t32_60 : xt zt32 60 61 (.iload_n 2) := ⟨rfl, rfl⟩
theorem t32_61 : xtk zt32 61 63 (35) := Or.inr (Or.inl ⟨35, ⟨rfl, rfl⟩, by decide⟩)
theorem t32_63 : xtb zt32 63 66 79 (.if_icmp .ne 16) (16) := ⟨rfl, rfl, rfl⟩
theorem t32_66 : xt zt32 66 67 (.aload_n 1) := ⟨rfl, rfl⟩
theorem t32_67 : xtc zt32 4 67 70 (.invokestatic 131) 131 2 35 1 := ⟨rfl, rfl, rfl⟩
theorem t32_70 : xtb zt32 70 73 79 (.ifCond .eq 9) (9) := ⟨rfl, rfl, rfl⟩
theorem t32_73 : xt zt32 73 74 (.aload_n 0) := ⟨rfl, rfl⟩
theorem t32_74 : xtk zt32 74 75 (3) := Or.inl ⟨3, ⟨rfl, rfl⟩, by decide⟩
theorem t32_75 : xtc zt32 4 75 78 (.invokevirtual 63) 63 1 28 1 := ⟨rfl, rfl, rfl⟩
theorem t32_78 : xt zt32 78 79 .ireturn := ⟨rfl, rfl⟩
theorem t32_79 : xt zt32 79 80 (.aload_n 0) := ⟨rfl, rfl⟩
theorem t32_80 : xtf zt32 4 80 83 (.getfield 12) 12 4 0 3 := ⟨rfl, rfl, rfl, rfl⟩
theorem t32_83 : xtc zt32 4 83 86 (.invokevirtual 88) 88 1 77 0 := ⟨rfl, rfl, rfl⟩
theorem t32_86 : xtk zt32 86 87 (1) := Or.inl ⟨1, ⟨rfl, rfl⟩, by decide⟩
theorem t32_87 : xt zt32 87 88 .ireturn := ⟨rfl, rfl⟩
theorem t33_0 : xt zt33 0 1 (.iload_n 1) := ⟨rfl, rfl⟩
theorem t33_1 : xtk zt33 1 3 (32) := Or.inr (Or.inl ⟨32, ⟨rfl, rfl⟩, by decide⟩)
theorem t33_3 : xtb zt33 3 6 8 (.if_icmp .ne 5) (5) := ⟨rfl, rfl, rfl⟩
theorem t33_6 : xtk zt33 6 7 (1) := Or.inl ⟨1, ⟨rfl, rfl⟩, by decide⟩
theorem t33_7 : xt zt33 7 8 .ireturn := ⟨rfl, rfl⟩
theorem t33_8 : xt zt33 8 9 (.iload_n 1) := ⟨rfl, rfl⟩
theorem t33_9 : xtk zt33 9 11 (37) := Or.inr (Or.inl ⟨37, ⟨rfl, rfl⟩, by decide⟩)
theorem t33_11 : xtb zt33 11 14 23 (.if_icmp .ne 12) (12) := ⟨rfl, rfl, rfl⟩
theorem t33_14 : xt zt33 14 15 (.iload_n 2) := ⟨rfl, rfl⟩
theorem t33_15 : xtk zt33 15 16 (1) := Or.inl ⟨1, ⟨rfl, rfl⟩, by decide⟩
theorem t33_16 : xtb zt33 16 19 23 (.if_icmp .ne 7) (7) := ⟨rfl, rfl, rfl⟩
theorem t33_19 : xtk zt33 19 20 (1) := Or.inl ⟨1, ⟨rfl, rfl⟩, by decide⟩
theorem t33_20 : xtb zt33 20 23 24 (.goto 4) (4) := ⟨rfl, rfl, rfl⟩
theorem t33_23 : xtk zt33 23 24 (0) := Or.inl ⟨0, ⟨rfl, rfl⟩, by decide⟩
theorem t33_24 : xt zt33 24 25 (.istore_n 3) := ⟨rfl, rfl⟩
theorem t33_25 : xt zt33 25 26 (.iload_n 3) := ⟨rfl, rfl⟩
theorem t33_26 : xtb zt33 26 29 41 (.ifCond .eq 15) (15) := ⟨rfl, rfl, rfl⟩
theorem t33_29 : xt zt33 29 30 (.aload_n 0) := ⟨rfl, rfl⟩
theorem t33_30 : xt zt33 30 31 (.aload_n 0) := ⟨rfl, rfl⟩
theorem t33_31 : xtf zt33 4 31 34 (.getfield 135) 135 7 3 1 := ⟨rfl, rfl, rfl, rfl⟩
theorem t33_34 : xtk zt33 34 35 (0) := Or.inl ⟨0, ⟨rfl, rfl⟩, by decide⟩
theorem t33_35 : xtc zt33 4 35 38 (.invokevirtual 138) 138 1 83 2 := ⟨rfl, rfl, rfl⟩
theorem t33_38 : xtb zt33 38 41 42 (.goto 4) (4) := ⟨rfl, rfl, rfl⟩
theorem t33_41 : xtk zt33 41 42 (0) := Or.inl ⟨0, ⟨rfl, rfl⟩, by decide⟩
theorem t33_42 : xt zt33 42 43 .ireturn := ⟨rfl, rfl⟩
theorem t34_0 : xt zt34 0 1 (.iload_n 0) := ⟨rfl, rfl⟩
theorem t34_1 : xtk zt34 1 3 (32) := Or.inr (Or.inl ⟨32, ⟨rfl, rfl⟩, by decide⟩)
theorem t34_3 : xt zt34 3 4 .isub := ⟨rfl, rfl⟩
theorem t34_4 : xtk zt34 4 5 (5) := Or.inl ⟨5, ⟨rfl, rfl⟩, by decide⟩
theorem t34_5 : xt zt34 5 6 .imul := ⟨rfl, rfl⟩
theorem t34_6 : xt zt34 6 7 (.iload_n 1) := ⟨rfl, rfl⟩
theorem t34_7 : xt zt34 7 8 .iadd := ⟨rfl, rfl⟩
theorem t34_8 : xt zt34 8 9 (.istore_n 2) := ⟨rfl, rfl⟩
theorem t34_9 : xt zt34 9 10 (.iload_n 2) := ⟨rfl, rfl⟩
theorem t34_10 : xtb zt34 10 13 29 (.ifCond .lt 19) (19) := ⟨rfl, rfl, rfl⟩
theorem t34_13 : xt zt34 13 14 (.iload_n 2) := ⟨rfl, rfl⟩
theorem t34_14 : xt zt34 14 17 (.getstatic 141) := ⟨rfl, rfl⟩
theorem t34_17 : xt zt34 17 18 .arraylength := ⟨rfl, rfl⟩
theorem t34_18 : xtb zt34 18 21 29 (.if_icmp .ge 11) (11) := ⟨rfl, rfl, rfl⟩
theorem t34_21 : xt zt34 21 24 (.getstatic 141) := ⟨rfl, rfl⟩
theorem t34_24 : xt zt34 24 25 (.iload_n 2) := ⟨rfl, rfl⟩
theorem t34_25 : xt zt34 25 26 .iaload := ⟨rfl, rfl⟩
theorem t34_26 : xtb zt34 26 29 30 (.goto 4) (4) := ⟨rfl, rfl, rfl⟩
theorem t34_29 : xtk zt34 29 30 (0) := Or.inl ⟨0, ⟨rfl, rfl⟩, by decide⟩
theorem t34_30 : xt zt34 30 31 .ireturn := ⟨rfl, rfl⟩
theorem t35_0 : xt zt35 0 1 (.aload_n 0) := ⟨rfl, rfl⟩
theorem t35_1 : xt zt35 1 2 (.aload_n 0) := ⟨rfl, rfl⟩
theorem t35_2 : xtf zt35 4 2 5 (.getfield 135) 135 7 3 1 := ⟨rfl, rfl, rfl, rfl⟩
theorem t35_5 : xtk zt35 5 6 (0) := Or.inl ⟨0, ⟨rfl, rfl⟩, by decide⟩
theorem t35_6 : xtc zt35 4 6 9 (.invokevirtual 138) 138 1 83 2 := ⟨rfl, rfl, rfl⟩
theorem t35_9 : xt zt35 9 10 (.istore_n 1) := ⟨rfl, rfl⟩
theorem t35_10 : xt zt35 10 11 (.aload_n 0) := ⟨rfl, rfl⟩
theorem t35_11 : xt zt35 11 12 (.aload_n 0) := ⟨rfl, rfl⟩
theorem t35_12 : xtf zt35 4 12 15 (.getfield 135) 135 7 3 1 := ⟨rfl, rfl, rfl, rfl⟩
theorem t35_15 : xtk zt35 15 16 (1) := Or.inl ⟨1, ⟨rfl, rfl⟩, by decide⟩
theorem t35_16 : xtc zt35 4 16 19 (.invokevirtual 138) 138 1 83 2 := ⟨rfl, rfl, rfl⟩
theorem t35_19 : xt zt35 19 20 (.istore_n 2) := ⟨rfl, rfl⟩
theorem t35_20 : xtk zt35 20 21 (0) := Or.inl ⟨0, ⟨rfl, rfl⟩, by decide⟩
theorem t35_21 : xt zt35 21 22 (.istore_n 3) := ⟨rfl, rfl⟩
theorem t35_22 : xt zt35 22 23 (.iload_n 3) := ⟨rfl, rfl⟩
theorem t35_23 : xt zt35 23 24 (.aload_n 0) := ⟨rfl, rfl⟩
theorem t35_24 : xtf zt35 4 24 27 (.getfield 135) 135 7 3 1 := ⟨rfl, rfl, rfl, rfl⟩
theorem t35_27 : xtb zt35 27 30 58 (.if_icmp .ge 31) (31) := ⟨rfl, rfl, rfl⟩
theorem t35_30 : xt zt35 30 31 (.aload_n 0) := ⟨rfl, rfl⟩
theorem t35_31 : xt zt35 31 32 (.iload_n 3) := ⟨rfl, rfl⟩
theorem t35_32 : xtk zt35 32 33 (0) := Or.inl ⟨0, ⟨rfl, rfl⟩, by decide⟩
theorem t35_33 : xtc zt35 4 33 36 (.invokevirtual 138) 138 1 83 2 := ⟨rfl, rfl, rfl⟩
theorem t35_36 : xt zt35 36 37 (.iload_n 1) := ⟨rfl, rfl⟩
theorem t35_37 : xtb zt35 37 40 52 (.if_icmp .ne 15) (15) := ⟨rfl, rfl, rfl⟩
theorem t35_40 : xt zt35 40 41 (.aload_n 0) := ⟨rfl, rfl⟩
theorem t35_41 : xt zt35 41 42 (.iload_n 3) := ⟨rfl, rfl⟩
theorem t35_42 : xtk zt35 42 43 (1) := Or.inl ⟨1, ⟨rfl, rfl⟩, by decide⟩
theorem t35_43 : xtc zt35 4 43 46 (.invokevirtual 138) 138 1 83 2 := ⟨rfl, rfl, rfl⟩
theorem t35_46 : xt zt35 46 47 (.iload_n 2) := ⟨rfl, rfl⟩
theorem t35_47 : xtb zt35 47 50 52 (.if_icmp .ne 5) (5) := ⟨rfl, rfl, rfl⟩
theorem t35_50 : xtk zt35 50 51 (1) := Or.inl ⟨1, ⟨rfl, rfl⟩, by decide⟩
theorem t35_51 : xt zt35 51 52 .ireturn := ⟨rfl, rfl⟩
theorem t35_52 : xt zt35 52 55 (.iinc 3 1) := ⟨rfl, rfl⟩
theorem t35_55 : xtb zt35 55 58 22 (.goto (-33)) (-33) := ⟨rfl, rfl, rfl⟩
theorem t35_58 : xtk zt35 58 59 (0) := Or.inl ⟨0, ⟨rfl, rfl⟩, by decide⟩
theorem t35_59 : xt zt35 59 60 .ireturn := ⟨rfl, rfl⟩
theorem t36_0 : xt zt36 0 1 (.aload_n 0) := ⟨rfl, rfl⟩
theorem t36_1 : xtf zt36 4 1 4 (.getfield 12) 12 4 0 3 := ⟨rfl, rfl, rfl, rfl⟩
theorem t36_4 : xtc zt36 4 4 7 (.invokevirtual 88) 88 1 77 0 := ⟨rfl, rfl, rfl⟩
theorem t36_7 : xt zt36 7 8 (.aload_n 0) := ⟨rfl, rfl⟩
theorem t36_8 : xtf zt36 4 8 11 (.getfield 12) 12 4 0 3 := ⟨rfl, rfl, rfl, rfl⟩
theorem t36_11 : xtf zt36 4 11 14 (.getfield 49) 49 6 4 1 := ⟨rfl, rfl, rfl, rfl⟩
theorem t36_14 : xtk zt36 14 16 (41) := Or.inr (Or.inl ⟨41, ⟨rfl, rfl⟩, by decide⟩)
theorem t36_16 : xt zt36 16 17 .isub := ⟨rfl, rfl⟩
theorem t36_17 : xt zt36 17 18 (.istore_n 2) := ⟨rfl, rfl⟩
theorem t36_18 : xt zt36 18 19 (.iload_n 2) := ⟨rfl, rfl⟩
theorem t36_19 : xtb zt36 19 22 27 (.ifCond .lt 8) (8) := ⟨rfl, rfl, rfl⟩
theorem t36_22 : xt zt36 22 23 (.iload_n 2) := ⟨rfl, rfl⟩
theorem t36_23 : xtk zt36 23 24 (2) := Or.inl ⟨2, ⟨rfl, rfl⟩, by decide⟩
theorem t36_24 : xtb zt36 24 27 33 (.if_icmp .le 9) (9) := ⟨rfl, rfl, rfl⟩
theorem t36_27 : xt zt36 27 28 (.aload_n 0) := ⟨rfl, rfl⟩
theorem t36_28 : xtk zt36 28 29 (1) := Or.inl ⟨1, ⟨rfl, rfl⟩, by decide⟩
theorem t36_29 : xtc zt36 4 29 32 (.invokevirtual 63) 63 1 28 1 := ⟨rfl, rfl, rfl⟩
theorem t36_32 : xt zt36 32 33 .ireturn := ⟨rfl, rfl⟩
theorem t36_33 : xt zt36 33 34 (.aload_n 1) := ⟨rfl, rfl⟩
theorem t36_34 : xt zt36 34 35 (.iload_n 2) := ⟨rfl, rfl⟩
theorem t36_35 : xtc zt36 4 35 38 (.invokevirtual 144) 144 1 2 1 := ⟨rfl, rfl, rfl⟩
theorem t36_38 : xtb zt36 38 41 47 (.ifCond .eq 9) (9) := ⟨rfl, rfl, rfl⟩
theorem t36_41 : xt zt36 41 42 (.aload_n 0) := ⟨rfl, rfl⟩
theorem t36_42 : xtk zt36 42 43 (3) := Or.inl ⟨3, ⟨rfl, rfl⟩, by decide⟩
theorem t36_43 : xtc zt36 4 43 46 (.invokevirtual 63) 63 1 28 1 := ⟨rfl, rfl, rfl⟩
theorem t36_46 : xt zt36 46 47 .ireturn := ⟨rfl, rfl⟩
theorem t36_47 : xt zt36 47 48 (.aload_n 0) := ⟨rfl, rfl⟩
theorem t36_48 : xtf zt36 4 48 51 (.getfield 12) 12 4 0 3 := ⟨rfl, rfl, rfl, rfl⟩
theorem t36_51 : xtc zt36 4 51 54 (.invokevirtual 88) 88 1 77 0 := ⟨rfl, rfl, rfl⟩
theorem t36_54 : xt zt36 54 55 (.aload_n 1) := ⟨rfl, rfl⟩
theorem t36_55 : xt zt36 55 56 (.iload_n 2) := ⟨rfl, rfl⟩
theorem t36_56 : xtc zt36 4 56 59 (.invokevirtual 147) 147 1 3 1 := ⟨rfl, rfl, rfl⟩
theorem t36_59 : xt zt36 59 60 (.aload_n 0) := ⟨rfl, rfl⟩
theorem t36_60 : xt zt36 60 61 (.aload_n 1) := ⟨rfl, rfl⟩
theorem t36_61 : xtc zt36 4 61 64 (.invokevirtual 151) 151 1 37 1 := ⟨rfl, rfl, rfl⟩
theorem t36_64 : xtb zt36 64 67 69 (.ifCond .ne 5) (5) := ⟨rfl, rfl, rfl⟩
theorem t36_67 : xtk zt36 67 68 (0) := Or.inl ⟨0, ⟨rfl, rfl⟩, by decide⟩
theorem t36_68 : xt zt36 68 69 .ireturn := ⟨rfl, rfl⟩
theorem t36_69 : xt zt36 69 70 (.aload_n 1) := ⟨rfl, rfl⟩
theorem t36_70 : xt zt36 70 71 (.iload_n 2) := ⟨rfl, rfl⟩
theorem t36_71 : xtc zt36 4 71 74 (.invokevirtual 154) 154 1 4 1 := ⟨rfl, rfl, rfl⟩
theorem t36_74 : xt zt36 74 75 (.aload_n 0) := ⟨rfl, rfl⟩
theorem t36_75 : xtc zt36 4 75 78 (.invokevirtual 105) 105 1 30 0 := ⟨rfl, rfl, rfl⟩
theorem t36_78 : xt zt36 78 79 .ireturn := ⟨rfl, rfl⟩
theorem t37_0 : xt zt37 0 1 (.aload_n 0) := ⟨rfl, rfl⟩
theorem t37_1 : xtk zt37 1 2 (0) := Or.inl ⟨0, ⟨rfl, rfl⟩, by decide⟩
theorem t37_2 : xtf zt37 4 2 5 (.putfield 24) 24 4 2 1 := ⟨rfl, rfl, rfl, rfl⟩
theorem t37_5 : xt zt37 5 6 (.aload_n 0) := ⟨rfl, rfl⟩
theorem t37_6 : xtk zt37 6 7 (0) := Or.inl ⟨0, ⟨rfl, rfl⟩, by decide⟩
theorem t37_7 : xtf zt37 4 7 10 (.putfield 28) 28 4 3 1 := ⟨rfl, rfl, rfl, rfl⟩
theorem t37_10 : xtk zt37 10 11 (1) := Or.inl ⟨1, ⟨rfl, rfl⟩, by decide⟩
theorem t37_11 : xt zt37 11 12 (.istore_n 2) := ⟨rfl, rfl⟩
theorem t37_12 : xtk zt37 12 13 (0) := Or.inl ⟨0, ⟨rfl, rfl⟩, by decide⟩
theorem t37_13 : xt zt37 13 14 (.istore_n 3) := ⟨rfl, rfl⟩
theorem t37_14 : xt zt37 14 15 (.iload_n 3) := ⟨rfl, rfl⟩
theorem t37_15 : xt zt37 15 16 (.aload_n 0) := ⟨rfl, rfl⟩
theorem t37_16 : xtf zt37 4 16 19 (.getfield 12) 12 4 0 3 := ⟨rfl, rfl, rfl, rfl⟩
theorem t37_19 : xtf zt37 4 19 22 (.getfield 157) 157 6 2 1 := ⟨rfl, rfl, rfl, rfl⟩
theorem t37_22 : xtb zt37 22 25 128 (.if_icmp .gt 106) (106) := ⟨rfl, rfl, rfl⟩
theorem t37_25 : xt zt37 25 26 (.aload_n 0) := ⟨rfl, rfl⟩
theorem t37_26 : xtf zt37 4 26 29 (.getfield 12) 12 4 0 3 := ⟨rfl, rfl, rfl, rfl⟩
theorem t37_29 : xtf zt37 4 29 32 (.getfield 49) 49 6 4 1 := ⟨rfl, rfl, rfl, rfl⟩
theorem t37_32 : xt zt37 32 34 (.istore 4) := ⟨rfl, rfl⟩
theorem t37_34 : xt zt37 34 35 (.iload_n 2) := ⟨rfl, rfl⟩
theorem t37_35 : xtb zt37 35 38 71 (.ifCond .eq 36) (36) := ⟨rfl, rfl, rfl⟩
theorem t37_38 : xt zt37 38 39 (.aload_n 0) := ⟨rfl, rfl⟩
theorem t37_39 : xt zt37 39 40 (.aload_n 1) := ⟨rfl, rfl⟩
theorem t37_40 : xtc zt37 4 40 43 (.invokevirtual 160) 160 1 39 1 := ⟨rfl, rfl, rfl⟩
theorem t37_43 : xtb zt37 43 46 48 (.ifCond .ne 5) (5) := ⟨rfl, rfl, rfl⟩
theorem t37_46 : xtk zt37 46 47 (0) := Or.inl ⟨0, ⟨rfl, rfl⟩, by decide⟩
theorem t37_47 : xt zt37 47 48 .ireturn := ⟨rfl, rfl⟩
theorem t37_48 : xt zt37 48 50 (.iload 4) := ⟨rfl, rfl⟩
theorem t37_50 : xtk zt37 50 51 (2) := Or.inl ⟨2, ⟨rfl, rfl⟩, by decide⟩
theorem t37_51 : xtb zt37 51 54 66 (.if_icmp .eq 15) (15) := ⟨rfl, rfl, rfl⟩
theorem t37_54 : xt zt37 54 56 (.iload 4) := ⟨rfl, rfl⟩
theorem t37_56 : xtc zt37 4 56 59 (.invokestatic 163) 163 2 38 1 := ⟨rfl, rfl, rfl⟩
theorem t37_59 : xtb zt37 59 62 66 (.ifCond .ne 7) (7) := ⟨rfl, rfl, rfl⟩
theorem t37_62 : xtk zt37 62 63 (1) := Or.inl ⟨1, ⟨rfl, rfl⟩, by decide⟩
theorem t37_63 : xtb zt37 63 66 67 (.goto 4) (4) := ⟨rfl, rfl, rfl⟩
theorem t37_66 : xtk zt37 66 67 (0) := Or.inl ⟨0, ⟨rfl, rfl⟩, by decide⟩
theorem t37_67 : xt zt37 67 68 (.istore_n 2) := ⟨rfl, rfl⟩
theorem t37_68 : xtb zt37 68 71 115 (.goto 47) (47) := ⟨rfl, rfl, rfl⟩
theorem t37_71 : xt zt37 71 73 (.iload 4) := ⟨rfl, rfl⟩
theorem t37_73 : xtk zt37 73 74 (4) := Or.inl ⟨4, ⟨rfl, rfl⟩, by decide⟩
theorem t37_74 : xtb zt37 74 77 92 (.if_icmp .ne 18) (18) := ⟨rfl, rfl, rfl⟩
theorem t37_77 : xt zt37 77 78 (.aload_n 0) := ⟨rfl, rfl⟩
theorem t37_78 : xtf zt37 4 78 81 (.getfield 28) 28 4 3 1 := ⟨rfl, rfl, rfl, rfl⟩
theorem t37_81 : xtb zt37 81 84 92 (.ifCond .ne 11) (11) := ⟨rfl, rfl, rfl⟩
theorem t37_84 : xt zt37 84 85 (.aload_n 0) := ⟨rfl, rfl⟩
theorem t37_85 : xt zt37 85 86 (.aload_n 1) := ⟨rfl, rfl⟩
theorem t37_86 : xtk zt37 86 87 (1) := Or.inl ⟨1, ⟨rfl, rfl⟩, by decide⟩
theorem t37_87 : xtc zt37 4 87 90 (.invokevirtual 166) 166 1 44 2 := ⟨rfl, rfl, rfl⟩
theorem t37_90 : xtk zt37 90 91 (1) := Or.inl ⟨1, ⟨rfl, rfl⟩, by decide⟩
theorem t37_91 : xt zt37 91 92 .ireturn := ⟨rfl, rfl⟩
theorem t37_92 : xt zt37 92 93 (.aload_n 0) := ⟨rfl, rfl⟩
theorem t37_93 : xt zt37 93 94 (.aload_n 1) := ⟨rfl, rfl⟩
theorem t37_94 : xtc zt37 4 94 97 (.invokevirtual 170) 170 1 40 1 := ⟨rfl, rfl, rfl⟩
theorem t37_97 : xtb zt37 97 100 102 (.ifCond .ne 5) (5) := ⟨rfl, rfl, rfl⟩
theorem t37_100 : xtk zt37 100 101 (0) := Or.inl ⟨0, ⟨rfl, rfl⟩, by decide⟩
theorem t37_101 : xt zt37 101 102 .ireturn := ⟨rfl, rfl⟩
theorem t37_102 : xt zt37 102 104 (.iload 4) := ⟨rfl, rfl⟩
theorem t37_104 : xtk zt37 104 106 (6) := Or.inr (Or.inl ⟨6, ⟨rfl, rfl⟩, by decide⟩)
theorem t37_106 : xtb zt37 106 109 113 (.if_icmp .eq 7) (7) := ⟨rfl, rfl, rfl⟩
theorem t37_109 : xtk zt37 109 110 (1) := Or.inl ⟨1, ⟨rfl, rfl⟩, by decide⟩
theorem t37_110 : xtb zt37 110 113 114 (.goto 4) (4) := ⟨rfl, rfl, rfl⟩
theorem t37_113 : xtk zt37 113 114 (0) := Or.inl ⟨0, ⟨rfl, rfl⟩, by decide⟩
theorem t37_114 : xt zt37 114 115 (.istore_n 2) := ⟨rfl, rfl⟩
theorem t37_115 : xt zt37 115 116 (.aload_n 0) := ⟨rfl, rfl⟩
theorem t37_116 : xtf zt37 4 116 119 (.getfield 12) 12 4 0 3 := ⟨rfl, rfl, rfl, rfl⟩
theorem t37_119 : xtc zt37 4 119 122 (.invokevirtual 88) 88 1 77 0 := ⟨rfl, rfl, rfl⟩
theorem t37_122 : xt zt37 122 125 (.iinc 3 1) := ⟨rfl, rfl⟩
theorem t37_125 : xtb zt37 125 128 14 (.goto (-111)) (-111) := ⟨rfl, rfl, rfl⟩
theorem t37_128 : xt zt37 128 129 (.aload_n 0) := ⟨rfl, rfl⟩
theorem t37_129 : xtk zt37 129 130 (1) := Or.inl ⟨1, ⟨rfl, rfl⟩, by decide⟩
theorem t37_130 : xtc zt37 4 130 133 (.invokevirtual 63) 63 1 28 1 := ⟨rfl, rfl, rfl⟩
theorem t37_133 : xt zt37 133 134 .ireturn := ⟨rfl, rfl⟩
theorem t38_0 : xt zt38 0 1 (.iload_n 0) := ⟨rfl, rfl⟩
theorem t38_1 : xtk zt38 1 3 (47) := Or.inr (Or.inl ⟨47, ⟨rfl, rfl⟩, by decide⟩)
theorem t38_3 : xtb zt38 3 6 16 (.if_icmp .lt 13) (13) := ⟨rfl, rfl, rfl⟩
theorem t38_6 : xt zt38 6 7 (.iload_n 0) := ⟨rfl, rfl⟩
theorem t38_7 : xtk zt38 7 9 (53) := Or.inr (Or.inl ⟨53, ⟨rfl, rfl⟩, by decide⟩)
theorem t38_9 : xtb zt38 9 12 16 (.if_icmp .gt 7) (7) := ⟨rfl, rfl, rfl⟩
theorem t38_12 : xtk zt38 12 13 (1) := Or.inl ⟨1, ⟨rfl, rfl⟩, by decide⟩
theorem t38_13 : xtb zt38 13 16 17 (.goto 4) (4) := ⟨rfl, rfl, rfl⟩
theorem t38_16 : xtk zt38 16 17 (0) := Or.inl ⟨0, ⟨rfl, rfl⟩, by decide⟩
theorem t38_17 : xt zt38 17 18 .ireturn := ⟨rfl, rfl⟩
theorem t39_0 : xt zt39 0 1 (.aload_n 0) := ⟨rfl, rfl⟩
theorem t39_1 : xtf zt39 4 1 4 (.getfield 12) 12 4 0 3 := ⟨rfl, rfl, rfl, rfl⟩
theorem t39_4 : xtf zt39 4 4 7 (.getfield 49) 49 6 4 1 := ⟨rfl, rfl, rfl, rfl⟩
theorem t39_7 : xt zt39 7 8 (.istore_n 2) := ⟨rfl, rfl⟩
theorem t39_8 : xt zt39 8 9 (.iload_n 2) := ⟨rfl, rfl⟩
theorem t39_9 : xtk zt39 9 10 (5) := Or.inl ⟨5, ⟨rfl, rfl⟩, by decide⟩
theorem t39_10 : xtb zt39 10 13 45 (.if_icmp .ne 35) (35) := ⟨rfl, rfl, rfl⟩
theorem t39_13 : xt zt39 13 14 (.aload_n 0) := ⟨rfl, rfl⟩
theorem t39_14 : xtf zt39 4 14 17 (.getfield 28) 28 4 3 1 := ⟨rfl, rfl, rfl, rfl⟩
theorem t39_17 : xtk zt39 17 19 (8) := Or.inr (Or.inl ⟨8, ⟨rfl, rfl⟩, by decide⟩)
theorem t39_19 : xtb zt39 19 22 28 (.if_icmp .lt 9) (9) := ⟨rfl, rfl, rfl⟩
theorem t39_22 : xt zt39 22 23 (.aload_n 0) := ⟨rfl, rfl⟩
theorem t39_23 : xtk zt39 23 24 (2) := Or.inl ⟨2, ⟨rfl, rfl⟩, by decide⟩
theorem t39_24 : xtc zt39 4 24 27 (.invokevirtual 63) 63 1 28 1 := ⟨rfl, rfl, rfl⟩
theorem t39_27 : xt zt39 27 28 .ireturn := ⟨rfl, rfl⟩
theorem t39_28 : xt zt39 28 29 (.aload_n 0) := ⟨rfl, rfl⟩
theorem t39_29 : xt zt39 29 30 .dup := ⟨rfl, rfl⟩
theorem t39_30 : xtf zt39 4 30 33 (.getfield 28) 28 4 3 1 := ⟨rfl, rfl, rfl, rfl⟩
theorem t39_33 : xtk zt39 33 34 (1) := Or.inl ⟨1, ⟨rfl, rfl⟩, by decide⟩
theorem t39_34 : xt zt39 34 35 .iadd := ⟨rfl, rfl⟩
theorem t39_35 : xtf zt39 4 35 38 (.putfield 28) 28 4 3 1 := ⟨rfl, rfl, rfl, rfl⟩
theorem t39_38 : xt zt39 38 39 (.aload_n 0) := ⟨rfl, rfl⟩
theorem t39_39 : xt zt39 39 40 (.iload_n 2) := ⟨rfl, rfl⟩
theorem t39_40 : xtc zt39 4 40 43 (.invokevirtual 173) 173 1 43 1 := ⟨rfl, rfl, rfl⟩
theorem t39_43 : xtk zt39 43 44 (1) := Or.inl ⟨1, ⟨rfl, rfl⟩, by decide⟩
theorem t39_44 : xt zt39 44 45 .ireturn := ⟨rfl, rfl⟩
theorem t39_45 : xt zt39 45 46 (.iload_n 2) := ⟨rfl, rfl⟩
theorem t39_46 : xtk zt39 46 48 (46) := Or.inr (Or.inl ⟨46, ⟨rfl, rfl⟩, by decide⟩)
theorem t39_48 : xtb zt39 48 51 82 (.if_icmp .ne 34) (34) := ⟨rfl, rfl, rfl⟩
theorem t39_51 : xt zt39 51 52 (.aload_n 0) := ⟨rfl, rfl⟩
theorem t39_52 : xtc zt39 4 52 55 (.invokevirtual 176) 176 1 42 0 := ⟨rfl, rfl, rfl⟩
theorem t39_55 : xtc zt39 4 55 58 (.invokestatic 180) 180 2 45 1 := ⟨rfl, rfl, rfl⟩
theorem t39_58 : xtk zt39 58 60 (46) := Or.inr (Or.inl ⟨46, ⟨rfl, rfl⟩, by decide⟩)
theorem t39_60 : xtc zt39 4 60 63 (.invokestatic 180) 180 2 45 1 := ⟨rfl, rfl, rfl⟩
theorem t39_63 : xtb zt39 63 66 72 (.if_icmp .le 9) (9) := ⟨rfl, rfl, rfl⟩
theorem t39_66 : xt zt39 66 67 (.aload_n 0) := ⟨rfl, rfl⟩
theorem t39_67 : xtk zt39 67 68 (1) := Or.inl ⟨1, ⟨rfl, rfl⟩, by decide⟩
theorem t39_68 : xtc zt39 4 68 71 (.invokevirtual 63) 63 1 28 1 := ⟨rfl, rfl, rfl⟩
theorem t39_71 : xt zt39 71 72 .ireturn := ⟨rfl, rfl⟩
theorem t39_72 : xt zt39 72 73 (.aload_n 0) := ⟨rfl, rfl⟩
theorem t39_73 : xt zt39 73 74 (.iload_n 2) := ⟨rfl, rfl⟩
theorem t39_74 : xtc zt39 4 74 77 (.invokevirtual 173) 173 1 43 1 := ⟨rfl, rfl, rfl⟩
theorem t39_77 : xt zt39 77 78 (.aload_n 0) := ⟨rfl, rfl⟩
theorem t39_78 : xtc zt39 4 78 81 (.invokevirtual 183) 183 1 41 0 := ⟨rfl, rfl, rfl⟩
theorem t39_81 : xt zt39 81 82 .ireturn := ⟨rfl, rfl⟩
theorem t39_82 : xt zt39 82 83 (.iload_n 2) := ⟨rfl, rfl⟩
theorem t39_83 : xtk zt39 83 84 (2) := Or.inl ⟨2, ⟨rfl, rfl⟩, by decide⟩
theorem t39_84 : xtb zt39 84 87 100 (.if_icmp .eq 16) (16) := ⟨rfl, rfl, rfl⟩
theorem t39_87 : xt zt39 87 88 (.iload_n 2) := ⟨rfl, rfl⟩
theorem t39_88 : xtc zt39 4 88 91 (.invokestatic 163) 163 2 38 1 := ⟨rfl, rfl, rfl⟩
theorem t39_91 : xtb zt39 91 94 100 (.ifCond .ne 9) (9) := ⟨rfl, rfl, rfl⟩
theorem t39_94 : xt zt39 94 95 (.aload_n 0) := ⟨rfl, rfl⟩
theorem t39_95 : xtk zt39 95 96 (1) := Or.inl ⟨1, ⟨rfl, rfl⟩, by decide⟩
theorem t39_96 : xtc zt39 4 96 99 (.invokevirtual 63) 63 1 28 1 := ⟨rfl, rfl, rfl⟩
theorem t39_99 : xt zt39 99 100 .ireturn := ⟨rfl, rfl⟩
theorem t39_100 : xt zt39 100 101 (.iload_n 2) := ⟨rfl, rfl⟩
theorem t39_101 : xtk zt39 101 102 (2) := Or.inl ⟨2, ⟨rfl, rfl⟩, by decide⟩
theorem t39_102 : xtb zt39 102 105 124 (.if_icmp .ne 22) (22) := ⟨rfl, rfl, rfl⟩
theorem t39_105 : xt zt39 105 106 (.aload_n 0) := ⟨rfl, rfl⟩
theorem t39_106 : xtf zt39 4 106 109 (.getfield 12) 12 4 0 3 := ⟨rfl, rfl, rfl, rfl⟩
theorem t39_109 : xtf zt39 4 109 112 (.getfield 108) 108 6 5 1 := ⟨rfl, rfl, rfl, rfl⟩
theorem t39_112 : xtk zt39 112 115 (9999) := Or.inr (Or.inr ⟨9999, ⟨rfl, rfl⟩, by decide⟩)
theorem t39_115 : xtb zt39 115 118 124 (.if_icmp .le 9) (9) := ⟨rfl, rfl, rfl⟩
theorem t39_118 : xt zt39 118 119 (.aload_n 0) := ⟨rfl, rfl⟩
theorem t39_119 : xtk zt39 119 120 (2) := Or.inl ⟨2, ⟨rfl, rfl⟩, by decide⟩
theorem t39_120 : xtc zt39 4 120 123 (.invokevirtual 63) 63 1 28 1 := ⟨rfl, rfl, rfl⟩
theorem t39_123 : xt zt39 123 124 .ireturn := ⟨rfl, rfl⟩
theorem t39_124 : xt zt39 124 125 (.aload_n 1) := ⟨rfl, rfl⟩
theorem t39_125 : xt zt39 125 126 (.iload_n 2) := ⟨rfl, rfl⟩
theorem t39_126 : xt zt39 126 127 (.aload_n 0) := ⟨rfl, rfl⟩
theorem t39_127 : xtf zt39 4 127 130 (.getfield 12) 12 4 0 3 := ⟨rfl, rfl, rfl, rfl⟩
theorem t39_130 : xtf zt39 4 130 133 (.getfield 108) 108 6 5 1 := ⟨rfl, rfl, rfl, rfl⟩
theorem t39_133 : xtc zt39 4 133 136 (.invokevirtual 186) 186 1 5 2 := ⟨rfl, rfl, rfl⟩
theorem t39_136 : xt zt39 136 137 (.aload_n 0) := ⟨rfl, rfl⟩
theorem t39_137 : xtc zt39 4 137 140 (.invokevirtual 183) 183 1 41 0 := ⟨rfl, rfl, rfl⟩
theorem t39_140 : xt zt39 140 141 .ireturn := ⟨rfl, rfl⟩
theorem t40_0 : xt zt40 0 1 (.aload_n 0) := ⟨rfl, rfl⟩
theorem t40_1 : xtf zt40 4 1 4 (.getfield 12) 12 4 0 3 := ⟨rfl, rfl, rfl, rfl⟩
theorem t40_4 : xtf zt40 4 4 7 (.getfield 49) 49 6 4 1 := ⟨rfl, rfl, rfl, rfl⟩
theorem t40_7 : xt zt40 7 8 (.istore_n 2) := ⟨rfl, rfl⟩
theorem t40_8 : xt zt40 8 9 (.iload_n 2) := ⟨rfl, rfl⟩
theorem t40_9 : xtk zt40 9 11 (6) := Or.inr (Or.inl ⟨6, ⟨rfl, rfl⟩, by decide⟩)
theorem t40_11 : xtb zt40 11 14 55 (.if_icmp .ne 44) (44) := ⟨rfl, rfl, rfl⟩
theorem t40_14 : xt zt40 14 15 (.aload_n 0) := ⟨rfl, rfl⟩
theorem t40_15 : xtf zt40 4 15 18 (.getfield 28) 28 4 3 1 := ⟨rfl, rfl, rfl, rfl⟩
theorem t40_18 : xtb zt40 18 21 27 (.ifCond .ne 9) (9) := ⟨rfl, rfl, rfl⟩
theorem t40_21 : xt zt40 21 22 (.aload_n 0) := ⟨rfl, rfl⟩
theorem t40_22 : xtk zt40 22 23 (1) := Or.inl ⟨1, ⟨rfl, rfl⟩, by decide⟩
theorem t40_23 : xtc zt40 4 23 26 (.invokevirtual 63) 63 1 28 1 := ⟨rfl, rfl, rfl⟩
theorem t40_26 : xt zt40 26 27 .ireturn := ⟨rfl, rfl⟩
theorem t40_27 : xt zt40 27 28 (.aload_n 0) := ⟨rfl, rfl⟩
theorem t40_28 : xt zt40 28 29 (.aload_n 1) := ⟨rfl, rfl⟩
theorem t40_29 : xtk zt40 29 30 (1) := Or.inl ⟨1, ⟨rfl, rfl⟩, by decide⟩
theorem t40_30 : xtc zt40 4 30 33 (.invokevirtual 166) 166 1 44 2 := ⟨rfl, rfl, rfl⟩
theorem t40_33 : xt zt40 33 34 (.aload_n 0) := ⟨rfl, rfl⟩
theorem t40_34 : xt zt40 34 35 .dup := ⟨rfl, rfl⟩
theorem t40_35 : xtf zt40 4 35 38 (.getfield 24) 24 4 2 1 := ⟨rfl, rfl, rfl, rfl⟩
theorem t40_38 : xtk zt40 38 39 (1) := Or.inl ⟨1, ⟨rfl, rfl⟩, by decide⟩
theorem t40_39 : xt zt40 39 40 .isub := ⟨rfl, rfl⟩
theorem t40_40 : xtf zt40 4 40 43 (.putfield 24) 24 4 2 1 := ⟨rfl, rfl, rfl, rfl⟩
theorem t40_43 : xt zt40 43 44 (.aload_n 0) := ⟨rfl, rfl⟩
theorem t40_44 : xt zt40 44 45 .dup := ⟨rfl, rfl⟩
theorem t40_45 : xtf zt40 4 45 48 (.getfield 28) 28 4 3 1 := ⟨rfl, rfl, rfl, rfl⟩
theorem t40_48 : xtk zt40 48 49 (1) := Or.inl ⟨1, ⟨rfl, rfl⟩, by decide⟩
theorem t40_49 : xt zt40 49 50 .isub := ⟨rfl, rfl⟩
theorem t40_50 : xtf zt40 4 50 53 (.putfield 28) 28 4 3 1 := ⟨rfl, rfl, rfl, rfl⟩
theorem t40_53 : xtk zt40 53 54 (1) := Or.inl ⟨1, ⟨rfl, rfl⟩, by decide⟩
theorem t40_54 : xt zt40 54 55 .ireturn := ⟨rfl, rfl⟩
theorem t40_55 : xt zt40 55 56 (.iload_n 2) := ⟨rfl, rfl⟩
theorem t40_56 : xtc zt40 4 56 59 (.invokestatic 180) 180 2 45 1 := ⟨rfl, rfl, rfl⟩
theorem t40_59 : xt zt40 59 60 (.istore_n 3) := ⟨rfl, rfl⟩
theorem t40_60 : xt zt40 60 61 (.iload_n 3) := ⟨rfl, rfl⟩
theorem t40_61 : xtb zt40 61 64 70 (.ifCond .eq 9) (9) := ⟨rfl, rfl, rfl⟩
theorem t40_64 : xt zt40 64 65 (.iload_n 2) := ⟨rfl, rfl⟩
theorem t40_65 : xtk zt40 65 67 (46) := Or.inr (Or.inl ⟨46, ⟨rfl, rfl⟩, by decide⟩)
theorem t40_67 : xtb zt40 67 70 76 (.if_icmp .ne 9) (9) := ⟨rfl, rfl, rfl⟩
theorem t40_70 : xt zt40 70 71 (.aload_n 0) := ⟨rfl, rfl⟩
theorem t40_71 : xtk zt40 71 72 (1) := Or.inl ⟨1, ⟨rfl, rfl⟩, by decide⟩
theorem t40_72 : xtc zt40 4 72 75 (.invokevirtual 63) 63 1 28 1 := ⟨rfl, rfl, rfl⟩
theorem t40_75 : xt zt40 75 76 .ireturn := ⟨rfl, rfl⟩
theorem t40_76 : xt zt40 76 77 (.aload_n 0) := ⟨rfl, rfl⟩
theorem t40_77 : xt zt40 77 78 (.aload_n 1) := ⟨rfl, rfl⟩
theorem t40_78 : xt zt40 78 79 (.iload_n 3) := ⟨rfl, rfl⟩
theorem t40_79 : xtk zt40 79 80 (4) := Or.inl ⟨4, ⟨rfl, rfl⟩, by decide⟩
theorem t40_80 : xtb zt40 80 83 89 (.if_icmp .ne 9) (9) := ⟨rfl, rfl, rfl⟩
theorem t40_83 : xt zt40 83 84 (.iload_n 3) := ⟨rfl, rfl⟩
theorem t40_84 : xtk zt40 84 85 (1) := Or.inl ⟨1, ⟨rfl, rfl⟩, by decide⟩
theorem t40_85 : xt zt40 85 86 .iadd := ⟨rfl, rfl⟩
theorem t40_86 : xtb zt40 86 89 90 (.goto 4) (4) := ⟨rfl, rfl, rfl⟩
theorem t40_89 : xt zt40 89 90 (.iload_n 3) := ⟨rfl, rfl⟩
theorem t40_90 : xtc zt40 4 90 93 (.invokevirtual 166) 166 1 44 2 := ⟨rfl, rfl, rfl⟩
theorem t40_93 : xt zt40 93 94 (.iload_n 3) := ⟨rfl, rfl⟩
theorem t40_94 : xtk zt40 94 95 (4) := Or.inl ⟨4, ⟨rfl, rfl⟩, by decide⟩
theorem t40_95 : xtb zt40 95 98 115 (.if_icmp .ne 20) (20) := ⟨rfl, rfl, rfl⟩
theorem t40_98 : xt zt40 98 99 (.aload_n 0) := ⟨rfl, rfl⟩
theorem t40_99 : xtc zt40 4 99 102 (.invokevirtual 176) 176 1 42 0 := ⟨rfl, rfl, rfl⟩
theorem t40_102 : xtc zt40 4 102 105 (.invokestatic 180) 180 2 45 1 := ⟨rfl, rfl, rfl⟩
theorem t40_105 : xtk zt40 105 106 (4) := Or.inl ⟨4, ⟨rfl, rfl⟩, by decide⟩
theorem t40_106 : xtb zt40 106 109 115 (.if_icmp .ne 9) (9) := ⟨rfl, rfl, rfl⟩
theorem t40_109 : xt zt40 109 110 (.aload_n 0) := ⟨rfl, rfl⟩
theorem t40_110 : xtk zt40 110 111 (1) := Or.inl ⟨1, ⟨rfl, rfl⟩, by decide⟩
theorem t40_111 : xtc zt40 4 111 114 (.invokevirtual 63) 63 1 28 1 := ⟨rfl, rfl, rfl⟩
theorem t40_114 : xt zt40 114 115 .ireturn := ⟨rfl, rfl⟩
theorem t40_115 : xt zt40 115 116 (.aload_n 0) := ⟨rfl, rfl⟩
theorem t40_116 : xt zt40 116 117 (.iload_n 2) := ⟨rfl, rfl⟩
theorem t40_117 : xtc zt40 4 117 120 (.invokevirtual 173) 173 1 43 1 := ⟨rfl, rfl, rfl⟩
theorem t40_120 : xt zt40 120 121 (.aload_n 0) := ⟨rfl, rfl⟩
theorem t40_121 : xtc zt40 4 121 124 (.invokevirtual 183) 183 1 41 0 := ⟨rfl, rfl, rfl⟩
theorem t40_124 : xt zt40 124 125 .ireturn := ⟨rfl, rfl⟩
theorem t41_0 : xt zt41 0 1 (.aload_n 0) := ⟨rfl, rfl⟩
theorem t41_1 : xtf zt41 4 1 4 (.getfield 31) 31 4 4 1 := ⟨rfl, rfl, rfl, rfl⟩
theorem t41_4 : xtk zt41 4 6 (64) := Or.inr (Or.inl ⟨64, ⟨rfl, rfl⟩, by decide⟩)
theorem t41_6 : xtb zt41 6 9 15 (.if_icmp .lt 9) (9) := ⟨rfl, rfl, rfl⟩
theorem t41_9 : xt zt41 9 10 (.aload_n 0) := ⟨rfl, rfl⟩
theorem t41_10 : xtk zt41 10 11 (2) := Or.inl ⟨2, ⟨rfl, rfl⟩, by decide⟩
theorem t41_11 : xtc zt41 4 11 14 (.invokevirtual 63) 63 1 28 1 := ⟨rfl, rfl, rfl⟩
theorem t41_14 : xt zt41 14 15 .ireturn := ⟨rfl, rfl⟩
theorem t41_15 : xt zt41 15 16 (.aload_n 0) := ⟨rfl, rfl⟩
theorem t41_16 : xt zt41 16 17 .dup := ⟨rfl, rfl⟩
theorem t41_17 : xtf zt41 4 17 20 (.getfield 31) 31 4 4 1 := ⟨rfl, rfl, rfl, rfl⟩
theorem t41_20 : xtk zt41 20 21 (1) := Or.inl ⟨1, ⟨rfl, rfl⟩, by decide⟩
theorem t41_21 : xt zt41 21 22 .iadd := ⟨rfl, rfl⟩
theorem t41_22 : xtf zt41 4 22 25 (.putfield 31) 31 4 4 1 := ⟨rfl, rfl, rfl, rfl⟩
theorem t41_25 : xtk zt41 25 26 (1) := Or.inl ⟨1, ⟨rfl, rfl⟩, by decide⟩
theorem t41_26 : xt zt41 26 27 .ireturn := ⟨rfl, rfl⟩
theorem t42_0 : xt zt42 0 1 (.aload_n 0) := ⟨rfl, rfl⟩
theorem t42_1 : xtf zt42 4 1 4 (.getfield 24) 24 4 2 1 := ⟨rfl, rfl, rfl, rfl⟩
theorem t42_4 : xtb zt42 4 7 33 (.ifCond .le 29) (29) := ⟨rfl, rfl, rfl⟩
theorem t42_7 : xt zt42 7 8 (.aload_n 0) := ⟨rfl, rfl⟩
theorem t42_8 : xtf zt42 4 8 11 (.getfield 24) 24 4 2 1 := ⟨rfl, rfl, rfl, rfl⟩
theorem t42_11 : xt zt42 11 12 (.aload_n 0) := ⟨rfl, rfl⟩
theorem t42_12 : xtf zt42 4 12 15 (.getfield 20) 20 4 1 3 := ⟨rfl, rfl, rfl, rfl⟩
theorem t42_15 : xt zt42 15 16 .arraylength := ⟨rfl, rfl⟩
theorem t42_16 : xtb zt42 16 19 33 (.if_icmp .gt 17) (17) := ⟨rfl, rfl, rfl⟩
theorem t42_19 : xt zt42 19 20 (.aload_n 0) := ⟨rfl, rfl⟩
theorem t42_20 : xtf zt42 4 20 23 (.getfield 20) 20 4 1 3 := ⟨rfl, rfl, rfl, rfl⟩
theorem t42_23 : xt zt42 23 24 (.aload_n 0) := ⟨rfl, rfl⟩
theorem t42_24 : xtf zt42 4 24 27 (.getfield 24) 24 4 2 1 := ⟨rfl, rfl, rfl, rfl⟩
theorem t42_27 : xtk zt42 27 28 (1) := Or.inl ⟨1, ⟨rfl, rfl⟩, by decide⟩
theorem t42_28 : xt zt42 28 29 .isub := ⟨rfl, rfl⟩
theorem t42_29 : xt zt42 29 30 .iaload := ⟨rfl, rfl⟩
theorem t42_30 : xtb zt42 30 33 34 (.goto 4) (4) := ⟨rfl, rfl, rfl⟩
theorem t42_33 : xtk zt42 33 34 (0) := Or.inl ⟨0, ⟨rfl, rfl⟩, by decide⟩
theorem t42_34 : xt zt42 34 35 .ireturn := ⟨rfl, rfl⟩
theorem t43_0 : xt zt43 0 1 (.aload_n 0) := ⟨rfl, rfl⟩
theorem t43_1 : xtf zt43 4 1 4 (.getfield 24) 24 4 2 1 := ⟨rfl, rfl, rfl, rfl⟩
theorem t43_4 : xt zt43 4 5 (.aload_n 0) := ⟨rfl, rfl⟩
theorem t43_5 : xtf zt43 4 5 8 (.getfield 20) 20 4 1 3 := ⟨rfl, rfl, rfl, rfl⟩
theorem t43_8 : xt zt43 8 9 .arraylength := ⟨rfl, rfl⟩
theorem t43_9 : xtb zt43 9 12 32 (.if_icmp .ge 23) (23) := ⟨rfl, rfl, rfl⟩
theorem t43_12 : xt zt43 12 13 (.aload_n 0) := ⟨rfl, rfl⟩
theorem t43_13 : xtf zt43 4 13 16 (.getfield 20) 20 4 1 3 := ⟨rfl, rfl, rfl, rfl⟩
theorem t43_16 : xt zt43 16 17 (.aload_n 0) := ⟨rfl, rfl⟩
theorem t43_17 : xtf zt43 4 17 20 (.getfield 24) 24 4 2 1 := ⟨rfl, rfl, rfl, rfl⟩
theorem t43_20 : xt zt43 20 21 (.iload_n 1) := ⟨rfl, rfl⟩
theorem t43_21 : xt zt43 21 22 .iastore := ⟨rfl, rfl⟩
theorem t43_22 : xt zt43 22 23 (.aload_n 0) := ⟨rfl, rfl⟩
theorem t43_23 : xt zt43 23 24 .dup := ⟨rfl, rfl⟩
theorem t43_24 : xtf zt43 4 24 27 (.getfield 24) 24 4 2 1 := ⟨rfl, rfl, rfl, rfl⟩
theorem t43_27 : xtk zt43 27 28 (1) := Or.inl ⟨1, ⟨rfl, rfl⟩, by decide⟩
theorem t43_28 : xt zt43 28 29 .iadd := ⟨rfl, rfl⟩
theorem t43_29 : xtf zt43 4 29 32 (.putfield 24) 24 4 2 1 := ⟨rfl, rfl, rfl, rfl⟩
theorem t43_32 : xt zt43 32 33 .return_ := ⟨rfl, rfl⟩
theorem t44_0 : xtk zt44 0 1 (0) := Or.inl ⟨0, ⟨rfl, rfl⟩, by decide⟩
theorem t44_1 : xt zt44 1 2 (.istore_n 3) := ⟨rfl, rfl⟩
theorem t44_2 : xt zt44 2 3 (.iload_n 3) := ⟨rfl, rfl⟩
theorem t44_3 : xt zt44 3 4 (.aload_n 0) := ⟨rfl, rfl⟩
theorem t44_4 : xtf zt44 4 4 7 (.getfield 20) 20 4 1 3 := ⟨rfl, rfl, rfl, rfl⟩
theorem t44_7 : xt zt44 7 8 .arraylength := ⟨rfl, rfl⟩
theorem t44_8 : xtb zt44 8 11 47 (.if_icmp .ge 39) (39) := ⟨rfl, rfl, rfl⟩
theorem t44_11 : xt zt44 11 12 (.aload_n 0) := ⟨rfl, rfl⟩
theorem t44_12 : xtc zt44 4 12 15 (.invokevirtual 176) 176 1 42 0 := ⟨rfl, rfl, rfl⟩
theorem t44_15 : xtc zt44 4 15 18 (.invokestatic 180) 180 2 45 1 := ⟨rfl, rfl, rfl⟩
theorem t44_18 : xt zt44 18 19 (.iload_n 2) := ⟨rfl, rfl⟩
theorem t44_19 : xtb zt44 19 22 47 (.if_icmp .lt 28) (28) := ⟨rfl, rfl, rfl⟩
theorem t44_22 : xt zt44 22 23 (.aload_n 1) := ⟨rfl, rfl⟩
theorem t44_23 : xt zt44 23 24 (.aload_n 0) := ⟨rfl, rfl⟩
theorem t44_24 : xtc zt44 4 24 27 (.invokevirtual 176) 176 1 42 0 := ⟨rfl, rfl, rfl⟩
theorem t44_27 : xtk zt44 27 28 (0) := Or.inl ⟨0, ⟨rfl, rfl⟩, by decide⟩
theorem t44_28 : xtc zt44 4 28 31 (.invokevirtual 186) 186 1 5 2 := ⟨rfl, rfl, rfl⟩
theorem t44_31 : xt zt44 31 32 (.aload_n 0) := ⟨rfl, rfl⟩
theorem t44_32 : xt zt44 32 33 .dup := ⟨rfl, rfl⟩
theorem t44_33 : xtf zt44 4 33 36 (.getfield 24) 24 4 2 1 := ⟨rfl, rfl, rfl, rfl⟩
theorem t44_36 : xtk zt44 36 37 (1) := Or.inl ⟨1, ⟨rfl, rfl⟩, by decide⟩
theorem t44_37 : xt zt44 37 38 .isub := ⟨rfl, rfl⟩
theorem t44_38 : xtf zt44 4 38 41 (.putfield 24) 24 4 2 1 := ⟨rfl, rfl, rfl, rfl⟩
theorem t44_41 : xt zt44 41 44 (.iinc 3 1) := ⟨rfl, rfl⟩
theorem t44_44 : xtb zt44 44 47 2 (.goto (-42)) (-42) := ⟨rfl, rfl, rfl⟩
theorem t44_47 : xt zt44 47 48 .return_ := ⟨rfl, rfl⟩
theorem t45_0 : xt zt45 0 1 (.iload_n 0) := ⟨rfl, rfl⟩
theorem t45_1 : xtk zt45 1 3 (44) := Or.inr (Or.inl ⟨44, ⟨rfl, rfl⟩, by decide⟩)
theorem t45_3 : xtb zt45 3 6 8 (.if_icmp .ne 5) (5) := ⟨rfl, rfl, rfl⟩
theorem t45_6 : xtk zt45 6 7 (1) := Or.inl ⟨1, ⟨rfl, rfl⟩, by decide⟩
theorem t45_7 : xt zt45 7 8 .ireturn := ⟨rfl, rfl⟩
theorem t45_8 : xt zt45 8 9 (.iload_n 0) := ⟨rfl, rfl⟩
theorem t45_9 : xtk zt45 9 11 (45) := Or.inr (Or.inl ⟨45, ⟨rfl, rfl⟩, by decide⟩)
theorem t45_11 : xtb zt45 11 14 16 (.if_icmp .ne 5) (5) := ⟨rfl, rfl, rfl⟩
theorem t45_14 : xtk zt45 14 15 (2) := Or.inl ⟨2, ⟨rfl, rfl⟩, by decide⟩
theorem t45_15 : xt zt45 15 16 .ireturn := ⟨rfl, rfl⟩
theorem t45_16 : xt zt45 16 17 (.iload_n 0) := ⟨rfl, rfl⟩
theorem t45_17 : xtk zt45 17 19 (46) := Or.inr (Or.inl ⟨46, ⟨rfl, rfl⟩, by decide⟩)
theorem t45_19 : xtb zt45 19 22 24 (.if_icmp .ne 5) (5) := ⟨rfl, rfl, rfl⟩
theorem t45_22 : xtk zt45 22 23 (3) := Or.inl ⟨3, ⟨rfl, rfl⟩, by decide⟩
theorem t45_23 : xt zt45 23 24 .ireturn := ⟨rfl, rfl⟩
theorem t45_24 : xt zt45 24 25 (.iload_n 0) := ⟨rfl, rfl⟩
theorem t45_25 : xtk zt45 25 27 (14) := Or.inr (Or.inl ⟨14, ⟨rfl, rfl⟩, by decide⟩)
theorem t45_27 : xtb zt45 27 30 38 (.if_icmp .lt 11) (11) := ⟨rfl, rfl, rfl⟩
theorem t45_30 : xt zt45 30 31 (.iload_n 0) := ⟨rfl, rfl⟩
theorem t45_31 : xtk zt45 31 33 (19) := Or.inr (Or.inl ⟨19, ⟨rfl, rfl⟩, by decide⟩)
theorem t45_33 : xtb zt45 33 36 38 (.if_icmp .gt 5) (5) := ⟨rfl, rfl, rfl⟩
theorem t45_36 : xtk zt45 36 37 (4) := Or.inl ⟨4, ⟨rfl, rfl⟩, by decide⟩
theorem t45_37 : xt zt45 37 38 .ireturn := ⟨rfl, rfl⟩
theorem t45_38 : xt zt45 38 39 (.iload_n 0) := ⟨rfl, rfl⟩
theorem t45_39 : xtk zt45 39 41 (10) := Or.inr (Or.inl ⟨10, ⟨rfl, rfl⟩, by decide⟩)
theorem t45_41 : xtb zt45 41 44 50 (.if_icmp .eq 9) (9) := ⟨rfl, rfl, rfl⟩
theorem t45_44 : xt zt45 44 45 (.iload_n 0) := ⟨rfl, rfl⟩
theorem t45_45 : xtk zt45 45 47 (11) := Or.inr (Or.inl ⟨11, ⟨rfl, rfl⟩, by decide⟩)
theorem t45_47 : xtb zt45 47 50 52 (.if_icmp .ne 5) (5) := ⟨rfl, rfl, rfl⟩
theorem t45_50 : xtk zt45 50 51 (5) := Or.inl ⟨5, ⟨rfl, rfl⟩, by decide⟩
theorem t45_51 : xt zt45 51 52 .ireturn := ⟨rfl, rfl⟩
theorem t45_52 : xt zt45 52 53 (.iload_n 0) := ⟨rfl, rfl⟩
theorem t45_53 : xtk zt45 53 55 (12) := Or.inr (Or.inl ⟨12, ⟨rfl, rfl⟩, by decide⟩)
theorem t45_55 : xtb zt45 55 58 64 (.if_icmp .eq 9) (9) := ⟨rfl, rfl, rfl⟩
theorem t45_58 : xt zt45 58 59 (.iload_n 0) := ⟨rfl, rfl⟩
theorem t45_59 : xtk zt45 59 61 (13) := Or.inr (Or.inl ⟨13, ⟨rfl, rfl⟩, by decide⟩)
theorem t45_61 : xtb zt45 61 64 69 (.if_icmp .ne 8) (8) := ⟨rfl, rfl, rfl⟩
theorem t45_64 : xtk zt45 64 66 (6) := Or.inr (Or.inl ⟨6, ⟨rfl, rfl⟩, by decide⟩)
theorem t45_66 : xtb zt45 66 69 70 (.goto 4) (4) := ⟨rfl, rfl, rfl⟩
theorem t45_69 : xtk zt45 69 70 (0) := Or.inl ⟨0, ⟨rfl, rfl⟩, by decide⟩
theorem t45_70 : xt zt45 70 71 .ireturn := ⟨rfl, rfl⟩
theorem t83_0 : xt zt83 0 1 (.iload_n 1) := ⟨rfl, rfl⟩
theorem t83_1 : xtb zt83 1 4 24 (.ifCond .lt 23) (23) := ⟨rfl, rfl, rfl⟩
theorem t83_4 : xt zt83 4 5 (.iload_n 1) := ⟨rfl, rfl⟩
theorem t83_5 : xt zt83 5 6 (.aload_n 0) := ⟨rfl, rfl⟩
theorem t83_6 : xtf zt83 7 6 9 (.getfield 21) 21 7 1 1 := ⟨rfl, rfl, rfl, rfl⟩
theorem t83_9 : xtb zt83 9 12 24 (.if_icmp .ge 15) (15) := ⟨rfl, rfl, rfl⟩
theorem t83_12 : xt zt83 12 13 (.iload_n 2) := ⟨rfl, rfl⟩
theorem t83_13 : xtb zt83 13 16 24 (.ifCond .lt 11) (11) := ⟨rfl, rfl, rfl⟩
theorem t83_16 : xt zt83 16 17 (.iload_n 2) := ⟨rfl, rfl⟩
theorem t83_17 : xt zt83 17 18 (.aload_n 0) := ⟨rfl, rfl⟩
theorem t83_18 : xtf zt83 7 18 21 (.getfield 24) 24 7 0 1 := ⟨rfl, rfl, rfl, rfl⟩
theorem t83_21 : xtb zt83 21 24 26 (.if_icmp .lt 5) (5) := ⟨rfl, rfl, rfl⟩
theorem t83_24 : xtk zt83 24 25 (0) := Or.inl ⟨0, ⟨rfl, rfl⟩, by decide⟩
theorem t83_25 : xt zt83 25 26 .ireturn := ⟨rfl, rfl⟩
theorem t83_26 : xt zt83 26 27 (.aload_n 0) := ⟨rfl, rfl⟩
theorem t83_27 : xtf zt83 7 27 30 (.getfield 27) 27 7 2 3 := ⟨rfl, rfl, rfl, rfl⟩
theorem t83_30 : xt zt83 30 31 (.iload_n 1) := ⟨rfl, rfl⟩
theorem t83_31 : xt zt83 31 32 (.aload_n 0) := ⟨rfl, rfl⟩
theorem t83_32 : xtf zt83 7 32 35 (.getfield 24) 24 7 0 1 := ⟨rfl, rfl, rfl, rfl⟩
theorem t83_35 : xt zt83 35 36 .imul := ⟨rfl, rfl⟩
theorem t83_36 : xt zt83 36 37 (.iload_n 2) := ⟨rfl, rfl⟩
theorem t83_37 : xt zt83 37 38 .iadd := ⟨rfl, rfl⟩
theorem t83_38 : xt zt83 38 39 .iaload := ⟨rfl, rfl⟩
theorem t83_39 : xt zt83 39 40 .ireturn := ⟨rfl, rfl⟩
theorem t84_0 : xt zt84 0 1 (.aload_n 0) := ⟨rfl, rfl⟩
theorem t84_1 : xtf zt84 7 1 4 (.getfield 9) 9 7 3 1 := ⟨rfl, rfl, rfl, rfl⟩
theorem t84_4 : xt zt84 4 5 (.aload_n 0) := ⟨rfl, rfl⟩
theorem t84_5 : xtf zt84 7 5 8 (.getfield 21) 21 7 1 1 := ⟨rfl, rfl, rfl, rfl⟩
theorem t84_8 : xtb zt84 8 11 40 (.if_icmp .ge 32) (32) := ⟨rfl, rfl, rfl⟩
theorem t84_11 : xt zt84 11 12 (.iload_n 1) := ⟨rfl, rfl⟩
theorem t84_12 : xtb zt84 12 15 40 (.ifCond .lt 28) (28) := ⟨rfl, rfl, rfl⟩
theorem t84_15 : xt zt84 15 16 (.iload_n 1) := ⟨rfl, rfl⟩
theorem t84_16 : xt zt84 16 17 (.aload_n 0) := ⟨rfl, rfl⟩
theorem t84_17 : xtf zt84 7 17 20 (.getfield 24) 24 7 0 1 := ⟨rfl, rfl, rfl, rfl⟩
theorem t84_20 : xtb zt84 20 23 40 (.if_icmp .ge 20) (20) := ⟨rfl, rfl, rfl⟩
theorem t84_23 : xt zt84 23 24 (.aload_n 0) := ⟨rfl, rfl⟩
theorem t84_24 : xtf zt84 7 24 27 (.getfield 27) 27 7 2 3 := ⟨rfl, rfl, rfl, rfl⟩
theorem t84_27 : xt zt84 27 28 (.aload_n 0) := ⟨rfl, rfl⟩
theorem t84_28 : xtf zt84 7 28 31 (.getfield 9) 9 7 3 1 := ⟨rfl, rfl, rfl, rfl⟩
theorem t84_31 : xt zt84 31 32 (.aload_n 0) := ⟨rfl, rfl⟩
theorem t84_32 : xtf zt84 7 32 35 (.getfield 24) 24 7 0 1 := ⟨rfl, rfl, rfl, rfl⟩
theorem t84_35 : xt zt84 35 36 .imul := ⟨rfl, rfl⟩
theorem t84_36 : xt zt84 36 37 (.iload_n 1) := ⟨rfl, rfl⟩
theorem t84_37 : xt zt84 37 38 .iadd := ⟨rfl, rfl⟩
theorem t84_38 : xt zt84 38 39 (.iload_n 2) := ⟨rfl, rfl⟩
theorem t84_39 : xt zt84 39 40 .iastore := ⟨rfl, rfl⟩
theorem t84_40 : xt zt84 40 41 .return_ := ⟨rfl, rfl⟩
theorem t85_0 : xt zt85 0 1 (.aload_n 0) := ⟨rfl, rfl⟩
theorem t85_1 : xtf zt85 7 1 4 (.getfield 9) 9 7 3 1 := ⟨rfl, rfl, rfl, rfl⟩
theorem t85_4 : xt zt85 4 5 (.aload_n 0) := ⟨rfl, rfl⟩
theorem t85_5 : xtf zt85 7 5 8 (.getfield 21) 21 7 1 1 := ⟨rfl, rfl, rfl, rfl⟩
theorem t85_8 : xtb zt85 8 11 21 (.if_icmp .ge 13) (13) := ⟨rfl, rfl, rfl⟩
theorem t85_11 : xt zt85 11 12 (.aload_n 0) := ⟨rfl, rfl⟩
theorem t85_12 : xt zt85 12 13 .dup := ⟨rfl, rfl⟩
theorem t85_13 : xtf zt85 7 13 16 (.getfield 9) 9 7 3 1 := ⟨rfl, rfl, rfl, rfl⟩
theorem t85_16 : xtk zt85 16 17 (1) := Or.inl ⟨1, ⟨rfl, rfl⟩, by decide⟩
theorem t85_17 : xt zt85 17 18 .iadd := ⟨rfl, rfl⟩
theorem t85_18 : xtf zt85 7 18 21 (.putfield 9) 9 7 3 1 := ⟨rfl, rfl, rfl, rfl⟩
theorem t85_21 : xt zt85 21 22 .return_ := ⟨rfl, rfl⟩
theorem t86_0 : xt zt86 0 1 (.aload_n 0) := ⟨rfl, rfl⟩
theorem t86_1 : xtf zt86 7 1 4 (.getfield 9) 9 7 3 1 := ⟨rfl, rfl, rfl, rfl⟩
theorem t86_4 : xt zt86 4 5 (.aload_n 0) := ⟨rfl, rfl⟩
theorem t86_5 : xtf zt86 7 5 8 (.getfield 21) 21 7 1 1 := ⟨rfl, rfl, rfl, rfl⟩
theorem t86_8 : xtb zt86 8 11 15 (.if_icmp .lt 7) (7) := ⟨rfl, rfl, rfl⟩
theorem t86_11 : xtk zt86 11 12 (1) := Or.inl ⟨1, ⟨rfl, rfl⟩, by decide⟩
theorem t86_12 : xtb zt86 12 15 16 (.goto 4) (4) := ⟨rfl, rfl, rfl⟩
theorem t86_15 : xtk zt86 15 16 (0) := Or.inl ⟨0, ⟨rfl, rfl⟩, by decide⟩
theorem t86_16 : xt zt86 16 17 .ireturn := ⟨rfl, rfl⟩
theorem t87_0 : xtk zt87 0 1 (0) := Or.inl ⟨0, ⟨rfl, rfl⟩, by decide⟩
theorem t87_1 : xt zt87 1 2 (.istore_n 2) := ⟨rfl, rfl⟩
theorem t87_2 : xt zt87 2 3 (.iload_n 2) := ⟨rfl, rfl⟩
theorem t87_3 : xt zt87 3 4 (.aload_n 0) := ⟨rfl, rfl⟩
theorem t87_4 : xtf zt87 7 4 7 (.getfield 9) 9 7 3 1 := ⟨rfl, rfl, rfl, rfl⟩
theorem t87_7 : xtb zt87 7 10 28 (.if_icmp .ge 21) (21) := ⟨rfl, rfl, rfl⟩
theorem t87_10 : xt zt87 10 11 (.aload_n 0) := ⟨rfl, rfl⟩
theorem t87_11 : xt zt87 11 12 (.iload_n 2) := ⟨rfl, rfl⟩
theorem t87_12 : xtk zt87 12 13 (0) := Or.inl ⟨0, ⟨rfl, rfl⟩, by decide⟩
theorem t87_13 : xtc zt87 7 13 16 (.invokevirtual 31) 31 1 83 2 := ⟨rfl, rfl, rfl⟩
theorem t87_16 : xt zt87 16 17 (.iload_n 1) := ⟨rfl, rfl⟩
theorem t87_17 : xtb zt87 17 20 22 (.if_icmp .ne 5) (5) := ⟨rfl, rfl, rfl⟩
theorem t87_20 : xt zt87 20 21 (.iload_n 2) := ⟨rfl, rfl⟩
theorem t87_21 : xt zt87 21 22 .ireturn := ⟨rfl, rfl⟩
theorem t87_22 : xt zt87 22 25 (.iinc 2 1) := ⟨rfl, rfl⟩
theorem t87_25 : xtb zt87 25 28 2 (.goto (-23)) (-23) := ⟨rfl, rfl, rfl⟩
theorem t87_28 : xtk zt87 28 29 (-1) := Or.inl ⟨-1, ⟨rfl, rfl⟩, by decide⟩
theorem t87_29 : xt zt87 29 30 .ireturn := ⟨rfl, rfl⟩
end
section
/-! Ends with a fact of the memory; the stream of tokens; rows of tables. -/
section XI
variable {nf : Bool} {xs : List Int32} {d c : Nat} {ini : Bool} {nL : Nat} {rt : Option FieldType} {tab : Nat → Option (Instr × Nat)} {G : xG} {r : Option Value} {h' : zH} {pc pc' len q : Nat} {ls ls' : zL} {st : List Value} {m m1 : xM} {g g1 : xL} {N : Nat} {off : Int} {x y : Int32}
/-- an end: the answer, and what the memory is then -/
def PF (v : Option Value) (g : xL) (Q : xM → Prop) : Option Value → xM → xL → Prop := fun r m' g' => r = v ∧ g' = g ∧ Q m'
theorem RR.fvI {j mi n b : Nat} {vs rest : List Value} {v : Value} {Q : xM → Prop} (hr : RR nf xs d c ini nL rt tab G r h' N (pc, ls, st, m, g)) (t : xtc tab c pc pc' (.invokevirtual j) j 1 mi n) (e1 : st.drop n = .ref b :: rest) (e2 : (st.take n).reverse = vs) (hc : CT nf xs d mi (.ref b :: vs) m g G (PF (some v) g Q)) : ∃ m1 : xM, Q m1 ∧ RR nf xs d c ini nL rt tab G r h' N (pc', ls, v :: rest, m1, g) := by
  obtain ⟨_, m1, _, ⟨rfl, rfl, q1⟩, q⟩ := hr.callv t e1 e2 hc
  exact ⟨m1, q1, q⟩
theorem RR.fvN {j mi n b : Nat} {vs rest : List Value} {Q : xM → Prop} (hr : RR nf xs d c ini nL rt tab G r h' N (pc, ls, st, m, g)) (t : xtc tab c pc pc' (.invokevirtual j) j 1 mi n) (e1 : st.drop n = .ref b :: rest) (e2 : (st.take n).reverse = vs) (hc : CT nf xs d mi (.ref b :: vs) m g G (PF none g Q)) : ∃ m1 : xM, Q m1 ∧ RR nf xs d c ini nL rt tab G r h' N (pc', ls, rest, m1, g) := by
  obtain ⟨_, m1, _, ⟨rfl, rfl, q1⟩, q⟩ := hr.callv t e1 e2 hc
  exact ⟨m1, q1, q⟩
theorem RR.fsI {j mi n : Nat} {vs rest : List Value} {v : Value} {Q : xM → Prop} (hr : RR nf xs d c ini nL rt tab G r h' N (pc, ls, st, m, g)) (t : xtc tab c pc pc' (.invokestatic j) j 2 mi n) (e1 : st.drop n = rest) (e2 : (st.take n).reverse = vs) (hc : CT nf xs d mi vs m g G (PF (some v) g Q)) : ∃ m1 : xM, Q m1 ∧ RR nf xs d c ini nL rt tab G r h' N (pc', ls, v :: rest, m1, g) := by
  obtain ⟨_, m1, _, ⟨rfl, rfl, q1⟩, q⟩ := hr.calls t e1 e2 hc
  exact ⟨m1, q1, q⟩
theorem RR.fsN {j mi n : Nat} {vs rest : List Value} {Q : xM → Prop} (hr : RR nf xs d c ini nL rt tab G r h' N (pc, ls, st, m, g)) (t : xtc tab c pc pc' (.invokestatic j) j 2 mi n) (e1 : st.drop n = rest) (e2 : (st.take n).reverse = vs) (hc : CT nf xs d mi vs m g G (PF none g Q)) : ∃ m1 : xM, Q m1 ∧ RR nf xs d c ini nL rt tab G r h' N (pc', ls, rest, m1, g) := by
  obtain ⟨_, m1, _, ⟨rfl, rfl, q1⟩, q⟩ := hr.calls t e1 e2 hc
  exact ⟨m1, q1, q⟩
end XI
theorem xn_mul {a b : Nat} : Int32.ofNat a * Int32.ofNat b = Int32.ofNat (a * b) := (Int32.ofNat_mul a b).symm
theorem xn_ix {r cols k : Nat} (h : r * cols + k < 2147483648) : (Int32.ofNat r * Int32.ofNat cols + Int32.ofNat k).toNatClampNeg = r * cols + k := by
  rw [xn_mul, xn_add, xn_nat h]
/-! The stream of tokens. -/
abbrev eB : Type := (Nat → Int32) × (Nat → Int32) × Nat
/-- the bytes, the words, how many bytes -/
def EV (B : eB) : Prop := B.2.2 ≤ 700 ∧ WD B.2.1 ∧ (∀ i : Nat, i < B.2.2 → 0 ≤ (B.1 i).toInt) ∧ ∀ i : Nat, i < B.2.2 → (B.1 i).toInt < 256
/-- where token i may begin -/
def tps (B : eB) : Nat → Nat
  | 0 => 0
  | i + 1 => (tokC B.1 B.2.1 B.2.2 (tps B i)).2.2.2
def tkn (B : eB) (i : Nat) : Int32 × Int32 × Nat × Nat := tokC B.1 B.2.1 B.2.2 (tps B i)
def tK (B : eB) (i : Nat) : Int32 := (tkn B i).1
def tV (B : eB) (i : Nat) : Int32 := (tkn B i).2.1
def tP (B : eB) (i : Nat) : Nat := (tkn B i).2.2.1
theorem tps_le {B : eB} (hE : EV B) : ∀ i : Nat, tps B i ≤ B.2.2
  | 0 => Nat.zero_le _
  | i + 1 => (tok_same (old := 0) hE.1 (tps_le hE i) hE.2.1).2.2.2.2.1
theorem tk_go {B : eB} (hE : EV B) {i : Nat} (h : ¬ tK B i = 0) : tps B i < tps B (i + 1) := by
  have h1 := tok_same (b := B.1) (wd := B.2.1) (n := B.2.2) (p := tps B i) (old := 0) hE.1 (tps_le hE i) hE.2.1
  have := h1.2.2.2.2.2 h
  have h2 := h1.2.2.1
  show tps B i < (tokC B.1 B.2.1 B.2.2 (tps B i)).2.2.2
  omega
theorem tP_le {B : eB} (hE : EV B) (i : Nat) : tP B i ≤ 700 := by
  have h1 := tok_same (b := B.1) (wd := B.2.1) (n := B.2.2) (p := tps B i) (old := 0) hE.1 (tps_le hE i) hE.2.1
  have h2 : tP B i ≤ (tokC B.1 B.2.1 B.2.2 (tps B i)).2.2.2 := h1.2.2.2.1
  have := h1.2.2.2.2.1
  have := hE.1
  omega
/-- the class's scanner at token i -/
def sC (B : eB) (i : Nat) (m : xM) : Prop := m 1 = B.1 ∧ m 4 = B.2.1 ∧ m 3 2 = Int32.ofNat B.2.2 ∧ m 3 3 = Int32.ofNat (tps B (i + 1)) ∧ m 3 4 = tK B i ∧ m 3 5 = tV B i ∧ m 3 6 = Int32.ofNat (tP B i)
theorem sC_row {B : eB} {i : Nat} {m m' : xM} (h : sC B i m) (h1 : m' 1 = m 1) (h4 : m' 4 = m 4) (h3 : m' 3 = m 3) : sC B i m' := by
  unfold sC
  rw [h1, h4, h3]
  exact h
theorem ct_advS {nf : Bool} {xs : List Int32} {d : Nat} {m : xM} {g : xL} {G : xG} {B : eB} {i : Nat} (hG : GS G) (hE : EV B) (hs : sC B i m) : CT nf xs d 77 [.ref 3] m g G (PF none g (fun m' => sC B (i + 1) m' ∧ ∀ a : Nat, ¬ a = 3 → m' a = m a)) := by
  refine (ct_adv (b := B.1) (wd := B.2.1) (n := B.2.2) (p := tps B (i + 1)) hG hE.1 hE.2.2.1 hs.1 hs.2.2.2.1 hs.2.2.1 hs.2.1 (tps_le hE _)).mono (fun r m' g' h => ?_)
  obtain ⟨rfl, rfl, rfl⟩ := h
  have hr : ∀ a : Nat, ¬ a = 3 → tkM m (tokC B.1 B.2.1 B.2.2 (tps B (i + 1))) a = m a := fun a ha => by
    unfold tkM
    rw [xu_row ha, xu_row ha, xu_row ha, xu_row ha]
  refine ⟨rfl, rfl, ⟨?_, ?_, ?_, ?_, ?_, ?_, ?_⟩, hr⟩
  · rw [hr 1 (by decide)]; exact hs.1
  · rw [hr 4 (by decide)]; exact hs.2.1
  · unfold tkM
    rw [xu_oth (by decide), xu_oth (by decide), xu_oth (by decide), xu_oth (by decide)]
    exact hs.2.2.1
  · unfold tkM
    rw [xu_same]
    rfl
  · unfold tkM
    rw [xu_oth (by decide), xu_same]
    rfl
  · unfold tkM
    rw [xu_oth (by decide), xu_oth (by decide), xu_same]
    rfl
  · unfold tkM
    rw [xu_oth (by decide), xu_oth (by decide), xu_oth (by decide), xu_same]
    rfl
/-! Tables. -/
/-- a table: its cells, columns, most rows; the rows that stand -/
def tbC (t c cols most : Nat) (rows : List (List Int32)) (m : xM) : Prop := m t 0 = Int32.ofNat cols ∧ m t 1 = Int32.ofNat most ∧ m t 3 = Int32.ofNat rows.length ∧ rows.length ≤ most ∧ ∀ r : Nat, r < rows.length → ∀ k : Nat, k < cols → m c (r * cols + k) = (rows.getD r []).getD k 0
theorem tbC_row {t c cols most : Nat} {rows : List (List Int32)} {m m' : xM} (h : tbC t c cols most rows m) (h1 : m' t = m t) (h2 : m' c = m c) : tbC t c cols most rows m' := by
  unfold tbC
  rw [h1, h2]
  exact h
/-- the first row that begins so -/
def fnd (v : Int32) : List (List Int32) → Nat → Option Nat
  | [], _ => none
  | r :: rs, i => if r.getD 0 0 = v then some i else fnd v rs (i + 1)
def oI (o : Option Nat) : Int32 := match o with
  | some i => Int32.ofNat i
  | none => -1
theorem mul_b {r cols k most : Nat} (h1 : r < most) (h2 : k < cols) (h3 : most ≤ 8) (h4 : cols ≤ 5) : r * cols + k < 2147483648 := by
  have := Nat.mul_le_mul (show r ≤ 8 by omega) h4
  omega
end
section
/-! The class Table: what its methods do. -/
theorem ct_at {nf : Bool} {xs : List Int32} {d : Nat} {m : xM} {g : xL} {G : xG} {t c cols most ro k len : Nat} (hc : G.1 t 2 = some c) (hl : G.2 c = (0, 1, len)) (h0 : m t 0 = Int32.ofNat cols) (h1 : m t 1 = Int32.ofNat most) (h8 : most ≤ 8) (h5 : cols ≤ 5) (hr1 : ro < most) (hk1 : k < cols) : CT nf xs d 83 [.ref t, .int (Int32.ofNat ro), .int (Int32.ofNat k)] m g G (PE (some (.int (m c (ro * cols + k)))) m g) := by
  refine CT.of (c := 7) (ini := false) (nL := 3) (rt := some .int) (tab := zt83) rfl (fun d' r h' N hd hr => ?_)
  replace hr : RR nf xs d' 7 false 3 (some .int) zt83 G r h' N (0, [(0, .ref t), (1, .int (Int32.ofNat ro)), (2, .int (Int32.ofNat k))], [], m, g) := hr
  have q0 : (Int32.ofNat cols).toInt = (cols : Int) := xn_int (by omega)
  have q1 : (Int32.ofNat most).toInt = (most : Int) := xn_int (by omega)
  have q2 : (Int32.ofNat ro).toInt = (ro : Int) := xn_int (by omega)
  have q3 : (Int32.ofNat k).toInt = (k : Int) := xn_int (by omega)
  replace hr := hr.go (s_iload_n t83_0 rfl)
  rcases hr.zLt t83_1 with ⟨c1, hr⟩ | ⟨c1, hr⟩
  · replace hr := hr.go (s_k t83_24)
    obtain ⟨rfl, hs⟩ := hr.iret t83_25
    exact (by omega : False).elim
  · replace hr := hr.go (s_iload_n t83_4 rfl)
    replace hr := hr.go (s_aload_n t83_5 rfl)
    replace hr := hr.go (s_getf t83_6)
    rw [h1] at hr
    rcases hr.bGe t83_9 with ⟨c2, hr⟩ | ⟨c2, hr⟩
    · replace hr := hr.go (s_k t83_24)
      obtain ⟨rfl, hs⟩ := hr.iret t83_25
      exact (by omega : False).elim
    · replace hr := hr.go (s_iload_n t83_12 rfl)
      rcases hr.zLt t83_13 with ⟨c3, hr⟩ | ⟨c3, hr⟩
      · replace hr := hr.go (s_k t83_24)
        obtain ⟨rfl, hs⟩ := hr.iret t83_25
        exact (by omega : False).elim
      · replace hr := hr.go (s_iload_n t83_16 rfl)
        replace hr := hr.go (s_aload_n t83_17 rfl)
        replace hr := hr.go (s_getf t83_18)
        rw [h0] at hr
        rcases hr.bLt t83_21 with ⟨c4, hr⟩ | ⟨c4, hr⟩
        · replace hr := hr.go (s_aload_n t83_26 rfl)
          replace hr := hr.go (s_getr t83_27 (hc))
          replace hr := hr.go (s_iload_n t83_30 rfl)
          replace hr := hr.go (s_aload_n t83_31 rfl)
          replace hr := hr.go (s_getf t83_32)
          replace hr := hr.go (s_imul t83_35)
          replace hr := hr.go (s_iload_n t83_36 rfl)
          replace hr := hr.go (s_iadd t83_37)
          replace hr := hr.go (s_iaload t83_38 (hl))
          obtain ⟨rfl, hs⟩ := hr.iret t83_39
          exact ⟨_, _, hs, by rw [h0, xn_ix (mul_b hr1 hk1 h8 h5)], rfl, rfl⟩
        · replace hr := hr.go (s_k t83_24)
          obtain ⟨rfl, hs⟩ := hr.iret t83_25
          exact (by omega : False).elim

theorem ct_put {nf : Bool} {xs : List Int32} {d : Nat} {m : xM} {g : xL} {G : xG} {t c cols most ro k : Nat} {v : Int32} (hc : G.1 t 2 = some c) (h0 : m t 0 = Int32.ofNat cols) (h1 : m t 1 = Int32.ofNat most) (h3 : m t 3 = Int32.ofNat ro) (h8 : most ≤ 8) (h5 : cols ≤ 5) (hr1 : ro < most) (hk1 : k < cols) : CT nf xs d 84 [.ref t, .int (Int32.ofNat k), .int v] m g G (PE none (xu m c (ro * cols + k) v) g) := by
  refine CT.of (c := 7) (ini := false) (nL := 3) (rt := none) (tab := zt84) rfl (fun d' r h' N hd hr => ?_)
  replace hr : RR nf xs d' 7 false 3 (none) zt84 G r h' N (0, [(0, .ref t), (1, .int (Int32.ofNat k)), (2, .int v)], [], m, g) := hr
  have q0 : (Int32.ofNat cols).toInt = (cols : Int) := xn_int (by omega)
  have q1 : (Int32.ofNat most).toInt = (most : Int) := xn_int (by omega)
  have q2 : (Int32.ofNat ro).toInt = (ro : Int) := xn_int (by omega)
  have q3 : (Int32.ofNat k).toInt = (k : Int) := xn_int (by omega)
  replace hr := hr.go (s_aload_n t84_0 rfl)
  replace hr := hr.go (s_getf t84_1)
  replace hr := hr.go (s_aload_n t84_4 rfl)
  replace hr := hr.go (s_getf t84_5)
  rw [h3, h1] at hr
  rcases hr.bGe t84_8 with ⟨c1, hr⟩ | ⟨c1, hr⟩
  · obtain ⟨rfl, hs⟩ := hr.ret t84_40
    exact (by omega : False).elim
  · replace hr := hr.go (s_iload_n t84_11 rfl)
    rcases hr.zLt t84_12 with ⟨c2, hr⟩ | ⟨c2, hr⟩
    · obtain ⟨rfl, hs⟩ := hr.ret t84_40
      exact (by omega : False).elim
    · replace hr := hr.go (s_iload_n t84_15 rfl)
      replace hr := hr.go (s_aload_n t84_16 rfl)
      replace hr := hr.go (s_getf t84_17)
      rw [h0] at hr
      rcases hr.bGe t84_20 with ⟨c3, hr⟩ | ⟨c3, hr⟩
      · obtain ⟨rfl, hs⟩ := hr.ret t84_40
        exact (by omega : False).elim
      · replace hr := hr.go (s_aload_n t84_23 rfl)
        replace hr := hr.go (s_getr t84_24 (hc))
        replace hr := hr.go (s_aload_n t84_27 rfl)
        replace hr := hr.go (s_getf t84_28)
        replace hr := hr.go (s_aload_n t84_31 rfl)
        replace hr := hr.go (s_getf t84_32)
        replace hr := hr.go (s_imul t84_35)
        replace hr := hr.go (s_iload_n t84_36 rfl)
        replace hr := hr.go (s_iadd t84_37)
        replace hr := hr.go (s_iload_n t84_38 rfl)
        replace hr := hr.go (s_iastore t84_39)
        obtain ⟨rfl, hs⟩ := hr.ret t84_40
        exact ⟨_, _, hs, rfl, by rw [h3, h0, xn_ix (mul_b hr1 hk1 h8 h5)], rfl⟩

theorem ct_endRow {nf : Bool} {xs : List Int32} {d : Nat} {m : xM} {g : xL} {G : xG} {t most ro : Nat} (h1 : m t 1 = Int32.ofNat most) (h3 : m t 3 = Int32.ofNat ro) (h8 : most ≤ 8) (hr1 : ro < most) : CT nf xs d 85 [.ref t] m g G (PE none (xu m t 3 (Int32.ofNat (ro + 1))) g) := by
  refine CT.of (c := 7) (ini := false) (nL := 1) (rt := none) (tab := zt85) rfl (fun d' r h' N hd hr => ?_)
  replace hr : RR nf xs d' 7 false 1 (none) zt85 G r h' N (0, [(0, .ref t)], [], m, g) := hr
  have k1 : (1 : Int32).toInt = 1 := rfl
  have q1 : (Int32.ofNat most).toInt = (most : Int) := xn_int (by omega)
  have q2 : (Int32.ofNat ro).toInt = (ro : Int) := xn_int (by omega)
  replace hr := hr.go (s_aload_n t85_0 rfl)
  replace hr := hr.go (s_getf t85_1)
  replace hr := hr.go (s_aload_n t85_4 rfl)
  replace hr := hr.go (s_getf t85_5)
  rw [h3, h1] at hr
  rcases hr.bGe t85_8 with ⟨c1, hr⟩ | ⟨c1, hr⟩
  · obtain ⟨rfl, hs⟩ := hr.ret t85_21
    exact (by omega : False).elim
  · replace hr := hr.go (s_aload_n t85_11 rfl)
    replace hr := hr.go (s_dup t85_12 rfl)
    replace hr := hr.go (s_getf t85_13)
    replace hr := hr.go (s_k t85_16)
    replace hr := hr.go (s_iadd t85_17)
    replace hr := hr.go (s_putf t85_18)
    obtain ⟨rfl, hs⟩ := hr.ret t85_21
    exact ⟨_, _, hs, rfl, by rw [h3, xn_1], rfl⟩

theorem ct_isFull {nf : Bool} {xs : List Int32} {d : Nat} {m : xM} {g : xL} {G : xG} {t most ro : Nat} (h1 : m t 1 = Int32.ofNat most) (h3 : m t 3 = Int32.ofNat ro) (h8 : most ≤ 8) (hr1 : ro ≤ most) : CT nf xs d 86 [.ref t] m g G (PE (some (.int (bI (decide (most ≤ ro))))) m g) := by
  refine CT.of (c := 7) (ini := false) (nL := 1) (rt := some .boolean) (tab := zt86) rfl (fun d' r h' N hd hr => ?_)
  replace hr : RR nf xs d' 7 false 1 (some .boolean) zt86 G r h' N (0, [(0, .ref t)], [], m, g) := hr
  have k1 : (1 : Int32).toInt = 1 := rfl
  have q1 : (Int32.ofNat most).toInt = (most : Int) := xn_int (by omega)
  have q2 : (Int32.ofNat ro).toInt = (ro : Int) := xn_int (by omega)
  replace hr := hr.go (s_aload_n t86_0 rfl)
  replace hr := hr.go (s_getf t86_1)
  replace hr := hr.go (s_aload_n t86_4 rfl)
  replace hr := hr.go (s_getf t86_5)
  rw [h3, h1] at hr
  rcases hr.bLt t86_8 with ⟨c1, hr⟩ | ⟨c1, hr⟩
  · replace hr := hr.go (s_k t86_15)
    obtain ⟨rfl, hs⟩ := hr.iret t86_16
    exact ⟨_, _, hs, by rw [decide_eq_false (by omega : ¬ most ≤ ro)]; rfl, rfl, rfl⟩
  · replace hr := hr.go (s_k t86_11)
    replace hr := hr.go (s_goto t86_12)
    obtain ⟨rfl, hs⟩ := hr.iret t86_16
    exact ⟨_, _, hs, by rw [decide_eq_true (by omega : most ≤ ro)]; rfl, rfl, rfl⟩

theorem lp87 {nf : Bool} {xs : List Int32} {d : Nat} {g : xL} {G : xG} {r : Option Value} {h' : zH} {m : xM} {t c cols most len : Nat} {v : Int32} {rows : List (List Int32)} (hc : G.1 t 2 = some c) (hl : G.2 c = (0, 1, len)) (ht : tbC t c cols most rows m) (h8 : most ≤ 8) (h5 : cols ≤ 5) (h50 : 0 < cols) : ∀ (N i : Nat), i ≤ rows.length → RR nf xs d 7 false 3 (some .int) zt87 G r h' N (2, [(2, .int (Int32.ofNat i)), (0, .ref t), (1, .int v)], [], m, g) → ∃ (m' : xM) (g' : xL), HS h' m' g' G ∧ PE (some (.int (oI (fnd v (rows.drop i) i)))) m g r m' g' := by
  have k1 : (1 : Int32).toInt = 1 := rfl
  have hb := ht.2.2.2.1
  have q2 : (Int32.ofNat rows.length).toInt = (rows.length : Int) := xn_int (by omega)
  intro N
  induction N with
  | zero => intro i _ hr; exact hr.no.elim
  | succ N ih =>
    intro i hle hr
    have q1 : (Int32.ofNat i).toInt = (i : Int) := xn_int (by omega)
    replace hr := hr.go1 (s_iload_n t87_2 rfl)
    replace hr := hr.go (s_aload_n t87_3 rfl)
    replace hr := hr.go (s_getf t87_4)
    rw [ht.2.2.1] at hr
    rcases hr.bGe t87_7 with ⟨c1, hr⟩ | ⟨c1, hr⟩
    · replace hr := hr.go (s_k t87_28)
      obtain ⟨rfl, hs⟩ := hr.iret t87_29
      have hd : rows.drop i = [] := List.drop_eq_nil_of_le (by omega)
      rw [hd]
      exact ⟨_, _, hs, rfl, rfl, rfl⟩
    · have hi : i < rows.length := by omega
      have hd : rows.drop i = rows.getD i [] :: rows.drop (i + 1) := by
        rw [List.getD_eq_getElem?_getD, List.getElem?_eq_getElem hi]
        exact List.drop_eq_getElem_cons hi
      replace hr := hr.go (s_aload_n t87_10 rfl)
      replace hr := hr.go (s_iload_n t87_11 rfl)
      replace hr := hr.go (s_k t87_12)
      replace hr := hr.cvI t87_13 rfl rfl (ct_at hc hl ht.1 ht.2.1 h8 h5 (show i < most by have := ht.2.2.2.1; omega) (k := 0) h50)
      have e0 : m c (i * cols + 0) = (rows.getD i []).getD 0 0 := ht.2.2.2.2 i hi 0 h50
      rw [e0] at hr
      replace hr := hr.go (s_iload_n t87_16 rfl)
      rcases hr.bNe t87_17 with ⟨c2, hr⟩ | ⟨c2, hr⟩
      · replace hr := hr.go (s_iinc (ls' := [(2, _), (0, _), (1, _)]) t87_22 rfl rfl)
        replace hr := hr.go (s_goto t87_25)
        rw [hd]
        replace hr := hr.to rfl
        obtain ⟨m1, g1, w1, w2, w3⟩ := ih (i + 1) (by omega) (by rw [← xn_1i]; exact hr)
        refine ⟨m1, g1, w1, ?_, w3⟩
        rw [w2]
        show some (Value.int (oI (fnd v (rows.drop (i + 1)) (i + 1)))) = some (Value.int (oI (if (rows.getD i []).getD 0 0 = v then some i else fnd v (rows.drop (i + 1)) (i + 1))))
        rw [if_neg c2]
      · replace hr := hr.go (s_iload_n t87_20 rfl)
        obtain ⟨rfl, hs⟩ := hr.iret t87_21
        rw [hd]
        refine ⟨_, _, hs, ?_, rfl, rfl⟩
        show some (Value.int (Int32.ofNat i)) = some (Value.int (oI (if (rows.getD i []).getD 0 0 = v then some i else fnd v (rows.drop (i + 1)) (i + 1))))
        rw [if_pos c2]
        rfl
theorem ct_find {nf : Bool} {xs : List Int32} {d : Nat} {m : xM} {g : xL} {G : xG} {t c cols most len : Nat} {v : Int32} {rows : List (List Int32)} (hc : G.1 t 2 = some c) (hl : G.2 c = (0, 1, len)) (ht : tbC t c cols most rows m) (h8 : most ≤ 8) (h5 : cols ≤ 5) (h50 : 0 < cols) : CT nf xs d 87 [.ref t, .int v] m g G (PE (some (.int (oI (fnd v rows 0)))) m g) := by
  refine CT.of (c := 7) (ini := false) (nL := 3) (rt := some .int) (tab := zt87) rfl (fun d' r h' N hd hr => ?_)
  replace hr : RR nf xs d' 7 false 3 (some .int) zt87 G r h' N (0, [(0, .ref t), (1, .int v)], [], m, g) := hr
  replace hr := hr.go (s_k t87_0)
  replace hr := hr.go (s_istore_n (ls' := [(2, _), (0, _), (1, _)]) t87_1 rfl)
  exact lp87 hc hl ht h8 h5 h50 N 0 (Nat.zero_le _) hr
end
section
/-! What a line of a text tells, as functions of the tokens; small methods of the class Reader. -/
def cN (w : Nat) : Nat := [1, 5, 3, 2, 2, 2, 1, 1].getD w 1
def mN (w : Nat) : Nat := [1, 6, 6, 8, 5, 3, 1, 1].getD w 1
theorem cN_b : ∀ w : Nat, cN w ≤ 5 ∧ 1 ≤ cN w := by
  intro w
  rcases w with _ | _ | _ | _ | _ | _ | _ | _ | w
  all_goals first | decide | exact ⟨(by decide : 1 ≤ 5), (by decide : 1 ≤ 1)⟩
theorem mN_b : ∀ w : Nat, mN w ≤ 8 ∧ 1 ≤ mN w := by
  intro w
  rcases w with _ | _ | _ | _ | _ | _ | _ | _ | w
  all_goals first | decide | exact ⟨(by decide : 1 ≤ 8), (by decide : 1 ≤ 1)⟩
def mxV (w c : Nat) : Int32 := zmost.getD (w * 5 + c) 0
def lsV (w c : Nat) (row : List Int32) : Int32 := if w = 0 then 1 else if w = 5 ∧ c = 1 then row.getD 0 0 else 0
/-- this joke is told at this mile already -/
def tld (rows : List (List Int32)) (j v : Int32) : Bool := rows.any (fun r => decide (r.getD 0 0 = j) && decide (r.getD 1 0 = v))
/-- an end of the class's Reader: refused (fault, token), or what it tells -/
def OC {α : Type} (B : eB) (o : (Nat × Nat) ⊕ α) (g : xL) (Q : α → xM → Prop) : Option Value → xM → xL → Prop := fun r m' g' => g' = g ∧ match o with
  | .inl e => r = some (.int 0) ∧ m' 2 5 = Int32.ofNat e.1 ∧ m' 2 6 = Int32.ofNat (tP B e.2)
  | .inr v => r = some (.int 1) ∧ Q v m'
def endF (B : eB) (i : Nat) : (Nat × Nat) ⊕ Unit := if tK B i = 4 then .inr () else .inl (1, i)
def numF (B : eB) (w c : Nat) (row : List Int32) (rows : List (List Int32)) (i : Nat) : (Nat × Nat) ⊕ Int32 :=
  if ¬ tK B i = 2 then .inl (1, i) else if (tV B i).toInt < (lsV w c row).toInt ∨ (mxV w c).toInt < (tV B i).toInt then .inl (2, i) else if w = 3 ∧ tld rows (row.getD 0 0) (tV B i) = true then .inl (3, i) else .inr (tV B i)
/-- a name: into table w; js: the jokes -/
def namF (B : eB) (w : Nat) (rows js : List (List Int32)) (i : Nat) : (Nat × Nat) ⊕ Int32 :=
  if ¬ tK B i = 3 then .inl (1, i) else if w = 3 then (match fnd (tV B i) js 0 with
    | some j => .inr (Int32.ofNat j)
    | none => .inl (4, i)) else (match fnd (tV B i) rows 0 with
    | some _ => .inl (3, i)
    | none => .inr (tV B i))
/-- the cells of the class's Reader and of the plan at P -/
def GP (G : xG) (P : Nat) : Prop := GS G ∧ G.1 2 0 = some 3 ∧ G.1 2 1 = some 6 ∧ G.2 6 = (0, 1, 72) ∧ 7 ≤ P ∧ (∀ w : Nat, w < 8 → G.1 P w = some (P + 1 + 2 * w) ∧ G.1 (P + 1 + 2 * w) 2 = some (P + 2 + 2 * w) ∧ ∃ len : Nat, G.2 (P + 2 + 2 * w) = (0, 1, len)) ∧ G.1 P 8 = some (P + 17) ∧ G.1 (P + 17) 0 = some (P + 18) ∧ G.1 (P + 17) 1 = some (P + 19) ∧ G.1 (P + 17) 2 = some (P + 20) ∧ G.1 (P + 17) 3 = some (P + 21) ∧ G.2 (P + 21) = (0, 1, 3)
theorem xn_w {w : Nat} : Int32.ofNat (32 + w) - 32 = Int32.ofNat w := by
  have := xn_sub (s := 32) (e := 32 + w) (by omega)
  rw [show 32 + w - 32 = w by omega] at this
  exact this
theorem ct_refuse {nf : Bool} {xs : List Int32} {d : Nat} {m : xM} {g : xL} {G : xG} {x : Int32} (h0 : G.1 2 0 = some 3) : CT nf xs d 28 [.ref 2, .int x] m g G (PE (some (.int 0)) (xu (xu m 2 5 x) 2 6 (m 3 6)) g) := by
  refine CT.of (c := 4) (ini := false) (nL := 2) (rt := some .boolean) (tab := zt28) rfl (fun d' r h' N hd hr => ?_)
  replace hr : RR nf xs d' 4 false 2 (some .boolean) zt28 G r h' N (0, [(0, .ref 2), (1, .int x)], [], m, g) := hr
  replace hr := hr.go (s_aload_n t28_0 rfl)
  replace hr := hr.go (s_iload_n t28_1 rfl)
  replace hr := hr.go (s_putf t28_2)
  replace hr := hr.go (s_aload_n t28_5 rfl)
  replace hr := hr.go (s_aload_n t28_6 rfl)
  replace hr := hr.go (s_getr t28_7 (h0))
  replace hr := hr.go (s_getf t28_10)
  replace hr := hr.go (s_putf t28_13)
  replace hr := hr.go (s_k t28_16)
  obtain ⟨rfl, hs⟩ := hr.iret t28_17
  exact ⟨_, _, hs, rfl, by rw [xu_oth (show ¬ (3 = 2 ∧ 6 = 5) by decide)], rfl⟩

theorem ct_ref {nf : Bool} {xs : List Int32} {d : Nat} {m : xM} {g : xL} {G : xG} {α : Type} {B : eB} {i f : Nat} {Q : α → xM → Prop} (h0 : G.1 2 0 = some 3) (hs : sC B i m) : CT nf xs d 28 [.ref 2, .int (Int32.ofNat f)] m g G (OC B (.inl (f, i)) g Q) := by
  refine (ct_refuse h0).mono (fun r m' g' h => ?_)
  obtain ⟨rfl, rfl, rfl⟩ := h
  exact ⟨rfl, rfl, by rw [xu_oth (by decide), xu_same], by rw [xu_same]; exact hs.2.2.2.2.2.2⟩
theorem ct_readEnd {nf : Bool} {xs : List Int32} {d : Nat} {m : xM} {g : xL} {G : xG} {B : eB} {i P : Nat} (hG : GP G P) (hE : EV B) (hs0 : sC B i m) : CT nf xs d 30 [.ref 2] m g G (OC B (endF B i) g (fun _ m' => sC B (i + 1) m' ∧ ∀ a : Nat, ¬ a = 3 → m' a = m a)) := by
  refine CT.of (c := 4) (ini := false) (nL := 1) (rt := some .boolean) (tab := zt30) rfl (fun d' r h' N hd hr => ?_)
  replace hr : RR nf xs d' 4 false 1 (some .boolean) zt30 G r h' N (0, [(0, .ref 2)], [], m, g) := hr
  have k1 : (1 : Int32).toInt = 1 := rfl
  have k4 : (4 : Int32).toInt = 4 := rfl
  replace hr := hr.go (s_aload_n t30_0 rfl)
  replace hr := hr.go (s_getr t30_1 (hG.2.1))
  replace hr := hr.go (s_getf t30_4)
  replace hr := hr.go (s_k t30_7)
  rw [hs0.2.2.2.2.1] at hr
  rcases hr.bEq t30_8 with ⟨b8, hr⟩ | ⟨b8, hr⟩
  · replace hr := hr.go (s_aload_n t30_17 rfl)
    replace hr := hr.go (s_getr t30_18 (hG.2.1))
    obtain ⟨m2, ⟨hs2, hf_m2⟩, hr⟩ := hr.fvN t30_21 rfl rfl (ct_advS hG.1 hE hs0)
    replace hr := hr.go (s_k t30_24)
    obtain ⟨rfl, hs⟩ := hr.iret t30_25
    unfold endF
    rw [if_pos b8]
    exact ⟨_, _, hs, rfl, rfl, hs2, hf_m2⟩
  · replace hr := hr.go (s_aload_n t30_11 rfl)
    replace hr := hr.go (s_k t30_12)
    obtain ⟨_, m1, _, ⟨rfl, rfl, ho⟩, hr⟩ := hr.callv t30_13 rfl rfl (ct_ref (B := B) (i := i) (f := 1) (α := Unit) (Q := fun _ _ => True) hG.2.1 hs0)
    obtain ⟨rfl, hs⟩ := hr.iret t30_16
    unfold endF
    rw [if_neg b8]
    exact ⟨_, _, hs, rfl, rfl, ho⟩

theorem ct_table {nf : Bool} {xs : List Int32} {d : Nat} {m : xM} {g : xL} {G : xG} {P w : Nat} (hG : GP G P) (hw : w < 8) : CT nf xs d 22 [.ref P, .int (Int32.ofNat (32 + w))] m g G (PE (some (.ref (P + 1 + 2 * w))) m g) := by
  refine CT.of (c := 3) (ini := false) (nL := 2) (rt := some (.object "LaughLine$Table")) (tab := zt22) rfl (fun d' r h' N hd hr => ?_)
  replace hr : RR nf xs d' 3 false 2 (some (.object "LaughLine$Table")) zt22 G r h' N (0, [(0, .ref P), (1, .int (Int32.ofNat (32 + w)))], [], m, g) := hr
  replace hr := hr.go (s_iload_n t22_0 rfl)
  rcases (show w = 0 ∨ w = 1 ∨ w = 2 ∨ w = 3 ∨ w = 4 ∨ w = 5 ∨ w = 6 ∨ w = 7 by omega) with rfl | rfl | rfl | rfl | rfl | rfl | rfl | rfl
  · replace hr := hr.go (s_tswitch (q := 44) t22_1 (by decide) (by decide) rfl rfl)
    replace hr := hr.go (s_aload_n t22_44 rfl)
    replace hr := hr.go (s_getr t22_45 ((hG.2.2.2.2.2.1 0 (by decide)).1))
    obtain ⟨rfl, hs⟩ := hr.aret t22_48
    exact ⟨_, _, hs, rfl, rfl, rfl⟩
  · replace hr := hr.go (s_tswitch (q := 49) t22_1 (by decide) (by decide) rfl rfl)
    replace hr := hr.go (s_aload_n t22_49 rfl)
    replace hr := hr.go (s_getr t22_50 ((hG.2.2.2.2.2.1 1 (by decide)).1))
    obtain ⟨rfl, hs⟩ := hr.aret t22_53
    exact ⟨_, _, hs, rfl, rfl, rfl⟩
  · replace hr := hr.go (s_tswitch (q := 54) t22_1 (by decide) (by decide) rfl rfl)
    replace hr := hr.go (s_aload_n t22_54 rfl)
    replace hr := hr.go (s_getr t22_55 ((hG.2.2.2.2.2.1 2 (by decide)).1))
    obtain ⟨rfl, hs⟩ := hr.aret t22_58
    exact ⟨_, _, hs, rfl, rfl, rfl⟩
  · replace hr := hr.go (s_tswitch (q := 59) t22_1 (by decide) (by decide) rfl rfl)
    replace hr := hr.go (s_aload_n t22_59 rfl)
    replace hr := hr.go (s_getr t22_60 ((hG.2.2.2.2.2.1 3 (by decide)).1))
    obtain ⟨rfl, hs⟩ := hr.aret t22_63
    exact ⟨_, _, hs, rfl, rfl, rfl⟩
  · replace hr := hr.go (s_tswitch (q := 64) t22_1 (by decide) (by decide) rfl rfl)
    replace hr := hr.go (s_aload_n t22_64 rfl)
    replace hr := hr.go (s_getr t22_65 ((hG.2.2.2.2.2.1 4 (by decide)).1))
    obtain ⟨rfl, hs⟩ := hr.aret t22_68
    exact ⟨_, _, hs, rfl, rfl, rfl⟩
  · replace hr := hr.go (s_tswitch (q := 69) t22_1 (by decide) (by decide) rfl rfl)
    replace hr := hr.go (s_aload_n t22_69 rfl)
    replace hr := hr.go (s_getr t22_70 ((hG.2.2.2.2.2.1 5 (by decide)).1))
    obtain ⟨rfl, hs⟩ := hr.aret t22_73
    exact ⟨_, _, hs, rfl, rfl, rfl⟩
  · replace hr := hr.go (s_tswitch (q := 74) t22_1 (by decide) (by decide) rfl rfl)
    replace hr := hr.go (s_aload_n t22_74 rfl)
    replace hr := hr.go (s_getr t22_75 ((hG.2.2.2.2.2.1 6 (by decide)).1))
    obtain ⟨rfl, hs⟩ := hr.aret t22_78
    exact ⟨_, _, hs, rfl, rfl, rfl⟩
  · replace hr := hr.go (s_tswitchD (q := 79) t22_1 (by right; decide) rfl)
    replace hr := hr.go (s_aload_n t22_79 rfl)
    replace hr := hr.go (s_getr t22_80 ((hG.2.2.2.2.2.1 7 (by decide)).1))
    obtain ⟨rfl, hs⟩ := hr.aret t22_83
    exact ⟨_, _, hs, rfl, rfl, rfl⟩
theorem most_len : zmost.length = 40 := by decide +kernel
theorem ct_mostOf {nf : Bool} {xs : List Int32} {d : Nat} {m : xM} {g : xL} {G : xG} {w c : Nat} (hw : w < 8) (hc : c < 5) : CT nf xs d 34 [.int (Int32.ofNat (32 + w)), .int (Int32.ofNat c)] m g G (PE (some (.int (mxV w c))) m g) := by
  refine CT.of (c := 4) (ini := false) (nL := 3) (rt := some .int) (tab := zt34) rfl (fun d' r h' N hd hr => ?_)
  replace hr : RR nf xs d' 4 false 3 (some .int) zt34 G r h' N (0, [(0, .int (Int32.ofNat (32 + w))), (1, .int (Int32.ofNat c))], [], m, g) := hr
  have k5 : (5 : Int32).toInt = 5 := rfl
  have k32 : (32 : Int32).toInt = 32 := rfl
  replace hr := hr.go (s_iload_n t34_0 rfl)
  replace hr := hr.go (s_k t34_1)
  replace hr := hr.go (s_isub t34_3)
  replace hr := hr.go (s_k t34_4)
  replace hr := hr.go (s_imul t34_5)
  replace hr := hr.go (s_iload_n t34_6 rfl)
  replace hr := hr.go (s_iadd t34_7)
  replace hr := hr.go (s_istore_n (ls' := [(2, _), (0, _), (1, _)]) t34_8 rfl)
  have q1 : (((Int32.ofNat (32 + w) - 32) * 5) + Int32.ofNat c).toInt = ((w * 5 + c : Nat) : Int) := by rw [xn_w, show ((5 : Int32)) = Int32.ofNat 5 from rfl, xn_mul, xn_add, xn_int (by omega)]
  replace hr := hr.go (s_iload_n t34_9 rfl)
  rcases hr.zLt t34_10 with ⟨b10, hr⟩ | ⟨b10, hr⟩
  · replace hr := hr.go (s_k t34_29)
    obtain ⟨rfl, hs⟩ := hr.iret t34_30
    exact (by omega : False).elim
  · replace hr := hr.go (s_iload_n t34_13 rfl)
    replace hr := hr.go (s_getstatic t34_14 rfl)
    replace hr := hr.go (s_alenX t34_17 rfl)
    have q2 : (Int32.ofNat zmost.length).toInt = 40 := by rw [most_len]; rfl
    rcases hr.bGe t34_18 with ⟨b18, hr⟩ | ⟨b18, hr⟩
    · replace hr := hr.go (s_k t34_29)
      obtain ⟨rfl, hs⟩ := hr.iret t34_30
      exact (by omega : False).elim
    · replace hr := hr.go (s_getstatic t34_21 rfl)
      replace hr := hr.go (s_iload_n t34_24 rfl)
      replace hr := hr.go (s_ialoadX t34_25 rfl)
      replace hr := hr.go (s_goto t34_26)
      obtain ⟨rfl, hs⟩ := hr.iret t34_30
      exact ⟨_, _, hs, by rw [xn_w, show ((5 : Int32)) = Int32.ofNat 5 from rfl, xn_ix (by omega)]; rfl, rfl, rfl⟩

theorem xn_eq {a b : Nat} (ha : a < 2147483648) (hb : b < 2147483648) : Int32.ofNat a = Int32.ofNat b ↔ a = b := ⟨fun h => xn_inj ha hb h, fun h => by rw [h]⟩
theorem ct_least {nf : Bool} {xs : List Int32} {d : Nat} {m : xM} {g : xL} {G : xG} {B : eB} {t cc cols most len w c : Nat} {rows : List (List Int32)} {row : List Int32} (hc : G.1 t 2 = some cc) (hl : G.2 cc = (0, 1, len)) (ht : tbC t cc cols most rows m) (h8 : most ≤ 8) (h5 : cols ≤ 5) (hfull : rows.length < most) (hw : w < 8) (hcc : c < cols) (hrow : 0 < c → m cc (rows.length * cols + 0) = row.getD 0 0) : CT nf xs d 33 [.ref t, .int (Int32.ofNat (32 + w)), .int (Int32.ofNat c)] m g G (PE (some (.int (lsV w c row))) m g) := by
  refine CT.of (c := 4) (ini := false) (nL := 4) (rt := some .int) (tab := zt33) rfl (fun d' r h' N hd hr => ?_)
  replace hr : RR nf xs d' 4 false 4 (some .int) zt33 G r h' N (0, [(0, .ref t), (1, .int (Int32.ofNat (32 + w))), (2, .int (Int32.ofNat c))], [], m, g) := hr
  have z1 : Int32.ofNat (32 + w) = (32 : Int32) ↔ 32 + w = 32 := xn_eq (b := 32) (by omega) (by decide)
  have z2 : Int32.ofNat (32 + w) = (37 : Int32) ↔ 32 + w = 37 := xn_eq (b := 37) (by omega) (by decide)
  have z3 : Int32.ofNat c = (1 : Int32) ↔ c = 1 := xn_eq (b := 1) (by omega) (by decide)
  replace hr := hr.go (s_iload_n t33_0 rfl)
  replace hr := hr.go (s_k t33_1)
  rcases hr.bNe t33_3 with ⟨b3, hr⟩ | ⟨b3, hr⟩
  · replace hr := hr.go (s_iload_n t33_8 rfl)
    replace hr := hr.go (s_k t33_9)
    rcases hr.bNe t33_11 with ⟨b11, hr⟩ | ⟨b11, hr⟩
    · skip
      replace hr := hr.go (s_k t33_23)
      replace hr := hr.go (s_istore_n (ls' := [(3, _), (0, _), (1, _), (2, _)]) t33_24 rfl)
      replace hr := hr.go (s_iload_n t33_25 rfl)
      rcases hr.zEq t33_26 with ⟨b26, hr⟩ | ⟨b26, hr⟩
      · skip
        replace hr := hr.go (s_k t33_41)
        obtain ⟨rfl, hs⟩ := hr.iret t33_42
        refine ⟨_, _, hs, congrArg (fun z => some (Value.int z)) ?_, rfl, rfl⟩
        unfold lsV
        rw [if_neg (fun q => b3 (z1.mpr (by omega))), if_neg (fun q => b11 (z2.mpr (by omega)))]
      · exact absurd b26 (by decide)
    · replace hr := hr.go (s_iload_n t33_14 rfl)
      replace hr := hr.go (s_k t33_15)
      rcases hr.bNe t33_16 with ⟨b16, hr⟩ | ⟨b16, hr⟩
      · skip
        replace hr := hr.go (s_k t33_23)
        replace hr := hr.go (s_istore_n (ls' := [(3, _), (0, _), (1, _), (2, _)]) t33_24 rfl)
        replace hr := hr.go (s_iload_n t33_25 rfl)
        rcases hr.zEq t33_26 with ⟨b26, hr⟩ | ⟨b26, hr⟩
        · skip
          replace hr := hr.go (s_k t33_41)
          obtain ⟨rfl, hs⟩ := hr.iret t33_42
          refine ⟨_, _, hs, congrArg (fun z => some (Value.int z)) ?_, rfl, rfl⟩
          unfold lsV
          rw [if_neg (fun q => b3 (z1.mpr (by omega))), if_neg (fun q => b16 (z3.mpr (by omega)))]
        · exact absurd b26 (by decide)
      · replace hr := hr.go (s_k t33_19)
        replace hr := hr.go (s_goto t33_20)
        replace hr := hr.go (s_istore_n (ls' := [(3, _), (0, _), (1, _), (2, _)]) t33_24 rfl)
        replace hr := hr.go (s_iload_n t33_25 rfl)
        rcases hr.zEq t33_26 with ⟨b26, hr⟩ | ⟨b26, hr⟩
        · exact absurd b26 (by decide)
        · replace hr := hr.go (s_aload_n t33_29 rfl)
          replace hr := hr.go (s_aload_n t33_30 rfl)
          replace hr := hr.go (s_getf t33_31)
          replace hr := hr.go (s_k t33_34)
          rw [ht.2.2.1] at hr
          replace hr := hr.cvI t33_35 rfl rfl (ct_at (ro := rows.length) (k := 0) hc hl ht.1 ht.2.1 h8 h5 hfull (by omega))
          replace hr := hr.go (s_goto t33_38)
          obtain ⟨rfl, hs⟩ := hr.iret t33_42
          refine ⟨_, _, hs, congrArg (fun z => some (Value.int z)) ?_, rfl, rfl⟩
          unfold lsV
          rw [if_neg (fun q => b3 (z1.mpr (by omega))), if_pos ⟨by have := z2.mp b11; omega, z3.mp b16⟩]
          exact hrow (by have := z3.mp b16; omega)
  · replace hr := hr.go (s_k t33_6)
    obtain ⟨rfl, hs⟩ := hr.iret t33_7
    refine ⟨_, _, hs, congrArg (fun z => some (Value.int z)) ?_, rfl, rfl⟩
    unfold lsV
    rw [if_pos (by have := z1.mp b3; omega)]
end
section
/-! The class Reader: names and numbers. -/
theorem tld_f {r : List Int32} {rs : List (List Int32)} {j v : Int32} (h : ¬ (r.getD 0 0 = j ∧ r.getD 1 0 = v)) : tld (r :: rs) j v = tld rs j v := by
  show ((decide (r.getD 0 0 = j) && decide (r.getD 1 0 = v)) || tld rs j v) = _
  by_cases h1 : r.getD 0 0 = j
  · rw [decide_eq_false (p := r.getD 1 0 = v) (fun q => h ⟨h1, q⟩), Bool.and_false, Bool.false_or]
  · rw [decide_eq_false h1, Bool.false_and, Bool.false_or]
theorem tld_t {r : List Int32} {rs : List (List Int32)} {j v : Int32} (h1 : r.getD 0 0 = j) (h2 : r.getD 1 0 = v) : tld (r :: rs) j v = true := by
  show ((decide (r.getD 0 0 = j) && decide (r.getD 1 0 = v)) || tld rs j v) = true
  rw [decide_eq_true h1, decide_eq_true h2]
  rfl
theorem fnd_lt {v : Int32} : ∀ (rs : List (List Int32)) (i j : Nat), fnd v rs i = some j → i ≤ j ∧ j < i + rs.length
  | [], i, j, h => by cases h
  | r :: rs, i, j, h => by
    have h : (if r.getD 0 0 = v then some i else fnd v rs (i + 1)) = some j := h
    rw [List.length_cons]
    split at h
    · cases h; omega
    · have := fnd_lt rs (i + 1) j h
      omega
theorem oI_m1 {v : Int32} {rs : List (List Int32)} (hb : rs.length ≤ 8) : oI (fnd v rs 0) = -1 ↔ fnd v rs 0 = none := by
  cases h : fnd v rs 0 with
  | none => exact ⟨fun _ => rfl, fun _ => rfl⟩
  | some j =>
    have := fnd_lt rs 0 j h
    refine ⟨fun q => ?_, fun q => by cases q⟩
    have q2 := congrArg Int32.toInt (show Int32.ofNat j = -1 from q)
    rw [xn_int (by omega)] at q2
    have k1 : (-1 : Int32).toInt = -1 := rfl
    omega
theorem tbC_part {t c cols most : Nat} {rows : List (List Int32)} {m m' : xM} (h : tbC t c cols most rows m) (h1 : m' t = m t) (h2 : ∀ k : Nat, k < rows.length * cols → m' c k = m c k) : tbC t c cols most rows m' := by
  refine ⟨by rw [h1]; exact h.1, by rw [h1]; exact h.2.1, by rw [h1]; exact h.2.2.1, h.2.2.2.1, fun r hr k hk => ?_⟩
  rw [h2 (r * cols + k) ?_]
  · exact h.2.2.2.2 r hr k hk
  · have := Nat.mul_le_mul_right cols (show r + 1 ≤ rows.length by omega)
    rw [Nat.add_mul, Nat.one_mul] at this
    omega
theorem tbC_xu {t c cols most k : Nat} {v : Int32} {rows : List (List Int32)} {m : xM} (h : tbC t c cols most rows m) (h1 : ¬ t = c) : tbC t c cols most rows (xu m c (rows.length * cols + k) v) := tbC_part h (xu_row h1) (fun j hj => xu_oth (by omega))
theorem lp35 {nf : Bool} {xs : List Int32} {d : Nat} {g : xL} {G : xG} {r : Option Value} {h' : zH} {m : xM} {x1 x2 : Int32} {t cc most len : Nat} {rows : List (List Int32)} (hc : G.1 t 2 = some cc) (hl : G.2 cc = (0, 1, len)) (ht : tbC t cc 2 most rows m) (h8 : most ≤ 8) (hfull : rows.length < most) : ∀ (N i : Nat), i ≤ rows.length → RR nf xs d 4 false 4 (some .boolean) zt35 G r h' N (22, [(3, .int (Int32.ofNat i)), (2, .int x2), (1, .int x1), (0, .ref t)], [], m, g) → ∃ (m' : xM) (g' : xL), HS h' m' g' G ∧ PE (some (.int (bI (tld (rows.drop i) x1 x2)))) m g r m' g' := by
  have hb := ht.2.2.2.1
  have q2 : (Int32.ofNat rows.length).toInt = (rows.length : Int) := xn_int (by omega)
  intro N
  induction N with
  | zero => intro i _ hr; exact hr.no.elim
  | succ N ih =>
    intro i hle hr
    have q1 : (Int32.ofNat i).toInt = (i : Int) := xn_int (by omega)
    replace hr := hr.go1 (s_iload_n t35_22 rfl)
    replace hr := hr.go (s_aload_n t35_23 rfl)
    replace hr := hr.go (s_getf t35_24)
    rw [ht.2.2.1] at hr
    rcases hr.bGe t35_27 with ⟨b27, hr⟩ | ⟨b27, hr⟩
    · replace hr := hr.go (s_k t35_58)
      obtain ⟨rfl, hs⟩ := hr.iret t35_59
      rw [List.drop_eq_nil_of_le (by omega)]
      exact ⟨_, _, hs, rfl, rfl, rfl⟩
    · have hi : i < rows.length := by omega
      have hd : rows.drop i = rows.getD i [] :: rows.drop (i + 1) := by
        rw [List.getD_eq_getElem?_getD, List.getElem?_eq_getElem hi]
        exact List.drop_eq_getElem_cons hi
      replace hr := hr.go (s_aload_n t35_30 rfl)
      replace hr := hr.go (s_iload_n t35_31 rfl)
      replace hr := hr.go (s_k t35_32)
      replace hr := hr.cvI t35_33 rfl rfl (ct_at (ro := i) (k := 0) hc hl ht.1 ht.2.1 h8 (by omega) (by omega) (by omega))
      rw [ht.2.2.2.2 i hi 0 (by omega)] at hr
      replace hr := hr.go (s_iload_n t35_36 rfl)
      rcases hr.bNe t35_37 with ⟨b37, hr⟩ | ⟨b37, hr⟩
      · replace hr := hr.go (s_iinc (ls' := [(3, _), (2, _), (1, _), (0, _)]) t35_52 rfl rfl)
        replace hr := hr.go (s_goto t35_55)
        rw [hd, tld_f (fun q => b37 q.1)]
        exact ih (i + 1) (by omega) (by rw [← xn_1i]; exact hr)
      · replace hr := hr.go (s_aload_n t35_40 rfl)
        replace hr := hr.go (s_iload_n t35_41 rfl)
        replace hr := hr.go (s_k t35_42)
        replace hr := hr.cvI t35_43 rfl rfl (ct_at (ro := i) (k := 1) hc hl ht.1 ht.2.1 h8 (by omega) (by omega) (by omega))
        rw [ht.2.2.2.2 i hi 1 (by omega)] at hr
        replace hr := hr.go (s_iload_n t35_46 rfl)
        rcases hr.bNe t35_47 with ⟨b47, hr⟩ | ⟨b47, hr⟩
        · replace hr := hr.go (s_iinc (ls' := [(3, _), (2, _), (1, _), (0, _)]) t35_52 rfl rfl)
          replace hr := hr.go (s_goto t35_55)
          rw [hd, tld_f (fun q => b47 q.2)]
          exact ih (i + 1) (by omega) (by rw [← xn_1i]; exact hr)
        · replace hr := hr.go (s_k t35_50)
          obtain ⟨rfl, hs⟩ := hr.iret t35_51
          rw [hd, tld_t b37 b47]
          exact ⟨_, _, hs, rfl, rfl, rfl⟩
theorem ct_isTold {nf : Bool} {xs : List Int32} {d : Nat} {m : xM} {g : xL} {G : xG} {t cc most len : Nat} {rows : List (List Int32)} (hc : G.1 t 2 = some cc) (hl : G.2 cc = (0, 1, len)) (ht : tbC t cc 2 most rows m) (h8 : most ≤ 8) (hfull : rows.length < most) : CT nf xs d 35 [.ref t] m g G (PE (some (.int (bI (tld rows (m cc (rows.length * 2 + 0)) (m cc (rows.length * 2 + 1)))))) m g) := by
  refine CT.of (c := 4) (ini := false) (nL := 4) (rt := some .boolean) (tab := zt35) rfl (fun d' r h' N hd hr => ?_)
  replace hr : RR nf xs d' 4 false 4 (some .boolean) zt35 G r h' N (0, [(0, .ref t)], [], m, g) := hr
  have k1 : (1 : Int32).toInt = 1 := rfl
  replace hr := hr.go (s_aload_n t35_0 rfl)
  replace hr := hr.go (s_aload_n t35_1 rfl)
  replace hr := hr.go (s_getf t35_2)
  replace hr := hr.go (s_k t35_5)
  rw [ht.2.2.1] at hr
  replace hr := hr.cvI t35_6 rfl rfl (ct_at (ro := rows.length) (k := 0) hc hl ht.1 ht.2.1 h8 (by omega) hfull (by omega))
  replace hr := hr.go (s_istore_n (ls' := [(1, _), (0, _)]) t35_9 rfl)
  replace hr := hr.go (s_aload_n t35_10 rfl)
  replace hr := hr.go (s_aload_n t35_11 rfl)
  replace hr := hr.go (s_getf t35_12)
  replace hr := hr.go (s_k t35_15)
  rw [ht.2.2.1] at hr
  replace hr := hr.cvI t35_16 rfl rfl (ct_at (ro := rows.length) (k := 1) hc hl ht.1 ht.2.1 h8 (by omega) hfull (by omega))
  replace hr := hr.go (s_istore_n (ls' := [(2, _), (1, _), (0, _)]) t35_19 rfl)
  replace hr := hr.go (s_k t35_20)
  replace hr := hr.go (s_istore_n (ls' := [(3, _), (2, _), (1, _), (0, _)]) t35_21 rfl)
  exact lp35 hc hl ht h8 hfull N 0 (Nat.zero_le _) hr

theorem ct_readNumber {nf : Bool} {xs : List Int32} {d : Nat} {m : xM} {g : xL} {G : xG} {B : eB} {i P t cc cols most len w c : Nat} {rows : List (List Int32)} {row : List Int32} (hG : GP G P) (hE : EV B) (hs0 : sC B i m) (hc : G.1 t 2 = some cc) (hl : G.2 cc = (0, 1, len)) (ht : tbC t cc cols most rows m) (h8 : most ≤ 8) (h5 : cols ≤ 5) (hfull : rows.length < most) (hw : w < 8) (hcc : c < cols) (hrow : ∀ k : Nat, k < c → m cc (rows.length * cols + k) = row.getD k 0) (hw3 : w = 3 → cols = 2 ∧ c = 1) (h7 : 7 ≤ t) (h7c : 7 ≤ cc) (htc : ¬ t = cc) : CT nf xs d 32 [.ref 2, .ref t, .int (Int32.ofNat (32 + w)), .int (Int32.ofNat c)] m g G (OC B (numF B w c row rows i) g (fun v m' => sC B (i + 1) m' ∧ ∀ a : Nat, ¬ a = 3 → m' a = xu m cc (rows.length * cols + c) v a)) := by
  refine CT.of (c := 4) (ini := false) (nL := 5) (rt := some .boolean) (tab := zt32) rfl (fun d' r h' N hd hr => ?_)
  replace hr : RR nf xs d' 4 false 5 (some .boolean) zt32 G r h' N (0, [(0, .ref 2), (1, .ref t), (2, .int (Int32.ofNat (32 + w))), (3, .int (Int32.ofNat c))], [], m, g) := hr
  have k1 : (1 : Int32).toInt = 1 := rfl
  have k2 : (2 : Int32).toInt = 2 := rfl
  have k3 : (3 : Int32).toInt = 3 := rfl
  have k35 : (35 : Int32).toInt = 35 := rfl
  have z35 : Int32.ofNat (32 + w) = (35 : Int32) ↔ 32 + w = 35 := xn_eq (b := 35) (by omega) (by decide)
  replace hr := hr.go (s_aload_n t32_0 rfl)
  replace hr := hr.go (s_getr t32_1 (hG.2.1))
  replace hr := hr.go (s_getf t32_4)
  replace hr := hr.go (s_k t32_7)
  rw [hs0.2.2.2.2.1] at hr
  rcases hr.bEq t32_8 with ⟨b8, hr⟩ | ⟨b8, hr⟩
  · replace hr := hr.go (s_aload_n t32_17 rfl)
    replace hr := hr.go (s_getr t32_18 (hG.2.1))
    replace hr := hr.go (s_getf t32_21)
    rw [hs0.2.2.2.2.2.1] at hr
    replace hr := hr.go (s_istore (ls' := [(4, _), (0, _), (1, _), (2, _), (3, _)]) t32_24 rfl)
    replace hr := hr.go (s_iload t32_26 rfl)
    replace hr := hr.go (s_aload_n t32_28 rfl)
    replace hr := hr.go (s_iload_n t32_29 rfl)
    replace hr := hr.go (s_iload_n t32_30 rfl)
    replace hr := hr.csI t32_31 rfl rfl (ct_least (B := B) (row := row) hc hl ht h8 h5 hfull hw hcc (fun h => hrow 0 h))
    rcases hr.bLt t32_34 with ⟨b34, hr⟩ | ⟨b34, hr⟩
    · skip
      replace hr := hr.go (s_aload_n t32_47 rfl)
      replace hr := hr.go (s_k t32_48)
      obtain ⟨_, m1, _, ⟨rfl, rfl, ho⟩, hr⟩ := hr.callv t32_49 rfl rfl (ct_ref (B := B) (i := i) (f := 2) (α := Int32) (Q := fun _ _ => True) hG.2.1 hs0)
      obtain ⟨rfl, hs⟩ := hr.iret t32_52
      unfold numF
      rw [if_neg (fun q => q b8), if_pos (Or.inl b34)]
      exact ⟨_, _, hs, rfl, rfl, ho⟩
    · replace hr := hr.go (s_iload t32_37 rfl)
      replace hr := hr.go (s_iload_n t32_39 rfl)
      replace hr := hr.go (s_iload_n t32_40 rfl)
      replace hr := hr.csI t32_41 rfl rfl (ct_mostOf hw (by omega))
      rcases hr.bLe t32_44 with ⟨b44, hr⟩ | ⟨b44, hr⟩
      · replace hr := hr.go (s_aload_n t32_53 rfl)
        replace hr := hr.go (s_iload_n t32_54 rfl)
        replace hr := hr.go (s_iload t32_55 rfl)
        replace hr := hr.cvN t32_57 rfl rfl (ct_put (ro := rows.length) hc ht.1 ht.2.1 ht.2.2.1 h8 h5 hfull hcc)
        replace hr := hr.go (s_iload_n t32_60 rfl)
        replace hr := hr.go (s_k t32_61)
        rcases hr.bNe t32_63 with ⟨b63, hr⟩ | ⟨b63, hr⟩
        · skip
          replace hr := hr.go (s_aload_n t32_79 rfl)
          replace hr := hr.go (s_getr t32_80 (hG.2.1))
          obtain ⟨m2, ⟨hs2, hf⟩, hr⟩ := hr.fvN t32_83 rfl rfl (ct_advS hG.1 hE (sC_row hs0 (xu_row (by omega)) (xu_row (by omega)) (xu_row (by omega))))
          replace hr := hr.go (s_k t32_86)
          obtain ⟨rfl, hs⟩ := hr.iret t32_87
          unfold numF
          rw [if_neg (fun q => q b8), if_neg (by omega), if_neg (fun q => b63 (z35.mpr (by omega)))]
          exact ⟨_, _, hs, rfl, rfl, hs2, hf⟩
        · replace hr := hr.go (s_aload_n t32_66 rfl)
          replace hr := hr.csI t32_67 rfl rfl (ct_isTold (rows := rows) hc hl (by have := tbC_xu (k := c) (v := tV B i) ht htc; obtain ⟨rfl, rfl⟩ := hw3 (by have := z35.mp b63; omega); exact this) h8 hfull)
          have hT : tld rows (xu m cc (rows.length * cols + c) (tV B i) cc (rows.length * 2 + 0)) (xu m cc (rows.length * cols + c) (tV B i) cc (rows.length * 2 + 1)) = tld rows (row.getD 0 0) (tV B i) := by
            obtain ⟨rfl, rfl⟩ := hw3 (by have := z35.mp b63; omega)
            rw [xu_same, xu_oth (by omega), hrow 0 (by omega)]
          rcases hr.zEq t32_70 with ⟨b70, hr⟩ | ⟨b70, hr⟩
          · skip
            replace hr := hr.go (s_aload_n t32_79 rfl)
            replace hr := hr.go (s_getr t32_80 (hG.2.1))
            obtain ⟨m2, ⟨hs2, hf⟩, hr⟩ := hr.fvN t32_83 rfl rfl (ct_advS hG.1 hE (sC_row hs0 (xu_row (by omega)) (xu_row (by omega)) (xu_row (by omega))))
            replace hr := hr.go (s_k t32_86)
            obtain ⟨rfl, hs⟩ := hr.iret t32_87
            unfold numF
            rw [if_neg (fun q => q b8), if_neg (by omega), if_neg (fun q => by have := hT ▸ bI_0 b70; rw [q.2] at this; cases this)]
            exact ⟨_, _, hs, rfl, rfl, hs2, hf⟩
          · replace hr := hr.go (s_aload_n t32_73 rfl)
            replace hr := hr.go (s_k t32_74)
            obtain ⟨_, m1, _, ⟨rfl, rfl, ho⟩, hr⟩ := hr.callv t32_75 rfl rfl (ct_ref (B := B) (i := i) (f := 3) (α := Int32) (Q := fun _ _ => True) hG.2.1 (sC_row hs0 (xu_row (by omega)) (xu_row (by omega)) (xu_row (by omega))))
            obtain ⟨rfl, hs⟩ := hr.iret t32_78
            unfold numF
            rw [if_neg (fun q => q b8), if_neg (by omega), if_pos ⟨by have := z35.mp b63; omega, hT ▸ bI_1 b70⟩]
            exact ⟨_, _, hs, rfl, rfl, ho⟩
      · skip
        replace hr := hr.go (s_aload_n t32_47 rfl)
        replace hr := hr.go (s_k t32_48)
        obtain ⟨_, m1, _, ⟨rfl, rfl, ho⟩, hr⟩ := hr.callv t32_49 rfl rfl (ct_ref (B := B) (i := i) (f := 2) (α := Int32) (Q := fun _ _ => True) hG.2.1 hs0)
        obtain ⟨rfl, hs⟩ := hr.iret t32_52
        unfold numF
        rw [if_neg (fun q => q b8), if_pos (Or.inr b44)]
        exact ⟨_, _, hs, rfl, rfl, ho⟩
  · replace hr := hr.go (s_aload_n t32_11 rfl)
    replace hr := hr.go (s_k t32_12)
    obtain ⟨_, m1, _, ⟨rfl, rfl, ho⟩, hr⟩ := hr.callv t32_13 rfl rfl (ct_ref (B := B) (i := i) (f := 1) (α := Int32) (Q := fun _ _ => True) hG.2.1 hs0)
    obtain ⟨rfl, hs⟩ := hr.iret t32_16
    unfold numF
    rw [if_pos b8]
    exact ⟨_, _, hs, rfl, rfl, ho⟩

theorem ct_readName {nf : Bool} {xs : List Int32} {d : Nat} {m : xM} {g : xL} {G : xG} {B : eB} {i P w : Nat} {rows js : List (List Int32)} (hG : GP G P) (hE : EV B) (hs0 : sC B i m) (hw : w < 8) (ht : tbC (P + 1 + 2 * w) (P + 2 + 2 * w) (cN w) (mN w) rows m) (hj : tbC (P + 1 + 2 * 2) (P + 2 + 2 * 2) (cN 2) (mN 2) js m) (hfull : rows.length < mN w) : CT nf xs d 31 [.ref 2, .ref P, .int (Int32.ofNat (32 + w))] m g G (OC B (namF B w rows js i) g (fun v m' => sC B (i + 1) m' ∧ ∀ a : Nat, ¬ a = 3 → m' a = xu m (P + 2 + 2 * w) (rows.length * cN w + 0) v a)) := by
  refine CT.of (c := 4) (ini := false) (nL := 6) (rt := some .boolean) (tab := zt31) rfl (fun d' r h' N hd hr => ?_)
  replace hr : RR nf xs d' 4 false 6 (some .boolean) zt31 G r h' N (0, [(0, .ref 2), (1, .ref P), (2, .int (Int32.ofNat (32 + w)))], [], m, g) := hr
  have km1 : (-1 : Int32).toInt = -1 := rfl
  have k1 : (1 : Int32).toInt = 1 := rfl
  have k3 : (3 : Int32).toInt = 3 := rfl
  have k4 : (4 : Int32).toInt = 4 := rfl
  have k35 : (35 : Int32).toInt = 35 := rfl
  have z35 : Int32.ofNat (32 + w) = (35 : Int32) ↔ 32 + w = 35 := xn_eq (b := 35) (by omega) (by decide)
  have h7 := hG.2.2.2.2.1
  replace hr := hr.go (s_aload_n t31_0 rfl)
  replace hr := hr.go (s_getr t31_1 (hG.2.1))
  replace hr := hr.go (s_getf t31_4)
  replace hr := hr.go (s_k t31_7)
  rw [hs0.2.2.2.2.1] at hr
  rcases hr.bEq t31_8 with ⟨b8, hr⟩ | ⟨b8, hr⟩
  · replace hr := hr.go (s_aload_n t31_17 rfl)
    replace hr := hr.go (s_iload_n t31_18 rfl)
    replace hr := hr.cvI t31_19 rfl rfl (ct_table hG hw)
    replace hr := hr.go (s_astore_n (ls' := [(3, _), (0, _), (1, _), (2, _)]) t31_22 rfl)
    replace hr := hr.go (s_aload_n t31_23 rfl)
    replace hr := hr.go (s_getr t31_24 (hG.2.1))
    replace hr := hr.go (s_getf t31_27)
    rw [hs0.2.2.2.2.2.1] at hr
    replace hr := hr.go (s_istore (ls' := [(4, _), (3, _), (0, _), (1, _), (2, _)]) t31_30 rfl)
    replace hr := hr.go (s_iload_n t31_32 rfl)
    replace hr := hr.go (s_k t31_33)
    rcases hr.bNe t31_35 with ⟨b35, hr⟩ | ⟨b35, hr⟩
    · replace hr := hr.go (s_aload_n t31_71 rfl)
      replace hr := hr.go (s_iload t31_72 rfl)
      replace hr := hr.cvI t31_74 rfl rfl (ct_find (hG.2.2.2.2.2.1 w hw).2.1 (hG.2.2.2.2.2.1 w hw).2.2.choose_spec ht (mN_b w).1 (cN_b w).1 (cN_b w).2)
      replace hr := hr.go (s_k t31_77)
      rcases hr.bEq t31_78 with ⟨b78, hr⟩ | ⟨b78, hr⟩
      · skip
        replace hr := hr.go (s_aload_n t31_87 rfl)
        replace hr := hr.go (s_k t31_88)
        replace hr := hr.go (s_iload t31_89 rfl)
        replace hr := hr.cvN t31_91 rfl rfl (ct_put (ro := rows.length) (k := 0) (hG.2.2.2.2.2.1 w hw).2.1 ht.1 ht.2.1 ht.2.2.1 (mN_b w).1 (cN_b w).1 hfull (cN_b w).2)
        replace hr := hr.go (s_aload_n t31_94 rfl)
        replace hr := hr.go (s_getr t31_95 (hG.2.1))
        obtain ⟨m2, ⟨hs2, hf⟩, hr⟩ := hr.fvN t31_98 rfl rfl (ct_advS hG.1 hE (sC_row hs0 (xu_row (by omega)) (xu_row (by omega)) (xu_row (by omega))))
        replace hr := hr.go (s_k t31_101)
        obtain ⟨rfl, hs⟩ := hr.iret t31_102
        unfold namF
        rw [if_neg (fun q => q b8), if_neg (fun q => b35 (z35.mpr (by omega))), (oI_m1 (by have := ht.2.2.2.1; have := mN_b w; omega)).mp b78]
        exact ⟨_, _, hs, rfl, rfl, hs2, hf⟩
      · replace hr := hr.go (s_aload_n t31_81 rfl)
        replace hr := hr.go (s_k t31_82)
        obtain ⟨_, m1, _, ⟨rfl, rfl, ho⟩, hr⟩ := hr.callv t31_83 rfl rfl (ct_ref (B := B) (i := i) (f := 3) (α := Int32) (Q := fun _ _ => True) hG.2.1 hs0)
        obtain ⟨rfl, hs⟩ := hr.iret t31_86
        unfold namF
        rw [if_neg (fun q => q b8), if_neg (fun q => b35 (z35.mpr (by omega)))]
        cases hq : fnd (tV B i) rows 0 with
        | none => exact absurd ((oI_m1 (by have := ht.2.2.2.1; have := mN_b w; omega)).mpr hq) b78
        | some j => exact ⟨_, _, hs, rfl, rfl, ho⟩
    · replace hr := hr.go (s_aload_n t31_38 rfl)
      replace hr := hr.go (s_getr t31_39 ((hG.2.2.2.2.2.1 2 (by decide)).1))
      replace hr := hr.go (s_iload t31_42 rfl)
      replace hr := hr.cvI t31_44 rfl rfl (ct_find (hG.2.2.2.2.2.1 2 (by decide)).2.1 (hG.2.2.2.2.2.1 2 (by decide)).2.2.choose_spec hj (by decide) (by decide) (by decide))
      replace hr := hr.go (s_istore (ls' := [(5, _), (4, _), (3, _), (0, _), (1, _), (2, _)]) t31_47 rfl)
      replace hr := hr.go (s_iload t31_49 rfl)
      replace hr := hr.go (s_k t31_51)
      rcases hr.bNe t31_52 with ⟨b52, hr⟩ | ⟨b52, hr⟩
      · skip
        replace hr := hr.go (s_aload_n t31_61 rfl)
        replace hr := hr.go (s_k t31_62)
        replace hr := hr.go (s_iload t31_63 rfl)
        replace hr := hr.cvN t31_65 rfl rfl (ct_put (ro := rows.length) (k := 0) (hG.2.2.2.2.2.1 w hw).2.1 ht.1 ht.2.1 ht.2.2.1 (mN_b w).1 (cN_b w).1 hfull (cN_b w).2)
        replace hr := hr.go (s_goto t31_68)
        replace hr := hr.go (s_aload_n t31_94 rfl)
        replace hr := hr.go (s_getr t31_95 (hG.2.1))
        obtain ⟨m2, ⟨hs2, hf⟩, hr⟩ := hr.fvN t31_98 rfl rfl (ct_advS hG.1 hE (sC_row hs0 (xu_row (by omega)) (xu_row (by omega)) (xu_row (by omega))))
        replace hr := hr.go (s_k t31_101)
        obtain ⟨rfl, hs⟩ := hr.iret t31_102
        unfold namF
        rw [if_neg (fun q => q b8), if_pos (by have := z35.mp b35; omega)]
        cases hq : fnd (tV B i) js 0 with
        | none => exact absurd ((oI_m1 (by have := hj.2.2.2.1; have := mN_b 2; omega)).mpr hq) b52
        | some j =>
          rw [hq] at hf
          exact ⟨_, _, hs, rfl, rfl, hs2, hf⟩
      · replace hr := hr.go (s_aload_n t31_55 rfl)
        replace hr := hr.go (s_k t31_56)
        obtain ⟨_, m1, _, ⟨rfl, rfl, ho⟩, hr⟩ := hr.callv t31_57 rfl rfl (ct_ref (B := B) (i := i) (f := 4) (α := Int32) (Q := fun _ _ => True) hG.2.1 hs0)
        obtain ⟨rfl, hs⟩ := hr.iret t31_60
        unfold namF
        rw [if_neg (fun q => q b8), if_pos (by have := z35.mp b35; omega), (oI_m1 (by have := hj.2.2.2.1; have := mN_b 2; omega)).mp b52]
        exact ⟨_, _, hs, rfl, rfl, ho⟩
  · replace hr := hr.go (s_aload_n t31_11 rfl)
    replace hr := hr.go (s_k t31_12)
    obtain ⟨_, m1, _, ⟨rfl, rfl, ho⟩, hr⟩ := hr.callv t31_13 rfl rfl (ct_ref (B := B) (i := i) (f := 1) (α := Int32) (Q := fun _ _ => True) hG.2.1 hs0)
    obtain ⟨rfl, hs⟩ := hr.iret t31_16
    unfold namF
    rw [if_pos b8]
    exact ⟨_, _, hs, rfl, rfl, ho⟩
end
section
/-! The class Reader: signs that wait. -/
def qty (x : Int32) : Bool := decide (47 ≤ x.toInt ∧ x.toInt ≤ 53)
def str (x : Int32) : Nat := if x = 44 then 1 else if x = 45 then 2 else if x = 46 then 3 else if 14 ≤ x.toInt ∧ x.toInt ≤ 19 then 4 else if x = 10 ∨ x = 11 then 5 else if x = 12 ∨ x = 13 then 6 else 0
theorem str_le (x : Int32) : str x ≤ 6 := by
  unfold str
  repeat' split
  all_goals omega
/-- what waits, the top first -/
def stk (W : List Int32) (m : xM) : Prop := m 2 2 = Int32.ofNat W.length ∧ W.length ≤ 72 ∧ ∀ k : Nat, k < W.length → m 6 (W.length - 1 - k) = W.getD k 0
theorem stk_row {W : List Int32} {m m' : xM} (h : stk W m) (h2 : m' 2 2 = m 2 2) (h6 : m' 6 = m 6) : stk W m' := by
  unfold stk
  rw [h2, h6]
  exact h
def relW (s : Nat) : List Int32 → List Int32
  | [] => []
  | x :: r => if s ≤ str x then relW s r else x :: r
theorem relW_len {s : Nat} : ∀ W : List Int32, (relW s W).length ≤ W.length
  | [] => Nat.le_refl _
  | x :: r => by
    have := relW_len (s := s) r
    show (if s ≤ str x then relW s r else x :: r).length ≤ _
    rw [List.length_cons]
    split
    · omega
    · rw [List.length_cons]; omega
theorem xn_pred {k : Nat} : Int32.ofNat (k + 1) - 1 = Int32.ofNat k := by
  have := xn_sub (s := 1) (e := k + 1) (by omega)
  rw [show k + 1 - 1 = k by omega] at this
  exact this
/-- the laws' knots may grow; nothing else -/
def lwF (P : Nat) (m m' : xM) : Prop := 0 ≤ (m' (P + 17) 4).toInt ∧ ∀ a : Nat, ¬ a = P + 17 → ¬ a = P + 18 → ¬ a = P + 19 → m' a = m a
theorem ct_isQ {nf : Bool} {xs : List Int32} {d : Nat} {m : xM} {g : xL} {G : xG} {x : Int32} : CT nf xs d 38 [.int x] m g G (PE (some (.int (bI (qty x)))) m g) := by
  refine CT.of (c := 4) (ini := false) (nL := 1) (rt := some .boolean) (tab := zt38) rfl (fun d' r h' N hd hr => ?_)
  replace hr : RR nf xs d' 4 false 1 (some .boolean) zt38 G r h' N (0, [(0, .int x)], [], m, g) := hr
  have k1 : (1 : Int32).toInt = 1 := rfl
  have k47 : (47 : Int32).toInt = 47 := rfl
  have k53 : (53 : Int32).toInt = 53 := rfl
  replace hr := hr.go (s_iload_n t38_0 rfl)
  replace hr := hr.go (s_k t38_1)
  rcases hr.bLt t38_3 with ⟨b3, hr⟩ | ⟨b3, hr⟩
  · replace hr := hr.go (s_k t38_16)
    obtain ⟨rfl, hs⟩ := hr.iret t38_17
    exact ⟨_, _, hs, by unfold qty; rw [decide_eq_false (by omega)]; rfl, rfl, rfl⟩
  · replace hr := hr.go (s_iload_n t38_6 rfl)
    replace hr := hr.go (s_k t38_7)
    rcases hr.bGt t38_9 with ⟨b9, hr⟩ | ⟨b9, hr⟩
    · replace hr := hr.go (s_k t38_16)
      obtain ⟨rfl, hs⟩ := hr.iret t38_17
      exact ⟨_, _, hs, by unfold qty; rw [decide_eq_false (by omega)]; rfl, rfl, rfl⟩
    · replace hr := hr.go (s_k t38_12)
      replace hr := hr.go (s_goto t38_13)
      obtain ⟨rfl, hs⟩ := hr.iret t38_17
      exact ⟨_, _, hs, by unfold qty; rw [decide_eq_true (by omega)]; rfl, rfl, rfl⟩

theorem ct_str {nf : Bool} {xs : List Int32} {d : Nat} {m : xM} {g : xL} {G : xG} {x : Int32} : CT nf xs d 45 [.int x] m g G (PE (some (.int (Int32.ofNat (str x)))) m g) := by
  refine CT.of (c := 4) (ini := false) (nL := 1) (rt := some .int) (tab := zt45) rfl (fun d' r h' N hd hr => ?_)
  replace hr : RR nf xs d' 4 false 1 (some .int) zt45 G r h' N (0, [(0, .int x)], [], m, g) := hr
  have k1 : (1 : Int32).toInt = 1 := rfl
  have k2 : (2 : Int32).toInt = 2 := rfl
  have k3 : (3 : Int32).toInt = 3 := rfl
  have k4 : (4 : Int32).toInt = 4 := rfl
  have k5 : (5 : Int32).toInt = 5 := rfl
  have k6 : (6 : Int32).toInt = 6 := rfl
  have k10 : (10 : Int32).toInt = 10 := rfl
  have k11 : (11 : Int32).toInt = 11 := rfl
  have k12 : (12 : Int32).toInt = 12 := rfl
  have k13 : (13 : Int32).toInt = 13 := rfl
  have k14 : (14 : Int32).toInt = 14 := rfl
  have k19 : (19 : Int32).toInt = 19 := rfl
  have k44 : (44 : Int32).toInt = 44 := rfl
  have k45 : (45 : Int32).toInt = 45 := rfl
  have k46 : (46 : Int32).toInt = 46 := rfl
  replace hr := hr.go (s_iload_n t45_0 rfl)
  replace hr := hr.go (s_k t45_1)
  rcases hr.bNe t45_3 with ⟨b3, hr⟩ | ⟨b3, hr⟩
  · replace hr := hr.go (s_iload_n t45_8 rfl)
    replace hr := hr.go (s_k t45_9)
    rcases hr.bNe t45_11 with ⟨b11, hr⟩ | ⟨b11, hr⟩
    · replace hr := hr.go (s_iload_n t45_16 rfl)
      replace hr := hr.go (s_k t45_17)
      rcases hr.bNe t45_19 with ⟨b19, hr⟩ | ⟨b19, hr⟩
      · replace hr := hr.go (s_iload_n t45_24 rfl)
        replace hr := hr.go (s_k t45_25)
        rcases hr.bLt t45_27 with ⟨b27, hr⟩ | ⟨b27, hr⟩
        · replace hr := hr.go (s_iload_n t45_38 rfl)
          replace hr := hr.go (s_k t45_39)
          rcases hr.bEq t45_41 with ⟨b41, hr⟩ | ⟨b41, hr⟩
          · skip
            replace hr := hr.go (s_k t45_50)
            obtain ⟨rfl, hs⟩ := hr.iret t45_51
            exact ⟨_, _, hs, congrArg (fun z => some (Value.int z)) (by unfold str; rw [if_neg b3, if_neg b11, if_neg b19, if_neg (by omega), if_pos (Or.inl b41)]; rfl), rfl, rfl⟩
          · replace hr := hr.go (s_iload_n t45_44 rfl)
            replace hr := hr.go (s_k t45_45)
            rcases hr.bNe t45_47 with ⟨b47, hr⟩ | ⟨b47, hr⟩
            · replace hr := hr.go (s_iload_n t45_52 rfl)
              replace hr := hr.go (s_k t45_53)
              rcases hr.bEq t45_55 with ⟨b55, hr⟩ | ⟨b55, hr⟩
              · skip
                replace hr := hr.go (s_k t45_64)
                replace hr := hr.go (s_goto t45_66)
                obtain ⟨rfl, hs⟩ := hr.iret t45_70
                exact ⟨_, _, hs, congrArg (fun z => some (Value.int z)) (by unfold str; rw [if_neg b3, if_neg b11, if_neg b19, if_neg (by omega), if_neg (fun q => q.elim b41 b47), if_pos (Or.inl b55)]; rfl), rfl, rfl⟩
              · replace hr := hr.go (s_iload_n t45_58 rfl)
                replace hr := hr.go (s_k t45_59)
                rcases hr.bNe t45_61 with ⟨b61, hr⟩ | ⟨b61, hr⟩
                · replace hr := hr.go (s_k t45_69)
                  obtain ⟨rfl, hs⟩ := hr.iret t45_70
                  exact ⟨_, _, hs, congrArg (fun z => some (Value.int z)) (by unfold str; rw [if_neg b3, if_neg b11, if_neg b19, if_neg (by omega), if_neg (fun q => q.elim b41 b47), if_neg (fun q => q.elim b55 b61)]; rfl), rfl, rfl⟩
                · skip
                  replace hr := hr.go (s_k t45_64)
                  replace hr := hr.go (s_goto t45_66)
                  obtain ⟨rfl, hs⟩ := hr.iret t45_70
                  exact ⟨_, _, hs, congrArg (fun z => some (Value.int z)) (by unfold str; rw [if_neg b3, if_neg b11, if_neg b19, if_neg (by omega), if_neg (fun q => q.elim b41 b47), if_pos (Or.inr b61)]; rfl), rfl, rfl⟩
            · skip
              replace hr := hr.go (s_k t45_50)
              obtain ⟨rfl, hs⟩ := hr.iret t45_51
              exact ⟨_, _, hs, congrArg (fun z => some (Value.int z)) (by unfold str; rw [if_neg b3, if_neg b11, if_neg b19, if_neg (by omega), if_pos (Or.inr b47)]; rfl), rfl, rfl⟩
        · replace hr := hr.go (s_iload_n t45_30 rfl)
          replace hr := hr.go (s_k t45_31)
          rcases hr.bGt t45_33 with ⟨b33, hr⟩ | ⟨b33, hr⟩
          · replace hr := hr.go (s_iload_n t45_38 rfl)
            replace hr := hr.go (s_k t45_39)
            rcases hr.bEq t45_41 with ⟨b41, hr⟩ | ⟨b41, hr⟩
            · skip
              replace hr := hr.go (s_k t45_50)
              obtain ⟨rfl, hs⟩ := hr.iret t45_51
              exact ⟨_, _, hs, congrArg (fun z => some (Value.int z)) (by unfold str; rw [if_neg b3, if_neg b11, if_neg b19, if_neg (by omega), if_pos (Or.inl b41)]; rfl), rfl, rfl⟩
            · replace hr := hr.go (s_iload_n t45_44 rfl)
              replace hr := hr.go (s_k t45_45)
              rcases hr.bNe t45_47 with ⟨b47, hr⟩ | ⟨b47, hr⟩
              · replace hr := hr.go (s_iload_n t45_52 rfl)
                replace hr := hr.go (s_k t45_53)
                rcases hr.bEq t45_55 with ⟨b55, hr⟩ | ⟨b55, hr⟩
                · skip
                  replace hr := hr.go (s_k t45_64)
                  replace hr := hr.go (s_goto t45_66)
                  obtain ⟨rfl, hs⟩ := hr.iret t45_70
                  exact ⟨_, _, hs, congrArg (fun z => some (Value.int z)) (by unfold str; rw [if_neg b3, if_neg b11, if_neg b19, if_neg (by omega), if_neg (fun q => q.elim b41 b47), if_pos (Or.inl b55)]; rfl), rfl, rfl⟩
                · replace hr := hr.go (s_iload_n t45_58 rfl)
                  replace hr := hr.go (s_k t45_59)
                  rcases hr.bNe t45_61 with ⟨b61, hr⟩ | ⟨b61, hr⟩
                  · replace hr := hr.go (s_k t45_69)
                    obtain ⟨rfl, hs⟩ := hr.iret t45_70
                    exact ⟨_, _, hs, congrArg (fun z => some (Value.int z)) (by unfold str; rw [if_neg b3, if_neg b11, if_neg b19, if_neg (by omega), if_neg (fun q => q.elim b41 b47), if_neg (fun q => q.elim b55 b61)]; rfl), rfl, rfl⟩
                  · skip
                    replace hr := hr.go (s_k t45_64)
                    replace hr := hr.go (s_goto t45_66)
                    obtain ⟨rfl, hs⟩ := hr.iret t45_70
                    exact ⟨_, _, hs, congrArg (fun z => some (Value.int z)) (by unfold str; rw [if_neg b3, if_neg b11, if_neg b19, if_neg (by omega), if_neg (fun q => q.elim b41 b47), if_pos (Or.inr b61)]; rfl), rfl, rfl⟩
              · skip
                replace hr := hr.go (s_k t45_50)
                obtain ⟨rfl, hs⟩ := hr.iret t45_51
                exact ⟨_, _, hs, congrArg (fun z => some (Value.int z)) (by unfold str; rw [if_neg b3, if_neg b11, if_neg b19, if_neg (by omega), if_pos (Or.inr b47)]; rfl), rfl, rfl⟩
          · replace hr := hr.go (s_k t45_36)
            obtain ⟨rfl, hs⟩ := hr.iret t45_37
            exact ⟨_, _, hs, congrArg (fun z => some (Value.int z)) (by unfold str; rw [if_neg b3, if_neg b11, if_neg b19, if_pos (by omega)]; rfl), rfl, rfl⟩
      · replace hr := hr.go (s_k t45_22)
        obtain ⟨rfl, hs⟩ := hr.iret t45_23
        exact ⟨_, _, hs, congrArg (fun z => some (Value.int z)) (by unfold str; rw [if_neg b3, if_neg b11, if_pos b19]; rfl), rfl, rfl⟩
    · replace hr := hr.go (s_k t45_14)
      obtain ⟨rfl, hs⟩ := hr.iret t45_15
      exact ⟨_, _, hs, congrArg (fun z => some (Value.int z)) (by unfold str; rw [if_neg b3, if_pos b11]; rfl), rfl, rfl⟩
  · replace hr := hr.go (s_k t45_6)
    obtain ⟨rfl, hs⟩ := hr.iret t45_7
    exact ⟨_, _, hs, congrArg (fun z => some (Value.int z)) (by unfold str; rw [if_pos b3]; rfl), rfl, rfl⟩

theorem ct_top {nf : Bool} {xs : List Int32} {d : Nat} {m : xM} {g : xL} {G : xG} {P : Nat} {W : List Int32} (hG : GP G P) (hW : stk W m) : CT nf xs d 42 [.ref 2] m g G (PE (some (.int (W.headD 0))) m g) := by
  refine CT.of (c := 4) (ini := false) (nL := 1) (rt := some .int) (tab := zt42) rfl (fun d' r h' N hd hr => ?_)
  replace hr : RR nf xs d' 4 false 1 (some .int) zt42 G r h' N (0, [(0, .ref 2)], [], m, g) := hr
  have k1 : (1 : Int32).toInt = 1 := rfl
  have hw := hW.2.1
  have q1 : (Int32.ofNat W.length).toInt = (W.length : Int) := xn_int (by omega)
  have k72 : (Int32.ofNat 72).toInt = 72 := rfl
  replace hr := hr.go (s_aload_n t42_0 rfl)
  replace hr := hr.go (s_getf t42_1)
  rw [hW.1] at hr
  rcases hr.zLe t42_4 with ⟨b4, hr⟩ | ⟨b4, hr⟩
  · replace hr := hr.go (s_k t42_33)
    obtain ⟨rfl, hs⟩ := hr.iret t42_34
    cases W with
    | nil => exact ⟨_, _, hs, rfl, rfl, rfl⟩
    | cons x W => exact (by rw [List.length_cons] at q1 b4; omega : False).elim
  · replace hr := hr.go (s_aload_n t42_7 rfl)
    replace hr := hr.go (s_getf t42_8)
    replace hr := hr.go (s_aload_n t42_11 rfl)
    replace hr := hr.go (s_getr t42_12 (hG.2.2.1))
    replace hr := hr.go (s_alen t42_15 (hG.2.2.2.1))
    rw [hW.1] at hr
    rcases hr.bGt t42_16 with ⟨b16, hr⟩ | ⟨b16, hr⟩
    · replace hr := hr.go (s_k t42_33)
      obtain ⟨rfl, hs⟩ := hr.iret t42_34
      exact (by omega : False).elim
    · replace hr := hr.go (s_aload_n t42_19 rfl)
      replace hr := hr.go (s_getr t42_20 (hG.2.2.1))
      replace hr := hr.go (s_aload_n t42_23 rfl)
      replace hr := hr.go (s_getf t42_24)
      replace hr := hr.go (s_k t42_27)
      rw [hW.1] at hr
      replace hr := hr.go (s_isub t42_28)
      replace hr := hr.go (s_iaload t42_29 (hG.2.2.2.1))
      replace hr := hr.go (s_goto t42_30)
      obtain ⟨rfl, hs⟩ := hr.iret t42_34
      cases W with
      | nil => exact absurd b4 (by decide)
      | cons x W =>
        refine ⟨_, _, hs, congrArg (fun z => some (Value.int z)) ?_, rfl, rfl⟩
        rw [List.length_cons, xn_pred, xn_nat (by rw [List.length_cons] at hw; omega)]
        have := hW.2.2 0 (by rw [List.length_cons]; omega)
        rw [List.length_cons, show W.length + 1 - 1 - 0 = W.length by omega] at this
        exact this

theorem ct_hold {nf : Bool} {xs : List Int32} {d : Nat} {m : xM} {g : xL} {G : xG} {P : Nat} {x : Int32} {W : List Int32} (hG : GP G P) (hW : stk W m) : CT nf xs d 43 [.ref 2, .int x] m g G (PE none (if W.length < 72 then xu (xu m 6 W.length x) 2 2 (Int32.ofNat (W.length + 1)) else m) g) := by
  refine CT.of (c := 4) (ini := false) (nL := 2) (rt := none) (tab := zt43) rfl (fun d' r h' N hd hr => ?_)
  replace hr : RR nf xs d' 4 false 2 (none) zt43 G r h' N (0, [(0, .ref 2), (1, .int x)], [], m, g) := hr
  have k1 : (1 : Int32).toInt = 1 := rfl
  have hw := hW.2.1
  have q1 : (Int32.ofNat W.length).toInt = (W.length : Int) := xn_int (by omega)
  have k72 : (Int32.ofNat 72).toInt = 72 := rfl
  replace hr := hr.go (s_aload_n t43_0 rfl)
  replace hr := hr.go (s_getf t43_1)
  replace hr := hr.go (s_aload_n t43_4 rfl)
  replace hr := hr.go (s_getr t43_5 (hG.2.2.1))
  replace hr := hr.go (s_alen t43_8 (hG.2.2.2.1))
  rw [hW.1] at hr
  rcases hr.bGe t43_9 with ⟨b9, hr⟩ | ⟨b9, hr⟩
  · obtain ⟨rfl, hs⟩ := hr.ret t43_32
    rw [if_neg (by omega)]
    exact ⟨_, _, hs, rfl, rfl, rfl⟩
  · replace hr := hr.go (s_aload_n t43_12 rfl)
    replace hr := hr.go (s_getr t43_13 (hG.2.2.1))
    replace hr := hr.go (s_aload_n t43_16 rfl)
    replace hr := hr.go (s_getf t43_17)
    replace hr := hr.go (s_iload_n t43_20 rfl)
    replace hr := hr.go (s_iastore t43_21)
    replace hr := hr.go (s_aload_n t43_22 rfl)
    replace hr := hr.go (s_dup t43_23 rfl)
    replace hr := hr.go (s_getf t43_24)
    replace hr := hr.go (s_k t43_27)
    replace hr := hr.go (s_iadd t43_28)
    replace hr := hr.go (s_putf t43_29)
    obtain ⟨rfl, hs⟩ := hr.ret t43_32
    rw [if_pos (by omega)]
    exact ⟨_, _, hs, rfl, by rw [xu_oth (by omega), hW.1, xn_1, xn_nat (by omega)], rfl⟩

theorem stk_push {W : List Int32} {m : xM} {x : Int32} (h : stk W m) (h1 : W.length < 72) : stk (x :: W) (xu (xu m 6 W.length x) 2 2 (Int32.ofNat (W.length + 1))) := by
  refine ⟨by rw [xu_same, List.length_cons], by rw [List.length_cons]; omega, fun k hk => ?_⟩
  rw [List.length_cons] at hk ⊢
  rw [xu_oth (by omega)]
  cases k with
  | zero => rw [show W.length + 1 - 1 - 0 = W.length by omega, xu_same]; rfl
  | succ k =>
    rw [show W.length + 1 - 1 - (k + 1) = W.length - 1 - k by omega, xu_oth (by omega), h.2.2 k (by omega)]
    rfl
theorem stk_pop {W : List Int32} {m : xM} {x : Int32} (h : stk (x :: W) m) : stk W (xu m 2 2 (m 2 2 - 1)) := by
  refine ⟨by rw [xu_same, h.1, List.length_cons, xn_pred], by have := h.2.1; rw [List.length_cons] at this; omega, fun k hk => ?_⟩
  rw [xu_oth (by omega)]
  have := h.2.2 (k + 1) (by rw [List.length_cons]; omega)
  rw [List.length_cons, show W.length + 1 - 1 - (k + 1) = W.length - 1 - k by omega] at this
  exact this
theorem ct_lput {nf : Bool} {xs : List Int32} {d : Nat} {m : xM} {g : xL} {G : xG} {P : Nat} {x y : Int32} (hG : GP G P) (h0 : 0 ≤ (m (P + 17) 4).toInt) : CT nf xs d 5 [.ref (P + 17), .int x, .int y] m g G (PF none g (lwF P m)) := by
  refine CT.of (c := 0) (ini := false) (nL := 3) (rt := none) (tab := zt5) rfl (fun d' r h' N hd hr => ?_)
  replace hr : RR nf xs d' 0 false 3 (none) zt5 G r h' N (0, [(0, .ref (P + 17)), (1, .int x), (2, .int y)], [], m, g) := hr
  have k1 : (1 : Int32).toInt = 1 := rfl
  have k64 : (64 : Int32).toInt = 64 := rfl
  replace hr := hr.go (s_aload_n t5_0 rfl)
  replace hr := hr.go (s_getf t5_1)
  replace hr := hr.go (s_k t5_4)
  rcases hr.bGe t5_6 with ⟨b6, hr⟩ | ⟨b6, hr⟩
  · obtain ⟨rfl, hs⟩ := hr.ret t5_39
    exact ⟨_, _, hs, rfl, rfl, h0, fun a _ _ _ => rfl⟩
  · replace hr := hr.go (s_aload_n t5_9 rfl)
    replace hr := hr.go (s_getr t5_10 (hG.2.2.2.2.2.2.2.1))
    replace hr := hr.go (s_aload_n t5_13 rfl)
    replace hr := hr.go (s_getf t5_14)
    replace hr := hr.go (s_iload_n t5_17 rfl)
    replace hr := hr.go (s_iastore t5_18)
    replace hr := hr.go (s_aload_n t5_19 rfl)
    replace hr := hr.go (s_getr t5_20 (hG.2.2.2.2.2.2.2.2.1))
    replace hr := hr.go (s_aload_n t5_23 rfl)
    replace hr := hr.go (s_getf t5_24)
    replace hr := hr.go (s_iload_n t5_27 rfl)
    replace hr := hr.go (s_iastore t5_28)
    replace hr := hr.go (s_aload_n t5_29 rfl)
    replace hr := hr.go (s_dup t5_30 rfl)
    replace hr := hr.go (s_getf t5_31)
    replace hr := hr.go (s_k t5_34)
    replace hr := hr.go (s_iadd t5_35)
    replace hr := hr.go (s_putf t5_36)
    obtain ⟨rfl, hs⟩ := hr.ret t5_39
    refine ⟨_, _, hs, rfl, rfl, ?_, fun a h1 h2 h3 => ?_⟩
    · rw [xu_same, xu_oth (by omega), xu_oth (by omega), xt_add (by rw [k1]; omega) (by rw [k1]; omega)]
      omega
    · rw [xu_row h1, xu_row h3, xu_row h2]

def cntF (kn i : Nat) : (Nat × Nat) ⊕ Unit := if 64 ≤ kn then .inl (2, i) else .inr ()
theorem ct_count {nf : Bool} {xs : List Int32} {d : Nat} {m : xM} {g : xL} {G : xG} {B : eB} {P i kn : Nat} (hG : GP G P) (hs0 : sC B i m) (hk : m 2 4 = Int32.ofNat kn) (hkb : kn ≤ 64) : CT nf xs d 41 [.ref 2] m g G (OC B (cntF kn i) g (fun _ m' => m' = xu m 2 4 (Int32.ofNat (kn + 1)))) := by
  refine CT.of (c := 4) (ini := false) (nL := 1) (rt := some .boolean) (tab := zt41) rfl (fun d' r h' N hd hr => ?_)
  replace hr : RR nf xs d' 4 false 1 (some .boolean) zt41 G r h' N (0, [(0, .ref 2)], [], m, g) := hr
  have k1 : (1 : Int32).toInt = 1 := rfl
  have k2 : (2 : Int32).toInt = 2 := rfl
  have k64 : (64 : Int32).toInt = 64 := rfl
  have q1 : (Int32.ofNat kn).toInt = (kn : Int) := xn_int (by omega)
  replace hr := hr.go (s_aload_n t41_0 rfl)
  replace hr := hr.go (s_getf t41_1)
  replace hr := hr.go (s_k t41_4)
  rw [hk] at hr
  rcases hr.bLt t41_6 with ⟨b6, hr⟩ | ⟨b6, hr⟩
  · replace hr := hr.go (s_aload_n t41_15 rfl)
    replace hr := hr.go (s_dup t41_16 rfl)
    replace hr := hr.go (s_getf t41_17)
    replace hr := hr.go (s_k t41_20)
    replace hr := hr.go (s_iadd t41_21)
    replace hr := hr.go (s_putf t41_22)
    replace hr := hr.go (s_k t41_25)
    obtain ⟨rfl, hs⟩ := hr.iret t41_26
    unfold cntF
    rw [if_neg (by omega)]
    exact ⟨_, _, hs, rfl, rfl, by rw [hk, xn_1]⟩
  · replace hr := hr.go (s_aload_n t41_9 rfl)
    replace hr := hr.go (s_k t41_10)
    obtain ⟨_, m1, _, ⟨rfl, rfl, ho⟩, hr⟩ := hr.callv t41_11 rfl rfl (ct_ref (B := B) (i := i) (f := 2) (α := Unit) (Q := fun _ _ => True) hG.2.1 hs0)
    obtain ⟨rfl, hs⟩ := hr.iret t41_14
    unfold cntF
    rw [if_pos (by omega)]
    exact ⟨_, _, hs, rfl, rfl, ho⟩

theorem lp44 {nf : Bool} {xs : List Int32} {d : Nat} {g : xL} {G : xG} {r : Option Value} {h' : zH} {P sn : Nat} (hG : GP G P) (h1 : 1 ≤ sn) (h6 : sn ≤ 6) : ∀ (N q : Nat) (W : List Int32) (m : xM), stk W m → 0 ≤ (m (P + 17) 4).toInt → q + W.length ≤ 72 → RR nf xs d 4 false 4 none zt44 G r h' N (2, [(3, .int (Int32.ofNat q)), (0, .ref 2), (1, .ref (P + 17)), (2, .int (Int32.ofNat sn))], [], m, g) → ∃ (m' : xM) (g' : xL), HS h' m' g' G ∧ PF none g (fun m' => stk (relW sn W) m' ∧ 0 ≤ (m' (P + 17) 4).toInt ∧ (∀ a : Nat, ¬ a = 2 → ¬ a = P + 17 → ¬ a = P + 18 → ¬ a = P + 19 → m' a = m a) ∧ ∀ k : Nat, ¬ k = 2 → m' 2 k = m 2 k) r m' g' := by
  have h7 := hG.2.2.2.2.1
  have k72 : (Int32.ofNat 72).toInt = 72 := rfl
  have q3 : (Int32.ofNat sn).toInt = (sn : Int) := xn_int (by omega)
  intro N
  induction N with
  | zero => intro q W m _ _ _ hr; exact hr.no.elim
  | succ N ih =>
    intro q W m hW h0 hq hr
    have q1 : (Int32.ofNat q).toInt = (q : Int) := xn_int (by omega)
    have q2 : (Int32.ofNat (str (W.headD 0))).toInt = ((str (W.headD 0) : Nat) : Int) := xn_int (by have := str_le (W.headD 0); omega)
    replace hr := hr.go1 (s_iload_n t44_2 rfl)
    replace hr := hr.go (s_aload_n t44_3 rfl)
    replace hr := hr.go (s_getr t44_4 (hG.2.2.1))
    replace hr := hr.go (s_alen t44_7 (hG.2.2.2.1))
    rcases hr.bGe t44_8 with ⟨b8, hr⟩ | ⟨b8, hr⟩
    · obtain ⟨rfl, hs⟩ := hr.ret t44_47
      cases W with
      | nil => exact ⟨_, _, hs, rfl, rfl, hW, h0, fun _ _ _ _ _ => rfl, fun _ _ => rfl⟩
      | cons x W => exact (by rw [List.length_cons] at hq; omega : False).elim
    · replace hr := hr.go (s_aload_n t44_11 rfl)
      replace hr := hr.cvI t44_12 rfl rfl (ct_top hG hW)
      replace hr := hr.csI t44_15 rfl rfl (ct_str)
      replace hr := hr.go (s_iload_n t44_18 rfl)
      rcases hr.bLt t44_19 with ⟨b19, hr⟩ | ⟨b19, hr⟩
      · obtain ⟨rfl, hs⟩ := hr.ret t44_47
        cases W with
        | nil => exact ⟨_, _, hs, rfl, rfl, hW, h0, fun _ _ _ _ _ => rfl, fun _ _ => rfl⟩
        | cons x W =>
          have hx : ¬ sn ≤ str x := by
            have b19 : (Int32.ofNat (str x)).toInt < _ := b19
            have q2 : (Int32.ofNat (str x)).toInt = ((str x : Nat) : Int) := q2
            omega
          refine ⟨_, _, hs, rfl, rfl, ?_, h0, fun _ _ _ _ _ => rfl, fun _ _ => rfl⟩
          show stk (if sn ≤ str x then relW sn W else x :: W) m
          rw [if_neg hx]
          exact hW
      · replace hr := hr.go (s_aload_n t44_22 rfl)
        replace hr := hr.go (s_aload_n t44_23 rfl)
        replace hr := hr.cvI t44_24 rfl rfl (ct_top hG hW)
        replace hr := hr.go (s_k t44_27)
        obtain ⟨m2, ⟨hz2, hf2⟩, hr⟩ := hr.fvN t44_28 rfl rfl (ct_lput hG h0)
        replace hr := hr.go (s_aload_n t44_31 rfl)
        replace hr := hr.go (s_dup t44_32 rfl)
        replace hr := hr.go (s_getf t44_33)
        replace hr := hr.go (s_k t44_36)
        replace hr := hr.go (s_isub t44_37)
        replace hr := hr.go (s_putf t44_38)
        replace hr := hr.go (s_iinc (ls' := [(3, _), (0, _), (1, _), (2, _)]) t44_41 rfl rfl)
        replace hr := hr.go (s_goto t44_44)
        cases W with
        | nil =>
          have q2 : (Int32.ofNat (str 0)).toInt = ((str 0 : Nat) : Int) := q2
          have b19 : _ ≤ (Int32.ofNat (str 0)).toInt := b19
          have z0 : str 0 = 0 := by decide
          exact (by rw [z0] at q2 b19; omega : False).elim
        | cons x W =>
          have hx : sn ≤ str x := by
            have b19 : _ ≤ (Int32.ofNat (str x)).toInt := b19
            have q2 : (Int32.ofNat (str x)).toInt = ((str x : Nat) : Int) := q2
            omega
          rw [List.length_cons] at hq
          have hW2 : stk (x :: W) m2 := stk_row hW (by rw [hf2 2 (by omega) (by omega) (by omega)]) (hf2 6 (by omega) (by omega) (by omega))
          obtain ⟨m', g', w1, w2, w3, w4, w5, w6, w7⟩ := ih (q + 1) W _ (stk_pop hW2) (by rw [xu_oth (by omega)]; exact hz2) (by omega) (by rw [← xn_1i]; exact hr)
          refine ⟨m', g', w1, w2, w3, ?_, w5, fun a a1 a2 a3 a4 => ?_, fun k hk => ?_⟩
          · show stk (if sn ≤ str x then relW sn W else x :: W) m'
            rw [if_pos hx]
            exact w4
          · rw [w6 a a1 a2 a3 a4, xu_row a1, hf2 a a2 a3 a4]
          · rw [w7 k hk, xu_oth (by omega), hf2 2 (by omega) (by omega) (by omega)]
theorem ct_release {nf : Bool} {xs : List Int32} {d : Nat} {m : xM} {g : xL} {G : xG} {P sn : Nat} {W : List Int32} (hG : GP G P) (h1 : 1 ≤ sn) (h6 : sn ≤ 6) (hW : stk W m) (h0 : 0 ≤ (m (P + 17) 4).toInt) : CT nf xs d 44 [.ref 2, .ref (P + 17), .int (Int32.ofNat sn)] m g G (PF none g (fun m' => stk (relW sn W) m' ∧ 0 ≤ (m' (P + 17) 4).toInt ∧ (∀ a : Nat, ¬ a = 2 → ¬ a = P + 17 → ¬ a = P + 18 → ¬ a = P + 19 → m' a = m a) ∧ ∀ k : Nat, ¬ k = 2 → m' 2 k = m 2 k)) := by
  refine CT.of (c := 4) (ini := false) (nL := 4) (rt := none) (tab := zt44) rfl (fun d' r h' N hd hr => ?_)
  replace hr : RR nf xs d' 4 false 4 none zt44 G r h' N (0, [(0, .ref 2), (1, .ref (P + 17)), (2, .int (Int32.ofNat sn))], [], m, g) := hr
  replace hr := hr.go (s_k t44_0)
  replace hr := hr.go (s_istore_n (ls' := [(3, _), (0, _), (1, _), (2, _)]) t44_1 rfl)
  exact lp44 hG h1 h6 N 0 W m hW h0 (by have := hW.2.1; omega) hr
end
section
/-! The class Reader: a token where a value begins, a token behind a value. -/
def begF (B : eB) (i kn op : Nat) (W : List Int32) : (Nat × Nat) ⊕ (Nat × Nat × Bool × List Int32) :=
  if tK B i = 5 then (if 8 ≤ op then .inl (2, i) else .inr (kn, op + 1, true, 5 :: W))
  else if tK B i = 46 then (if 3 < str (W.headD 0) then .inl (1, i) else if 64 ≤ kn then .inl (2, i) else .inr (kn + 1, op, true, 46 :: W))
  else if ¬ tK B i = 2 ∧ qty (tK B i) = false then .inl (1, i) else if tK B i = 2 ∧ 9999 < (tV B i).toInt then .inl (2, i) else if 64 ≤ kn then .inl (2, i) else .inr (kn + 1, op, false, W)
def behF (B : eB) (i kn op : Nat) (W : List Int32) : (Nat × Nat) ⊕ (Nat × Nat × Bool × List Int32) :=
  if tK B i = 6 then (if op = 0 then .inl (1, i) else .inr (kn, op - 1, false, (relW 1 W).tail))
  else if str (tK B i) = 0 ∨ tK B i = 46 then .inl (1, i)
  else if str (tK B i) = 4 ∧ str ((relW 5 W).headD 0) = 4 then .inl (1, i)
  else if 64 ≤ kn then .inl (2, i) else .inr (kn + 1, op, true, tK B i :: relW (if str (tK B i) = 4 then 5 else str (tK B i)) W)
/-- what stands in the Reader within an expression -/
def ft (m : xM) : Prop := m 2 5 = 0 ∧ m 2 6 = -1
theorem ft_row {m m' : xM} (h : ft m) (h2 : m' 2 = m 2) : ft m' := by
  unfold ft
  rw [h2]
  exact h
def xst (P : Nat) (W : List Int32) (kn op : Nat) (m : xM) : Prop := stk W m ∧ m 2 3 = Int32.ofNat op ∧ m 2 4 = Int32.ofNat kn ∧ 0 ≤ (m (P + 17) 4).toInt ∧ ft m
def xfr (P : Nat) (m m' : xM) : Prop := ∀ a : Nat, ¬ a = 2 → ¬ a = 6 → ¬ a = P + 17 → ¬ a = P + 18 → ¬ a = P + 19 → m' a = m a
def c5 : List Int32 → Nat
  | [] => 0
  | x :: r => (if x = 5 then 1 else 0) + c5 r
def xin (W : List Int32) (kn op : Nat) : Prop := c5 W = op ∧ W.length ≤ op + kn ∧ op ≤ 8 ∧ kn ≤ 64 ∧ ∀ x ∈ W, x = 5 ∨ 1 ≤ str x
theorem str5 : str 5 = 0 := by decide
theorem str46 : str 46 = 3 := by decide
theorem relW_mem {s : Nat} : ∀ (W : List Int32) (x : Int32), x ∈ relW s W → x ∈ W
  | [], _, h => h
  | y :: r, x, h => by
    have h : x ∈ (if s ≤ str y then relW s r else y :: r) := h
    split at h
    · exact List.mem_cons_of_mem _ (relW_mem r x h)
    · exact h
theorem relW_c5 {s : Nat} (hs : 1 ≤ s) : ∀ W : List Int32, c5 (relW s W) = c5 W
  | [] => rfl
  | y :: r => by
    show c5 (if s ≤ str y then relW s r else y :: r) = (if y = 5 then 1 else 0) + c5 r
    split
    · next h => rw [relW_c5 hs r, if_neg (fun q => by rw [q, str5] at h; omega), Nat.zero_add]
    · rfl
theorem relW_hd {s : Nat} : ∀ (W : List Int32) (x : Int32) (R : List Int32), relW s W = x :: R → ¬ s ≤ str x
  | [], _, _, h => by cases h
  | y :: r, x, R, h => by
    have h : (if s ≤ str y then relW s r else y :: r) = x :: R := h
    split at h
    · exact relW_hd r x R h
    · next q => cases h; exact q
/-- behind all signs an open bracket waits -/
theorem rel_open {W : List Int32} {kn op : Nat} (h : xin W kn op) (ho : ¬ op = 0) : ∃ R : List Int32, relW 1 W = 5 :: R := by
  have h1 := relW_c5 (s := 1) (by omega) W
  cases hR : relW 1 W with
  | nil =>
    rw [hR, h.1] at h1
    exact absurd h1.symm ho
  | cons x R =>
    have h2 := relW_hd W x R hR
    rcases h.2.2.2.2 x (relW_mem W x (by rw [hR]; exact List.mem_cons_self)) with q | q
    · rw [q]; exact ⟨R, rfl⟩
    · exact absurd q h2
theorem ct_begin {nf : Bool} {xs : List Int32} {d : Nat} {m : xM} {g : xL} {G : xG} {B : eB} {P i kn op : Nat} {W : List Int32} (hG : GP G P) (hs0 : sC B i m) (hX : xst P W kn op m) (hI : xin W kn op) : CT nf xs d 39 [.ref 2, .ref (P + 17)] m g G (OC B (begF B i kn op W) g (fun s m' => xst P s.2.2.2 s.1 s.2.1 m' ∧ xfr P m m')) := by
  refine CT.of (c := 4) (ini := false) (nL := 3) (rt := some .boolean) (tab := zt39) rfl (fun d' r h' N hd hr => ?_)
  replace hr : RR nf xs d' 4 false 3 (some .boolean) zt39 G r h' N (0, [(0, .ref 2), (1, .ref (P + 17))], [], m, g) := hr
  have k1 : (1 : Int32).toInt = 1 := rfl
  have k2 : (2 : Int32).toInt = 2 := rfl
  have k5 : (5 : Int32).toInt = 5 := rfl
  have k8 : (8 : Int32).toInt = 8 := rfl
  have k46 : (46 : Int32).toInt = 46 := rfl
  have k9999 : (9999 : Int32).toInt = 9999 := rfl
  have h7 := hG.2.2.2.2.1
  have hW := hX.1
  obtain ⟨i1, i2, i3, i4, i5⟩ := hI
  have q1 : (Int32.ofNat op).toInt = (op : Int) := xn_int (by omega)
  replace hr := hr.go (s_aload_n t39_0 rfl)
  replace hr := hr.go (s_getr t39_1 (hG.2.1))
  replace hr := hr.go (s_getf t39_4)
  rw [hs0.2.2.2.2.1] at hr
  replace hr := hr.go (s_istore_n (ls' := [(2, _), (0, _), (1, _)]) t39_7 rfl)
  replace hr := hr.go (s_iload_n t39_8 rfl)
  replace hr := hr.go (s_k t39_9)
  rcases hr.bNe t39_10 with ⟨b10, hr⟩ | ⟨b10, hr⟩
  · replace hr := hr.go (s_iload_n t39_45 rfl)
    replace hr := hr.go (s_k t39_46)
    rcases hr.bNe t39_48 with ⟨b48, hr⟩ | ⟨b48, hr⟩
    · replace hr := hr.go (s_iload_n t39_82 rfl)
      replace hr := hr.go (s_k t39_83)
      rcases hr.bEq t39_84 with ⟨b84, hr⟩ | ⟨b84, hr⟩
      · skip
        replace hr := hr.go (s_iload_n t39_100 rfl)
        replace hr := hr.go (s_k t39_101)
        rcases hr.bNe t39_102 with ⟨b102, hr⟩ | ⟨b102, hr⟩
        · skip
          replace hr := hr.go (s_aload_n t39_124 rfl)
          replace hr := hr.go (s_iload_n t39_125 rfl)
          replace hr := hr.go (s_aload_n t39_126 rfl)
          replace hr := hr.go (s_getr t39_127 (hG.2.1))
          replace hr := hr.go (s_getf t39_130)
          obtain ⟨m2, ⟨hz2, hf2⟩, hr⟩ := hr.fvN t39_133 rfl rfl (ct_lput hG hX.2.2.2.1)
          replace hr := hr.go (s_aload_n t39_136 rfl)
          obtain ⟨r1, m1, _, ⟨rfl, ho⟩, hr⟩ := hr.callv t39_137 rfl rfl (ct_count (kn := kn) hG (sC_row hs0 (hf2 1 (by omega) (by omega) (by omega)) (hf2 4 (by omega) (by omega) (by omega)) (hf2 3 (by omega) (by omega) (by omega))) (by rw [hf2 2 (by omega) (by omega) (by omega)]; exact hX.2.2.1) i4)
          rcases Nat.lt_or_ge kn 64 with h64 | h64
          · skip
            unfold cntF at ho
            rw [if_neg (by omega)] at ho
            obtain ⟨rfl, rfl⟩ := ho
            obtain ⟨rfl, hs⟩ := hr.iret t39_140
            unfold begF
            rw [if_neg b10, if_neg b48, if_neg (fun q => q.1 b84), if_neg (fun q => b102 q.1), if_neg (by omega)]
            refine ⟨_, _, hs, rfl, rfl, ⟨?_, ?_, ?_, ?_, ?_⟩, fun a a1 a2 a3 a4 a5 => ?_⟩
            · exact stk_row hW (by rw [xu_oth (by decide), hf2 2 (by omega) (by omega) (by omega)]) (by rw [xu_row (by decide), hf2 6 (by omega) (by omega) (by omega)])
            · rw [xu_oth (by decide), hf2 2 (by omega) (by omega) (by omega)]; exact hX.2.1
            · rw [xu_same]
            · rw [xu_row (by omega)]; exact hz2
            · exact ⟨by rw [xu_oth (by decide), hf2 2 (by omega) (by omega) (by omega)]; exact hX.2.2.2.2.1, by rw [xu_oth (by decide), hf2 2 (by omega) (by omega) (by omega)]; exact hX.2.2.2.2.2⟩
            · rw [xu_row a1, hf2 a a3 a4 a5]
          · skip
            unfold cntF at ho
            rw [if_pos h64] at ho
            obtain ⟨rfl, ho⟩ := ho
            obtain ⟨rfl, hs⟩ := hr.iret t39_140
            unfold begF
            rw [if_neg b10, if_neg b48, if_neg (fun q => q.1 b84), if_neg (fun q => b102 q.1), if_pos h64]
            exact ⟨_, _, hs, rfl, rfl, ho⟩
        · replace hr := hr.go (s_aload_n t39_105 rfl)
          replace hr := hr.go (s_getr t39_106 (hG.2.1))
          replace hr := hr.go (s_getf t39_109)
          rw [hs0.2.2.2.2.2.1] at hr
          replace hr := hr.go (s_k t39_112)
          rcases hr.bLe t39_115 with ⟨b115, hr⟩ | ⟨b115, hr⟩
          · skip
            replace hr := hr.go (s_aload_n t39_124 rfl)
            replace hr := hr.go (s_iload_n t39_125 rfl)
            replace hr := hr.go (s_aload_n t39_126 rfl)
            replace hr := hr.go (s_getr t39_127 (hG.2.1))
            replace hr := hr.go (s_getf t39_130)
            obtain ⟨m2, ⟨hz2, hf2⟩, hr⟩ := hr.fvN t39_133 rfl rfl (ct_lput hG hX.2.2.2.1)
            replace hr := hr.go (s_aload_n t39_136 rfl)
            obtain ⟨r1, m1, _, ⟨rfl, ho⟩, hr⟩ := hr.callv t39_137 rfl rfl (ct_count (kn := kn) hG (sC_row hs0 (hf2 1 (by omega) (by omega) (by omega)) (hf2 4 (by omega) (by omega) (by omega)) (hf2 3 (by omega) (by omega) (by omega))) (by rw [hf2 2 (by omega) (by omega) (by omega)]; exact hX.2.2.1) i4)
            rcases Nat.lt_or_ge kn 64 with h64 | h64
            · skip
              unfold cntF at ho
              rw [if_neg (by omega)] at ho
              obtain ⟨rfl, rfl⟩ := ho
              obtain ⟨rfl, hs⟩ := hr.iret t39_140
              unfold begF
              rw [if_neg b10, if_neg b48, if_neg (fun q => q.1 b84), if_neg (by omega), if_neg (by omega)]
              refine ⟨_, _, hs, rfl, rfl, ⟨?_, ?_, ?_, ?_, ?_⟩, fun a a1 a2 a3 a4 a5 => ?_⟩
              · exact stk_row hW (by rw [xu_oth (by decide), hf2 2 (by omega) (by omega) (by omega)]) (by rw [xu_row (by decide), hf2 6 (by omega) (by omega) (by omega)])
              · rw [xu_oth (by decide), hf2 2 (by omega) (by omega) (by omega)]; exact hX.2.1
              · rw [xu_same]
              · rw [xu_row (by omega)]; exact hz2
              · exact ⟨by rw [xu_oth (by decide), hf2 2 (by omega) (by omega) (by omega)]; exact hX.2.2.2.2.1, by rw [xu_oth (by decide), hf2 2 (by omega) (by omega) (by omega)]; exact hX.2.2.2.2.2⟩
              · rw [xu_row a1, hf2 a a3 a4 a5]
            · skip
              unfold cntF at ho
              rw [if_pos h64] at ho
              obtain ⟨rfl, ho⟩ := ho
              obtain ⟨rfl, hs⟩ := hr.iret t39_140
              unfold begF
              rw [if_neg b10, if_neg b48, if_neg (fun q => q.1 b84), if_neg (by omega), if_pos h64]
              exact ⟨_, _, hs, rfl, rfl, ho⟩
          · replace hr := hr.go (s_aload_n t39_118 rfl)
            replace hr := hr.go (s_k t39_119)
            obtain ⟨_, m1, _, ⟨rfl, rfl, ho⟩, hr⟩ := hr.callv t39_120 rfl rfl (ct_ref (B := B) (i := i) (f := 2) (α := Unit) (Q := fun _ _ => True) hG.2.1 (hs0))
            obtain ⟨rfl, hs⟩ := hr.iret t39_123
            unfold begF
            rw [if_neg b10, if_neg b48, if_neg (fun q => q.1 b84), if_pos ⟨b102, by omega⟩]
            exact ⟨_, _, hs, rfl, rfl, ho⟩
      · replace hr := hr.go (s_iload_n t39_87 rfl)
        replace hr := hr.csI t39_88 rfl rfl (ct_isQ)
        rcases hr.zNe t39_91 with ⟨b91, hr⟩ | ⟨b91, hr⟩
        · skip
          replace hr := hr.go (s_iload_n t39_100 rfl)
          replace hr := hr.go (s_k t39_101)
          rcases hr.bNe t39_102 with ⟨b102, hr⟩ | ⟨b102, hr⟩
          · skip
            replace hr := hr.go (s_aload_n t39_124 rfl)
            replace hr := hr.go (s_iload_n t39_125 rfl)
            replace hr := hr.go (s_aload_n t39_126 rfl)
            replace hr := hr.go (s_getr t39_127 (hG.2.1))
            replace hr := hr.go (s_getf t39_130)
            obtain ⟨m2, ⟨hz2, hf2⟩, hr⟩ := hr.fvN t39_133 rfl rfl (ct_lput hG hX.2.2.2.1)
            replace hr := hr.go (s_aload_n t39_136 rfl)
            obtain ⟨r1, m1, _, ⟨rfl, ho⟩, hr⟩ := hr.callv t39_137 rfl rfl (ct_count (kn := kn) hG (sC_row hs0 (hf2 1 (by omega) (by omega) (by omega)) (hf2 4 (by omega) (by omega) (by omega)) (hf2 3 (by omega) (by omega) (by omega))) (by rw [hf2 2 (by omega) (by omega) (by omega)]; exact hX.2.2.1) i4)
            rcases Nat.lt_or_ge kn 64 with h64 | h64
            · skip
              unfold cntF at ho
              rw [if_neg (by omega)] at ho
              obtain ⟨rfl, rfl⟩ := ho
              obtain ⟨rfl, hs⟩ := hr.iret t39_140
              unfold begF
              rw [if_neg b10, if_neg b48, if_neg (fun q => by rw [bI_1 b91] at q; exact absurd q.2 (by decide)), if_neg (fun q => b102 q.1), if_neg (by omega)]
              refine ⟨_, _, hs, rfl, rfl, ⟨?_, ?_, ?_, ?_, ?_⟩, fun a a1 a2 a3 a4 a5 => ?_⟩
              · exact stk_row hW (by rw [xu_oth (by decide), hf2 2 (by omega) (by omega) (by omega)]) (by rw [xu_row (by decide), hf2 6 (by omega) (by omega) (by omega)])
              · rw [xu_oth (by decide), hf2 2 (by omega) (by omega) (by omega)]; exact hX.2.1
              · rw [xu_same]
              · rw [xu_row (by omega)]; exact hz2
              · exact ⟨by rw [xu_oth (by decide), hf2 2 (by omega) (by omega) (by omega)]; exact hX.2.2.2.2.1, by rw [xu_oth (by decide), hf2 2 (by omega) (by omega) (by omega)]; exact hX.2.2.2.2.2⟩
              · rw [xu_row a1, hf2 a a3 a4 a5]
            · skip
              unfold cntF at ho
              rw [if_pos h64] at ho
              obtain ⟨rfl, ho⟩ := ho
              obtain ⟨rfl, hs⟩ := hr.iret t39_140
              unfold begF
              rw [if_neg b10, if_neg b48, if_neg (fun q => by rw [bI_1 b91] at q; exact absurd q.2 (by decide)), if_neg (fun q => b102 q.1), if_pos h64]
              exact ⟨_, _, hs, rfl, rfl, ho⟩
          · replace hr := hr.go (s_aload_n t39_105 rfl)
            replace hr := hr.go (s_getr t39_106 (hG.2.1))
            replace hr := hr.go (s_getf t39_109)
            rw [hs0.2.2.2.2.2.1] at hr
            replace hr := hr.go (s_k t39_112)
            rcases hr.bLe t39_115 with ⟨b115, hr⟩ | ⟨b115, hr⟩
            · skip
              replace hr := hr.go (s_aload_n t39_124 rfl)
              replace hr := hr.go (s_iload_n t39_125 rfl)
              replace hr := hr.go (s_aload_n t39_126 rfl)
              replace hr := hr.go (s_getr t39_127 (hG.2.1))
              replace hr := hr.go (s_getf t39_130)
              obtain ⟨m2, ⟨hz2, hf2⟩, hr⟩ := hr.fvN t39_133 rfl rfl (ct_lput hG hX.2.2.2.1)
              replace hr := hr.go (s_aload_n t39_136 rfl)
              obtain ⟨r1, m1, _, ⟨rfl, ho⟩, hr⟩ := hr.callv t39_137 rfl rfl (ct_count (kn := kn) hG (sC_row hs0 (hf2 1 (by omega) (by omega) (by omega)) (hf2 4 (by omega) (by omega) (by omega)) (hf2 3 (by omega) (by omega) (by omega))) (by rw [hf2 2 (by omega) (by omega) (by omega)]; exact hX.2.2.1) i4)
              rcases Nat.lt_or_ge kn 64 with h64 | h64
              · skip
                unfold cntF at ho
                rw [if_neg (by omega)] at ho
                obtain ⟨rfl, rfl⟩ := ho
                obtain ⟨rfl, hs⟩ := hr.iret t39_140
                unfold begF
                rw [if_neg b10, if_neg b48, if_neg (fun q => by rw [bI_1 b91] at q; exact absurd q.2 (by decide)), if_neg (by omega), if_neg (by omega)]
                refine ⟨_, _, hs, rfl, rfl, ⟨?_, ?_, ?_, ?_, ?_⟩, fun a a1 a2 a3 a4 a5 => ?_⟩
                · exact stk_row hW (by rw [xu_oth (by decide), hf2 2 (by omega) (by omega) (by omega)]) (by rw [xu_row (by decide), hf2 6 (by omega) (by omega) (by omega)])
                · rw [xu_oth (by decide), hf2 2 (by omega) (by omega) (by omega)]; exact hX.2.1
                · rw [xu_same]
                · rw [xu_row (by omega)]; exact hz2
                · exact ⟨by rw [xu_oth (by decide), hf2 2 (by omega) (by omega) (by omega)]; exact hX.2.2.2.2.1, by rw [xu_oth (by decide), hf2 2 (by omega) (by omega) (by omega)]; exact hX.2.2.2.2.2⟩
                · rw [xu_row a1, hf2 a a3 a4 a5]
              · skip
                unfold cntF at ho
                rw [if_pos h64] at ho
                obtain ⟨rfl, ho⟩ := ho
                obtain ⟨rfl, hs⟩ := hr.iret t39_140
                unfold begF
                rw [if_neg b10, if_neg b48, if_neg (fun q => by rw [bI_1 b91] at q; exact absurd q.2 (by decide)), if_neg (by omega), if_pos h64]
                exact ⟨_, _, hs, rfl, rfl, ho⟩
            · replace hr := hr.go (s_aload_n t39_118 rfl)
              replace hr := hr.go (s_k t39_119)
              obtain ⟨_, m1, _, ⟨rfl, rfl, ho⟩, hr⟩ := hr.callv t39_120 rfl rfl (ct_ref (B := B) (i := i) (f := 2) (α := Unit) (Q := fun _ _ => True) hG.2.1 (hs0))
              obtain ⟨rfl, hs⟩ := hr.iret t39_123
              unfold begF
              rw [if_neg b10, if_neg b48, if_neg (fun q => by rw [bI_1 b91] at q; exact absurd q.2 (by decide)), if_pos ⟨b102, by omega⟩]
              exact ⟨_, _, hs, rfl, rfl, ho⟩
        · replace hr := hr.go (s_aload_n t39_94 rfl)
          replace hr := hr.go (s_k t39_95)
          obtain ⟨_, m1, _, ⟨rfl, rfl, ho⟩, hr⟩ := hr.callv t39_96 rfl rfl (ct_ref (B := B) (i := i) (f := 1) (α := Unit) (Q := fun _ _ => True) hG.2.1 (hs0))
          obtain ⟨rfl, hs⟩ := hr.iret t39_99
          unfold begF
          rw [if_neg b10, if_neg b48, if_pos ⟨b84, bI_0 b91⟩]
          exact ⟨_, _, hs, rfl, rfl, ho⟩
    · replace hr := hr.go (s_aload_n t39_51 rfl)
      replace hr := hr.cvI t39_52 rfl rfl (ct_top hG hW)
      replace hr := hr.csI t39_55 rfl rfl (ct_str)
      replace hr := hr.go (s_k t39_58)
      replace hr := hr.csI t39_60 rfl rfl (ct_str)
      have q2 : (Int32.ofNat (str (W.headD 0))).toInt = ((str (W.headD 0) : Nat) : Int) := xn_int (by have := str_le (W.headD 0); omega)
      rcases hr.bLe t39_63 with ⟨b63, hr⟩ | ⟨b63, hr⟩
      · replace hr := hr.go (s_aload_n t39_72 rfl)
        replace hr := hr.go (s_iload_n t39_73 rfl)
        replace hr := hr.cvN t39_74 rfl rfl (ct_hold hG hW)
        rcases Nat.lt_or_ge kn 64 with h64 | h64
        · skip
          rw [if_pos (by omega : W.length < 72)] at hr
          skip
          replace hr := hr.go (s_aload_n t39_77 rfl)
          obtain ⟨r1, m1, _, ⟨rfl, ho⟩, hr⟩ := hr.callv t39_78 rfl rfl (ct_count (kn := kn) hG (sC_row hs0 (by rw [xu_row (by decide), xu_row (by decide)]) (by rw [xu_row (by decide), xu_row (by decide)]) (by rw [xu_row (by decide), xu_row (by decide)])) (by rw [xu_oth (by decide), xu_row (by decide)]; exact hX.2.2.1) i4)
          unfold cntF at ho
          rw [if_neg (by omega)] at ho
          obtain ⟨rfl, rfl⟩ := ho
          obtain ⟨rfl, hs⟩ := hr.iret t39_81
          unfold begF
          rw [if_neg b10, if_pos b48, if_neg (by rw [str46] at b63; have k3 : (Int32.ofNat 3).toInt = 3 := rfl; omega), if_neg (by omega)]
          refine ⟨_, _, hs, rfl, rfl, ⟨?_, ?_, ?_, ?_, ?_⟩, fun a a1 a2 a3 a4 a5 => ?_⟩
          · rw [b48]
            exact stk_row (stk_push hW (by omega)) (xu_oth (by decide)) (xu_row (by decide))
          · rw [xu_oth (by decide), xu_oth (by decide), xu_row (by decide)]; exact hX.2.1
          · rw [xu_same]
          · rw [xu_row (by omega), xu_row (by omega), xu_row (by omega)]; exact hX.2.2.2.1
          · exact ⟨by rw [xu_oth (by decide), xu_oth (by decide), xu_row (by decide)]; exact hX.2.2.2.2.1, by rw [xu_oth (by decide), xu_oth (by decide), xu_row (by decide)]; exact hX.2.2.2.2.2⟩
          · rw [xu_row a1, xu_row a1, xu_row a2]
        · skip
          generalize hM : (if W.length < 72 then xu (xu m 6 W.length (tK B i)) 2 2 (Int32.ofNat (W.length + 1)) else m) = M at hr
          have hM1 : sC B i M := by
            rw [← hM]
            split
            · exact sC_row hs0 (by rw [xu_row (by decide), xu_row (by decide)]) (by rw [xu_row (by decide), xu_row (by decide)]) (by rw [xu_row (by decide), xu_row (by decide)])
            · exact hs0
          have hM2 : M 2 4 = Int32.ofNat kn := by
            rw [← hM]
            split
            · rw [xu_oth (by decide), xu_row (by decide)]; exact hX.2.2.1
            · exact hX.2.2.1
          skip
          replace hr := hr.go (s_aload_n t39_77 rfl)
          obtain ⟨r1, m1, _, ⟨rfl, ho⟩, hr⟩ := hr.callv t39_78 rfl rfl (ct_count (kn := kn) hG (hM1) (hM2) i4)
          unfold cntF at ho
          rw [if_pos h64] at ho
          obtain ⟨rfl, ho⟩ := ho
          obtain ⟨rfl, hs⟩ := hr.iret t39_81
          unfold begF
          rw [if_neg b10, if_pos b48, if_neg (by rw [str46] at b63; have k3 : (Int32.ofNat 3).toInt = 3 := rfl; omega), if_pos h64]
          exact ⟨_, _, hs, rfl, rfl, ho⟩
      · replace hr := hr.go (s_aload_n t39_66 rfl)
        replace hr := hr.go (s_k t39_67)
        obtain ⟨_, m1, _, ⟨rfl, rfl, ho⟩, hr⟩ := hr.callv t39_68 rfl rfl (ct_ref (B := B) (i := i) (f := 1) (α := Unit) (Q := fun _ _ => True) hG.2.1 (hs0))
        obtain ⟨rfl, hs⟩ := hr.iret t39_71
        unfold begF
        rw [if_neg b10, if_pos b48, if_pos (by rw [str46] at b63; have k3 : (Int32.ofNat 3).toInt = 3 := rfl; omega)]
        exact ⟨_, _, hs, rfl, rfl, ho⟩
  · replace hr := hr.go (s_aload_n t39_13 rfl)
    replace hr := hr.go (s_getf t39_14)
    replace hr := hr.go (s_k t39_17)
    rw [hX.2.1] at hr
    rcases hr.bLt t39_19 with ⟨b19, hr⟩ | ⟨b19, hr⟩
    · replace hr := hr.go (s_aload_n t39_28 rfl)
      replace hr := hr.go (s_dup t39_29 rfl)
      replace hr := hr.go (s_getf t39_30)
      replace hr := hr.go (s_k t39_33)
      replace hr := hr.go (s_iadd t39_34)
      replace hr := hr.go (s_putf t39_35)
      replace hr := hr.go (s_aload_n t39_38 rfl)
      replace hr := hr.go (s_iload_n t39_39 rfl)
      replace hr := hr.cvN t39_40 rfl rfl (ct_hold hG (stk_row hW (xu_oth (by decide)) (xu_row (by decide))))
      rw [if_pos (by omega : W.length < 72)] at hr
      replace hr := hr.go (s_k t39_43)
      obtain ⟨rfl, hs⟩ := hr.iret t39_44
      unfold begF
      rw [if_pos b10, if_neg (by omega)]
      refine ⟨_, _, hs, rfl, rfl, ⟨?_, ?_, ?_, ?_, ?_⟩, fun a a1 a2 a3 a4 a5 => ?_⟩
      · rw [b10]
        exact stk_push (stk_row hW (xu_oth (by decide)) (xu_row (by decide))) (by omega)
      · rw [xu_oth (by decide), xu_row (by decide), xu_same, hX.2.1, xn_1]
      · rw [xu_oth (by decide), xu_row (by decide), xu_oth (by decide)]; exact hX.2.2.1
      · rw [xu_row (by omega), xu_row (by omega), xu_row (by omega)]; exact hX.2.2.2.1
      · exact ⟨by rw [xu_oth (by decide), xu_row (by decide), xu_oth (by decide)]; exact hX.2.2.2.2.1, by rw [xu_oth (by decide), xu_row (by decide), xu_oth (by decide)]; exact hX.2.2.2.2.2⟩
      · rw [xu_row a1, xu_row a2, xu_row a1]
    · replace hr := hr.go (s_aload_n t39_22 rfl)
      replace hr := hr.go (s_k t39_23)
      obtain ⟨_, m1, _, ⟨rfl, rfl, ho⟩, hr⟩ := hr.callv t39_24 rfl rfl (ct_ref (B := B) (i := i) (f := 2) (α := Unit) (Q := fun _ _ => True) hG.2.1 (hs0))
      obtain ⟨rfl, hs⟩ := hr.iret t39_27
      unfold begF
      rw [if_pos b10, if_pos (by omega)]
      exact ⟨_, _, hs, rfl, rfl, ho⟩
end
section
/-! The class Reader: a token behind a value. -/
theorem ct_behind {nf : Bool} {xs : List Int32} {d : Nat} {m : xM} {g : xL} {G : xG} {B : eB} {P i kn op : Nat} {W : List Int32} (hG : GP G P) (hs0 : sC B i m) (hX : xst P W kn op m) (hI : xin W kn op) : CT nf xs d 40 [.ref 2, .ref (P + 17)] m g G (OC B (behF B i kn op W) g (fun s m' => xst P s.2.2.2 s.1 s.2.1 m' ∧ xfr P m m')) := by
  refine CT.of (c := 4) (ini := false) (nL := 4) (rt := some .boolean) (tab := zt40) rfl (fun d' r h' N hd hr => ?_)
  replace hr : RR nf xs d' 4 false 4 (some .boolean) zt40 G r h' N (0, [(0, .ref 2), (1, .ref (P + 17))], [], m, g) := hr
  have k1 : (1 : Int32).toInt = 1 := rfl
  have k4 : (4 : Int32).toInt = 4 := rfl
  have k6 : (6 : Int32).toInt = 6 := rfl
  have k46 : (46 : Int32).toInt = 46 := rfl
  have h7 := hG.2.2.2.2.1
  have hW := hX.1
  obtain ⟨i1, i2, i3, i4, i5⟩ := hI
  have q1 : (Int32.ofNat op).toInt = (op : Int) := xn_int (by omega)
  replace hr := hr.go (s_aload_n t40_0 rfl)
  replace hr := hr.go (s_getr t40_1 (hG.2.1))
  replace hr := hr.go (s_getf t40_4)
  rw [hs0.2.2.2.2.1] at hr
  replace hr := hr.go (s_istore_n (ls' := [(2, _), (0, _), (1, _)]) t40_7 rfl)
  replace hr := hr.go (s_iload_n t40_8 rfl)
  replace hr := hr.go (s_k t40_9)
  rcases hr.bNe t40_11 with ⟨b11, hr⟩ | ⟨b11, hr⟩
  · replace hr := hr.go (s_iload_n t40_55 rfl)
    replace hr := hr.csI t40_56 rfl rfl (ct_str)
    replace hr := hr.go (s_istore_n (ls' := [(3, _), (2, _), (0, _), (1, _)]) t40_59 rfl)
    replace hr := hr.go (s_iload_n t40_60 rfl)
    rcases hr.zEq t40_61 with ⟨b61, hr⟩ | ⟨b61, hr⟩
    · have z0 : str (tK B i) = 0 := (xn_eq (b := 0) (by have := str_le (tK B i); omega) (by decide)).mp b61
      replace hr := hr.go (s_aload_n t40_70 rfl)
      replace hr := hr.go (s_k t40_71)
      obtain ⟨_, m1, _, ⟨rfl, rfl, ho⟩, hr⟩ := hr.callv t40_72 rfl rfl (ct_ref (B := B) (i := i) (f := 1) (α := Unit) (Q := fun _ _ => True) hG.2.1 (hs0))
      obtain ⟨rfl, hs⟩ := hr.iret t40_75
      unfold behF
      rw [if_neg b11, if_pos (Or.inl z0)]
      exact ⟨_, _, hs, rfl, rfl, ho⟩
    · replace hr := hr.go (s_iload_n t40_64 rfl)
      replace hr := hr.go (s_k t40_65)
      rcases hr.bNe t40_67 with ⟨b67, hr⟩ | ⟨b67, hr⟩
      · have hz0 : ¬ str (tK B i) = 0 := fun q => b61 (by rw [q]; rfl)
        have hz4 : Int32.ofNat (str (tK B i)) = (4 : Int32) ↔ str (tK B i) = 4 := xn_eq (b := 4) (by have := str_le (tK B i); omega) (by decide)
        replace hr := hr.go (s_aload_n t40_76 rfl)
        replace hr := hr.go (s_aload_n t40_77 rfl)
        replace hr := hr.go (s_iload_n t40_78 rfl)
        replace hr := hr.go (s_k t40_79)
        rcases hr.bNe t40_80 with ⟨b80, hr⟩ | ⟨b80, hr⟩
        · have h4 : ¬ str (tK B i) = 4 := fun q => b80 (hz4.mpr q)
          replace hr := hr.go (s_iload_n t40_89 rfl)
          skip
          obtain ⟨m3, ⟨hW3, hz3, hf3, hg3⟩, hr⟩ := hr.fvN t40_90 rfl rfl (ct_release (sn := str (tK B i)) hG (by omega) (str_le _) hW hX.2.2.2.1)
          replace hr := hr.go (s_iload_n t40_93 rfl)
          replace hr := hr.go (s_k t40_94)
          rcases hr.bNe t40_95 with ⟨b95, hr⟩ | ⟨b95, hr⟩
          · skip
            replace hr := hr.go (s_aload_n t40_115 rfl)
            replace hr := hr.go (s_iload_n t40_116 rfl)
            have hl3 := relW_len (s := str (tK B i)) W
            replace hr := hr.cvN t40_117 rfl rfl (ct_hold hG hW3)
            rcases Nat.lt_or_ge kn 64 with h64 | h64
            · skip
              rw [if_pos (by omega : (relW (str (tK B i)) W).length < 72)] at hr
              skip
              replace hr := hr.go (s_aload_n t40_120 rfl)
              obtain ⟨r1, m1, _, ⟨rfl, ho⟩, hr⟩ := hr.callv t40_121 rfl rfl (ct_count (kn := kn) hG (sC_row (sC_row hs0 (hf3 1 (by omega) (by omega) (by omega) (by omega)) (hf3 4 (by omega) (by omega) (by omega) (by omega)) (hf3 3 (by omega) (by omega) (by omega) (by omega))) (by rw [xu_row (by decide), xu_row (by decide)]) (by rw [xu_row (by decide), xu_row (by decide)]) (by rw [xu_row (by decide), xu_row (by decide)])) (by rw [xu_oth (by decide), xu_row (by decide), hg3 4 (by decide)]; exact hX.2.2.1) i4)
              unfold cntF at ho
              rw [if_neg (by omega)] at ho
              obtain ⟨rfl, rfl⟩ := ho
              obtain ⟨rfl, hs⟩ := hr.iret t40_124
              unfold behF
              rw [if_neg b11, if_neg (fun q => q.elim hz0 b67), if_neg (fun q => h4 q.1), if_neg (by omega), if_neg h4]
              refine ⟨_, _, hs, rfl, rfl, ⟨?_, ?_, ?_, ?_, ?_⟩, fun a a1 a2 a3 a4 a5 => ?_⟩
              · exact stk_row (stk_push hW3 (by omega)) (xu_oth (by decide)) (xu_row (by decide))
              · rw [xu_oth (by decide), xu_oth (by decide), xu_row (by decide), hg3 3 (by decide)]; exact hX.2.1
              · rw [xu_same]
              · rw [xu_row (by omega), xu_row (by omega), xu_row (by omega)]; exact hz3
              · exact ⟨by rw [xu_oth (by decide), xu_oth (by decide), xu_row (by decide), hg3 5 (by decide)]; exact hX.2.2.2.2.1, by rw [xu_oth (by decide), xu_oth (by decide), xu_row (by decide), hg3 6 (by decide)]; exact hX.2.2.2.2.2⟩
              · rw [xu_row a1, xu_row a1, xu_row a2, hf3 a a1 a3 a4 a5]
            · skip
              generalize hM : (if (relW (str (tK B i)) W).length < 72 then xu (xu m3 6 (relW (str (tK B i)) W).length (tK B i)) 2 2 (Int32.ofNat ((relW (str (tK B i)) W).length + 1)) else m3) = M at hr
              have hM1 : sC B i M := by rw [← hM]; split; (exact sC_row (sC_row hs0 (hf3 1 (by omega) (by omega) (by omega) (by omega)) (hf3 4 (by omega) (by omega) (by omega) (by omega)) (hf3 3 (by omega) (by omega) (by omega) (by omega))) (by rw [xu_row (by decide), xu_row (by decide)]) (by rw [xu_row (by decide), xu_row (by decide)]) (by rw [xu_row (by decide), xu_row (by decide)])); (exact sC_row hs0 (hf3 1 (by omega) (by omega) (by omega) (by omega)) (hf3 4 (by omega) (by omega) (by omega) (by omega)) (hf3 3 (by omega) (by omega) (by omega) (by omega)))
              have hM2 : M 2 4 = Int32.ofNat kn := by rw [← hM]; split; (rw [xu_oth (by decide), xu_row (by decide), hg3 4 (by decide)]; exact hX.2.2.1); (rw [hg3 4 (by decide)]; exact hX.2.2.1)
              skip
              replace hr := hr.go (s_aload_n t40_120 rfl)
              obtain ⟨r1, m1, _, ⟨rfl, ho⟩, hr⟩ := hr.callv t40_121 rfl rfl (ct_count (kn := kn) hG (hM1) (hM2) i4)
              unfold cntF at ho
              rw [if_pos h64] at ho
              obtain ⟨rfl, ho⟩ := ho
              obtain ⟨rfl, hs⟩ := hr.iret t40_124
              unfold behF
              rw [if_neg b11, if_neg (fun q => q.elim hz0 b67), if_neg (fun q => h4 q.1), if_pos h64]
              exact ⟨_, _, hs, rfl, rfl, ho⟩
          · exact absurd b95 b80
        · have h4 := hz4.mp b80
          replace hr := hr.go (s_iload_n t40_83 rfl)
          replace hr := hr.go (s_k t40_84)
          replace hr := hr.go (s_iadd t40_85)
          replace hr := hr.go (s_goto t40_86)
          rw [b80, show (4 : Int32) + 1 = Int32.ofNat 5 from rfl] at hr
          obtain ⟨m3, ⟨hW3, hz3, hf3, hg3⟩, hr⟩ := hr.fvN t40_90 rfl rfl (ct_release (sn := 5) hG (by omega) (by omega) hW hX.2.2.2.1)
          replace hr := hr.go (s_iload_n t40_93 rfl)
          replace hr := hr.go (s_k t40_94)
          rcases hr.bNe t40_95 with ⟨b95, hr⟩ | ⟨b95, hr⟩
          · exact absurd rfl b95
          · replace hr := hr.go (s_aload_n t40_98 rfl)
            replace hr := hr.cvI t40_99 rfl rfl (ct_top hG hW3)
            replace hr := hr.csI t40_102 rfl rfl (ct_str)
            replace hr := hr.go (s_k t40_105)
            have q2 : (Int32.ofNat (str ((relW 5 W).headD 0))).toInt = ((str ((relW 5 W).headD 0) : Nat) : Int) := xn_int (by have := str_le ((relW 5 W).headD 0); omega)
            have hq4 : Int32.ofNat (str ((relW 5 W).headD 0)) = (4 : Int32) ↔ str ((relW 5 W).headD 0) = 4 := xn_eq (b := 4) (by have := str_le ((relW 5 W).headD 0); omega) (by decide)
            rcases hr.bNe t40_106 with ⟨b106, hr⟩ | ⟨b106, hr⟩
            · have h44 : ¬ str ((relW 5 W).headD 0) = 4 := fun q => b106 (hq4.mpr q)
              replace hr := hr.go (s_aload_n t40_115 rfl)
              replace hr := hr.go (s_iload_n t40_116 rfl)
              have hl3 := relW_len (s := 5) W
              replace hr := hr.cvN t40_117 rfl rfl (ct_hold hG hW3)
              rcases Nat.lt_or_ge kn 64 with h64 | h64
              · skip
                rw [if_pos (by omega : (relW (5) W).length < 72)] at hr
                skip
                replace hr := hr.go (s_aload_n t40_120 rfl)
                obtain ⟨r1, m1, _, ⟨rfl, ho⟩, hr⟩ := hr.callv t40_121 rfl rfl (ct_count (kn := kn) hG (sC_row (sC_row hs0 (hf3 1 (by omega) (by omega) (by omega) (by omega)) (hf3 4 (by omega) (by omega) (by omega) (by omega)) (hf3 3 (by omega) (by omega) (by omega) (by omega))) (by rw [xu_row (by decide), xu_row (by decide)]) (by rw [xu_row (by decide), xu_row (by decide)]) (by rw [xu_row (by decide), xu_row (by decide)])) (by rw [xu_oth (by decide), xu_row (by decide), hg3 4 (by decide)]; exact hX.2.2.1) i4)
                unfold cntF at ho
                rw [if_neg (by omega)] at ho
                obtain ⟨rfl, rfl⟩ := ho
                obtain ⟨rfl, hs⟩ := hr.iret t40_124
                unfold behF
                rw [if_neg b11, if_neg (fun q => q.elim hz0 b67), if_neg (fun q => by omega), if_neg (by omega), if_pos h4]
                refine ⟨_, _, hs, rfl, rfl, ⟨?_, ?_, ?_, ?_, ?_⟩, fun a a1 a2 a3 a4 a5 => ?_⟩
                · exact stk_row (stk_push hW3 (by omega)) (xu_oth (by decide)) (xu_row (by decide))
                · rw [xu_oth (by decide), xu_oth (by decide), xu_row (by decide), hg3 3 (by decide)]; exact hX.2.1
                · rw [xu_same]
                · rw [xu_row (by omega), xu_row (by omega), xu_row (by omega)]; exact hz3
                · exact ⟨by rw [xu_oth (by decide), xu_oth (by decide), xu_row (by decide), hg3 5 (by decide)]; exact hX.2.2.2.2.1, by rw [xu_oth (by decide), xu_oth (by decide), xu_row (by decide), hg3 6 (by decide)]; exact hX.2.2.2.2.2⟩
                · rw [xu_row a1, xu_row a1, xu_row a2, hf3 a a1 a3 a4 a5]
              · skip
                generalize hM : (if (relW (5) W).length < 72 then xu (xu m3 6 (relW (5) W).length (tK B i)) 2 2 (Int32.ofNat ((relW (5) W).length + 1)) else m3) = M at hr
                have hM1 : sC B i M := by rw [← hM]; split; (exact sC_row (sC_row hs0 (hf3 1 (by omega) (by omega) (by omega) (by omega)) (hf3 4 (by omega) (by omega) (by omega) (by omega)) (hf3 3 (by omega) (by omega) (by omega) (by omega))) (by rw [xu_row (by decide), xu_row (by decide)]) (by rw [xu_row (by decide), xu_row (by decide)]) (by rw [xu_row (by decide), xu_row (by decide)])); (exact sC_row hs0 (hf3 1 (by omega) (by omega) (by omega) (by omega)) (hf3 4 (by omega) (by omega) (by omega) (by omega)) (hf3 3 (by omega) (by omega) (by omega) (by omega)))
                have hM2 : M 2 4 = Int32.ofNat kn := by rw [← hM]; split; (rw [xu_oth (by decide), xu_row (by decide), hg3 4 (by decide)]; exact hX.2.2.1); (rw [hg3 4 (by decide)]; exact hX.2.2.1)
                skip
                replace hr := hr.go (s_aload_n t40_120 rfl)
                obtain ⟨r1, m1, _, ⟨rfl, ho⟩, hr⟩ := hr.callv t40_121 rfl rfl (ct_count (kn := kn) hG (hM1) (hM2) i4)
                unfold cntF at ho
                rw [if_pos h64] at ho
                obtain ⟨rfl, ho⟩ := ho
                obtain ⟨rfl, hs⟩ := hr.iret t40_124
                unfold behF
                rw [if_neg b11, if_neg (fun q => q.elim hz0 b67), if_neg (fun q => by omega), if_pos h64]
                exact ⟨_, _, hs, rfl, rfl, ho⟩
            · have h44 := hq4.mp b106
              replace hr := hr.go (s_aload_n t40_109 rfl)
              replace hr := hr.go (s_k t40_110)
              obtain ⟨_, m1, _, ⟨rfl, rfl, ho⟩, hr⟩ := hr.callv t40_111 rfl rfl (ct_ref (B := B) (i := i) (f := 1) (α := Unit) (Q := fun _ _ => True) hG.2.1 (sC_row hs0 (hf3 1 (by omega) (by omega) (by omega) (by omega)) (hf3 4 (by omega) (by omega) (by omega) (by omega)) (hf3 3 (by omega) (by omega) (by omega) (by omega))))
              obtain ⟨rfl, hs⟩ := hr.iret t40_114
              unfold behF
              rw [if_neg b11, if_neg (fun q => q.elim hz0 b67), if_pos ⟨h4, by omega⟩]
              exact ⟨_, _, hs, rfl, rfl, ho⟩
      · skip
        replace hr := hr.go (s_aload_n t40_70 rfl)
        replace hr := hr.go (s_k t40_71)
        obtain ⟨_, m1, _, ⟨rfl, rfl, ho⟩, hr⟩ := hr.callv t40_72 rfl rfl (ct_ref (B := B) (i := i) (f := 1) (α := Unit) (Q := fun _ _ => True) hG.2.1 (hs0))
        obtain ⟨rfl, hs⟩ := hr.iret t40_75
        unfold behF
        rw [if_neg b11, if_pos (Or.inr b67)]
        exact ⟨_, _, hs, rfl, rfl, ho⟩
  · replace hr := hr.go (s_aload_n t40_14 rfl)
    replace hr := hr.go (s_getf t40_15)
    rw [hX.2.1] at hr
    rcases hr.zNe t40_18 with ⟨b18, hr⟩ | ⟨b18, hr⟩
    · replace b18 : ¬ op = 0 := fun q => b18 (by rw [q]; rfl)
      replace hr := hr.go (s_aload_n t40_27 rfl)
      replace hr := hr.go (s_aload_n t40_28 rfl)
      replace hr := hr.go (s_k t40_29)
      obtain ⟨m3, ⟨hW3, hz3, hf3, hg3⟩, hr⟩ := hr.fvN t40_30 rfl rfl (ct_release (sn := 1) hG (by omega) (by omega) hW hX.2.2.2.1)
      obtain ⟨R, hR⟩ := rel_open ⟨i1, i2, i3, i4, i5⟩ (b18)
      replace hr := hr.go (s_aload_n t40_33 rfl)
      replace hr := hr.go (s_dup t40_34 rfl)
      replace hr := hr.go (s_getf t40_35)
      replace hr := hr.go (s_k t40_38)
      replace hr := hr.go (s_isub t40_39)
      replace hr := hr.go (s_putf t40_40)
      replace hr := hr.go (s_aload_n t40_43 rfl)
      replace hr := hr.go (s_dup t40_44 rfl)
      replace hr := hr.go (s_getf t40_45)
      replace hr := hr.go (s_k t40_48)
      replace hr := hr.go (s_isub t40_49)
      replace hr := hr.go (s_putf t40_50)
      replace hr := hr.go (s_k t40_53)
      obtain ⟨rfl, hs⟩ := hr.iret t40_54
      unfold behF
      rw [if_pos b11, if_neg b18, hR]
      rw [hR] at hW3
      refine ⟨_, _, hs, rfl, rfl, ⟨?_, ?_, ?_, ?_, ?_⟩, fun a a1 a2 a3 a4 a5 => ?_⟩
      · exact stk_row (stk_pop hW3) (xu_oth (by decide)) (xu_row (by decide))
      · rw [xu_same, xu_oth (by decide), hg3 3 (by decide), hX.2.1]
        show Int32.ofNat op - 1 = Int32.ofNat (op - 1)
        rw [show op = (op - 1) + 1 by omega, xn_pred]
        rfl
      · rw [xu_oth (by decide), xu_oth (by decide), hg3 4 (by decide)]; exact hX.2.2.1
      · rw [xu_row (by omega), xu_row (by omega)]; exact hz3
      · exact ⟨by rw [xu_oth (by decide), xu_oth (by decide), hg3 5 (by decide)]; exact hX.2.2.2.2.1, by rw [xu_oth (by decide), xu_oth (by decide), hg3 6 (by decide)]; exact hX.2.2.2.2.2⟩
      · rw [xu_row a1, xu_row a1, hf3 a a1 a3 a4 a5]
    · replace hr := hr.go (s_aload_n t40_21 rfl)
      replace hr := hr.go (s_k t40_22)
      obtain ⟨_, m1, _, ⟨rfl, rfl, ho⟩, hr⟩ := hr.callv t40_23 rfl rfl (ct_ref (B := B) (i := i) (f := 1) (α := Unit) (Q := fun _ _ => True) hG.2.1 (hs0))
      obtain ⟨rfl, hs⟩ := hr.iret t40_26
      unfold behF
      rw [if_pos b11, if_pos (by have := congrArg Int32.toInt b18; rw [q1] at this; have k0 : (0 : Int32).toInt = 0 := rfl; omega)]
      exact ⟨_, _, hs, rfl, rfl, ho⟩
end
section
/-! The class Reader: an expression. -/
/-- token by token; none: not at its end yet -/
def gxs (B : eB) : Nat → Nat → Nat → Nat → Bool → List Int32 → Option ((Nat × Nat) ⊕ (Nat × Nat))
  | 0, _, _, _, _, _ => none
  | f + 1, i, kn, op, wt, W => bif wt then (match begF B i kn op W with
      | .inl e => some (.inl e)
      | .inr s => gxs B f (i + 1) s.1 s.2.1 s.2.2.1 s.2.2.2)
    else if tK B i = 4 ∧ op = 0 then some (.inr (kn, i)) else (match behF B i kn op W with
      | .inl e => some (.inl e)
      | .inr s => gxs B f (i + 1) s.1 s.2.1 s.2.2.1 s.2.2.2)
theorem gxs_b1 {B : eB} {f i kn op : Nat} {W : List Int32} {e : Nat × Nat} (h : begF B i kn op W = .inl e) : gxs B (f + 1) i kn op true W = some (.inl e) := by
  show (match begF B i kn op W with
      | .inl e => some (Sum.inl e)
      | .inr s => gxs B f (i + 1) s.1 s.2.1 s.2.2.1 s.2.2.2) = _
  rw [h]
theorem gxs_b2 {B : eB} {f i kn op : Nat} {W : List Int32} {s : Nat × Nat × Bool × List Int32} (h : begF B i kn op W = .inr s) : gxs B (f + 1) i kn op true W = gxs B f (i + 1) s.1 s.2.1 s.2.2.1 s.2.2.2 := by
  show (match begF B i kn op W with
      | .inl e => some (Sum.inl e)
      | .inr s => gxs B f (i + 1) s.1 s.2.1 s.2.2.1 s.2.2.2) = _
  rw [h]
theorem gxs_h1 {B : eB} {f i kn op : Nat} {W : List Int32} {e : Nat × Nat} (hn : ¬ (tK B i = 4 ∧ op = 0)) (h : behF B i kn op W = .inl e) : gxs B (f + 1) i kn op false W = some (.inl e) := by
  show (if tK B i = 4 ∧ op = 0 then some (.inr (kn, i)) else (match behF B i kn op W with
      | .inl e => some (.inl e)
      | .inr s => gxs B f (i + 1) s.1 s.2.1 s.2.2.1 s.2.2.2)) = _
  rw [if_neg hn, h]
theorem gxs_h2 {B : eB} {f i kn op : Nat} {W : List Int32} {s : Nat × Nat × Bool × List Int32} (hn : ¬ (tK B i = 4 ∧ op = 0)) (h : behF B i kn op W = .inr s) : gxs B (f + 1) i kn op false W = gxs B f (i + 1) s.1 s.2.1 s.2.2.1 s.2.2.2 := by
  show (if tK B i = 4 ∧ op = 0 then some (.inr (kn, i)) else (match behF B i kn op W with
      | .inl e => some (.inl e)
      | .inr s => gxs B f (i + 1) s.1 s.2.1 s.2.2.1 s.2.2.2)) = _
  rw [if_neg hn, h]
theorem gxs_e {B : eB} {f i kn op : Nat} {W : List Int32} (hn : tK B i = 4 ∧ op = 0) : gxs B (f + 1) i kn op false W = some (.inr (kn, i)) := by
  show (if tK B i = 4 ∧ op = 0 then some (.inr (kn, i)) else (match behF B i kn op W with
      | .inl e => some (.inl e)
      | .inr s => gxs B f (i + 1) s.1 s.2.1 s.2.2.1 s.2.2.2)) = _
  rw [if_pos hn]
theorem gxs_up {B : eB} : ∀ (f f' i kn op : Nat) (wt : Bool) (W : List Int32) (o : (Nat × Nat) ⊕ (Nat × Nat)), gxs B f i kn op wt W = some o → f ≤ f' → gxs B f' i kn op wt W = some o := by
  intro f
  induction f with
  | zero => intro f' i kn op wt W o h; cases h
  | succ f ih =>
    intro f' i kn op wt W o h hle
    obtain ⟨f', rfl⟩ : ∃ k : Nat, f' = k + 1 := ⟨f' - 1, by omega⟩
    cases wt with
    | true =>
      cases hb : begF B i kn op W with
      | inl e => rw [gxs_b1 hb] at h ⊢; exact h
      | inr s => rw [gxs_b2 hb] at h ⊢; exact ih f' _ _ _ _ _ _ h (by omega)
    | false =>
      by_cases hn : tK B i = 4 ∧ op = 0
      · rw [gxs_e hn] at h ⊢; exact h
      · cases hb : behF B i kn op W with
        | inl e => rw [gxs_h1 hn hb] at h ⊢; exact h
        | inr s => rw [gxs_h2 hn hb] at h ⊢; exact ih f' _ _ _ _ _ _ h (by omega)
theorem gxs_det {B : eB} {f f' i kn op : Nat} {wt : Bool} {W : List Int32} {o o' : (Nat × Nat) ⊕ (Nat × Nat)} (h : gxs B f i kn op wt W = some o) (h' : gxs B f' i kn op wt W = some o') : o = o' := by
  have h1 := gxs_up f (f + f') _ _ _ _ _ _ h (by omega)
  have h2 := gxs_up f' (f + f') _ _ _ _ _ _ h' (by omega)
  rw [h1] at h2
  cases h2
  rfl
theorem gxs_i {B : eB} : ∀ (f i kn op : Nat) (wt : Bool) (W : List Int32) (s : Nat × Nat), gxs B f i kn op wt W = some (.inr s) → i ≤ s.2 := by
  intro f
  induction f with
  | zero => intro i kn op wt W s h; cases h
  | succ f ih =>
    intro i kn op wt W s h
    cases wt with
    | true =>
      cases hb : begF B i kn op W with
      | inl e => rw [gxs_b1 hb] at h; cases h
      | inr t => rw [gxs_b2 hb] at h; have := ih _ _ _ _ _ _ h; omega
    | false =>
      by_cases hn : tK B i = 4 ∧ op = 0
      · rw [gxs_e hn] at h; cases h; exact Nat.le_refl _
      · cases hb : behF B i kn op W with
        | inl e => rw [gxs_h1 hn hb] at h; cases h
        | inr t => rw [gxs_h2 hn hb] at h; have := ih _ _ _ _ _ _ h; omega
theorem beg_in {B : eB} {i kn op : Nat} {W : List Int32} {s : Nat × Nat × Bool × List Int32} (h : begF B i kn op W = .inr s) (hI : xin W kn op) : xin s.2.2.2 s.1 s.2.1 ∧ ¬ tK B i = 0 ∧ s.2.2.1 = !(decide (tK B i = 2) || qty (tK B i)) := by
  obtain ⟨i1, i2, i3, i4, i5⟩ := hI
  unfold begF at h
  split at h
  · next c1 =>
    split at h
    · cases h
    · cases h
      refine ⟨⟨?_, ?_, ?_, i4, fun x hx => ?_⟩, by rw [c1]; decide, by rw [c1]; exact (by decide : true = !(decide ((5 : Int32) = 2) || qty 5))⟩
      · show (if (5 : Int32) = 5 then 1 else 0) + c5 W = op + 1
        rw [if_pos rfl]; omega
      · show W.length + 1 ≤ op + 1 + kn; omega
      · show op + 1 ≤ 8; omega
      · rcases List.mem_cons.mp hx with q | q
        · exact Or.inl q
        · exact i5 x q
  · split at h
    · next c1 =>
      split at h
      · cases h
      · split at h
        · cases h
        · cases h
          refine ⟨⟨?_, ?_, i3, ?_, fun x hx => ?_⟩, by rw [c1]; decide, by rw [c1]; exact (by decide : true = !(decide ((46 : Int32) = 2) || qty 46))⟩
          · show (if (46 : Int32) = 5 then 1 else 0) + c5 W = op
            rw [if_neg (by decide)]; omega
          · show W.length + 1 ≤ op + (kn + 1); omega
          · show kn + 1 ≤ 64; omega
          · rcases List.mem_cons.mp hx with q | q
            · exact Or.inr (by rw [q]; decide)
            · exact i5 x q
    · split at h
      · cases h
      · next c3 =>
        split at h
        · cases h
        · split at h
          · cases h
          · cases h
            have hq : (decide (tK B i = 2) || qty (tK B i)) = true := by
              by_cases z : tK B i = 2
              · rw [decide_eq_true z]; rfl
              · cases hb : qty (tK B i) with
                | true => rw [Bool.or_true]
                | false => exact absurd ⟨z, hb⟩ c3
            refine ⟨⟨i1, ?_, i3, ?_, i5⟩, fun z => ?_, ?_⟩
            · show W.length ≤ op + (kn + 1); omega
            · show kn + 1 ≤ 64; omega
            · rw [z] at hq; exact absurd hq (by decide)
            · rw [hq]; rfl
theorem beh_in {B : eB} {i kn op : Nat} {W : List Int32} {s : Nat × Nat × Bool × List Int32} (h : behF B i kn op W = .inr s) (hI : xin W kn op) : xin s.2.2.2 s.1 s.2.1 ∧ ¬ tK B i = 0 ∧ s.2.2.1 = !decide (tK B i = 6) := by
  have hI0 := hI
  obtain ⟨i1, i2, i3, i4, i5⟩ := hI
  unfold behF at h
  split at h
  · next c1 =>
    split at h
    · cases h
    · next c2 =>
      cases h
      obtain ⟨R, hR⟩ := rel_open hI0 c2
      have h1 := relW_c5 (s := 1) (by omega) W
      have h2 := relW_len (s := 1) W
      have h3 := fun x => relW_mem (s := 1) W x
      dsimp only
      rw [hR] at h1 h2 h3 ⊢
      have h1 : (if (5 : Int32) = 5 then 1 else 0) + c5 R = c5 W := h1
      rw [if_pos rfl] at h1
      rw [List.length_cons] at h2
      refine ⟨⟨?_, ?_, ?_, i4, fun x hx => i5 x (h3 x (List.mem_cons_of_mem _ hx))⟩, by rw [c1]; decide, by rw [c1]; decide⟩
      · show c5 R = op - 1; omega
      · show R.length ≤ op - 1 + kn; omega
      · show op - 1 ≤ 8; omega
  · next c1 =>
    split at h
    · cases h
    · next c2 =>
      split at h
      · cases h
      · split at h
        · cases h
        · cases h
          have hs : 1 ≤ str (tK B i) := by
            have : ¬ str (tK B i) = 0 := fun q => c2 (Or.inl q)
            omega
          have h5 : ¬ tK B i = 5 := fun q => by rw [q, str5] at hs; omega
          have hx1 : 1 ≤ (if str (tK B i) = 4 then 5 else str (tK B i)) := by split <;> omega
          have h1 := relW_c5 hx1 W
          have h2 := relW_len (s := if str (tK B i) = 4 then 5 else str (tK B i)) W
          refine ⟨⟨?_, ?_, i3, ?_, fun x hx => ?_⟩, fun z => by rw [z] at hs; exact absurd hs (by decide), by rw [decide_eq_false c1]; rfl⟩
          · show (if tK B i = 5 then 1 else 0) + c5 (relW _ W) = op
            rw [if_neg h5, h1]; omega
          · show (relW _ W).length + 1 ≤ op + (kn + 1); omega
          · show kn + 1 ≤ 64; omega
          · rcases List.mem_cons.mp hx with q | q
            · exact Or.inr (by rw [q]; exact hs)
            · exact i5 x (relW_mem W x q)
def efr (P : Nat) (m m' : xM) : Prop := ∀ a : Nat, ¬ a = 2 → ¬ a = 3 → ¬ a = 6 → ¬ a = P + 17 → ¬ a = P + 18 → ¬ a = P + 19 → m' a = m a
/-- behind an expression: knots counted, the token -/
def eQ (B : eB) (P : Nat) (m : xM) (s : Nat × Nat) (m' : xM) : Prop := sC B s.2 m' ∧ tK B s.2 = 4 ∧ m' 2 4 = Int32.ofNat s.1 ∧ s.1 ≤ 64 ∧ 0 ≤ (m' (P + 17) 4).toInt ∧ ft m' ∧ efr P m m'
theorem xst_row {P : Nat} {W : List Int32} {kn op : Nat} {m m' : xM} (h : xst P W kn op m) (h2 : m' 2 = m 2) (h6 : m' 6 = m 6) (h7 : m' (P + 17) = m (P + 17)) : xst P W kn op m' := by
  unfold xst
  rw [h2, h7]
  exact ⟨stk_row h.1 (by rw [h2]) h6, h.2.1, h.2.2.1, h.2.2.2.1, ft_row h.2.2.2.2 h2⟩
theorem lp37 {nf : Bool} {xs : List Int32} {d : Nat} {g : xL} {G : xG} {r : Option Value} {h' : zH} {B : eB} {P : Nat} (hG : GP G P) (hE : EV B) : ∀ (N q i kn op : Nat) (wt : Bool) (W : List Int32) (m : xM), sC B i m → xst P W kn op m → xin W kn op → q ≤ tps B i → RR nf xs d 4 false 5 (some .boolean) zt37 G r h' N (34, [(4, .int (tK B i)), (3, .int (Int32.ofNat q)), (2, .int (bI wt)), (0, .ref 2), (1, .ref (P + 17))], [], m, g) → ∃ (m' : xM) (g' : xL), HS h' m' g' G ∧ ∃ (f : Nat) (o : (Nat × Nat) ⊕ (Nat × Nat)), gxs B f i kn op wt W = some o ∧ OC B o g (eQ B P m) r m' g' := by
  have h7 := hG.2.2.2.2.1
  have h700 := hE.1
  have qn : (Int32.ofNat B.2.2).toInt = (B.2.2 : Int) := xn_int (by omega)
  intro N
  induction N with
  | zero => intro q i kn op wt W m _ _ _ _ hr; exact hr.no.elim
  | succ N ih =>
    intro q i kn op wt W m hS hX hI hq hr
    have hle1 := tps_le hE (i + 1)
    have hle0 := tps_le hE i
    replace hr := hr.go1 (s_iload_n t37_34 rfl)
    rcases hr.zEq t37_35 with ⟨b35, hr⟩ | ⟨b35, hr⟩
    · obtain rfl : wt = false := bI_0 b35
      replace hr := hr.go (s_iload t37_71 rfl)
      replace hr := hr.go (s_k t37_73)
      rcases hr.bNe t37_74 with ⟨b74, hr⟩ | ⟨b74, hr⟩
      · replace hr := hr.go (s_aload_n t37_92 rfl)
        replace hr := hr.go (s_aload_n t37_93 rfl)
        have hn4 : ¬ (tK B i = 4 ∧ op = 0) := fun q => b74 q.1
        obtain ⟨r1, m1, _, ⟨rfl, ho⟩, hr⟩ := hr.callv t37_94 rfl rfl (ct_behind hG hS hX hI)
        cases hb : behF B i kn op W with
        | inl e =>
          rw [hb] at ho
          obtain ⟨rfl, ho⟩ := ho
          rcases hr.zNe t37_97 with ⟨b97, hr⟩ | ⟨b97, hr⟩
          · exact absurd b97 (by decide)
          · replace hr := hr.go (s_k t37_100)
            obtain ⟨rfl, hs⟩ := hr.iret t37_101
            exact ⟨_, _, hs, 1, .inl e, gxs_h1 hn4 hb, rfl, rfl, ho⟩
        | inr s =>
          rw [hb] at ho
          obtain ⟨rfl, hX1, hf1⟩ := ho
          obtain ⟨hI1, hk0, hwt⟩ := beh_in hb hI
          rcases hr.zNe t37_97 with ⟨b97, hr⟩ | ⟨b97, hr⟩
          · replace hr := hr.go (s_iload t37_102 rfl)
            replace hr := hr.go (s_k t37_104)
            rcases hr.bEq t37_106 with ⟨b106, hr⟩ | ⟨b106, hr⟩
            · have hwv : s.2.2.1 = false := by rw [hwt, decide_eq_true b106]; rfl
              replace hr := hr.go (s_k t37_113)
              replace hr := hr.go (s_istore_n (ls' := [(2, _), (4, _), (3, _), (0, _), (1, _)]) t37_114 rfl)
              replace hr := hr.go (s_aload_n t37_115 rfl)
              replace hr := hr.go (s_getr t37_116 (hG.2.1))
              obtain ⟨m2, ⟨hS2, hf2⟩, hr⟩ := hr.fvN t37_119 rfl rfl (ct_advS hG.1 hE (sC_row hS (hf1 1 (by omega) (by omega) (by omega) (by omega) (by omega)) (hf1 4 (by omega) (by omega) (by omega) (by omega) (by omega)) (hf1 3 (by omega) (by omega) (by omega) (by omega) (by omega))))
              have hgo := tk_go hE hk0
              replace hr := hr.go (s_iinc (ls' := [(3, _), (2, _), (4, _), (0, _), (1, _)]) t37_122 rfl rfl)
              replace hr := hr.go (s_goto t37_125)
              replace hr := hr.go (s_iload_n t37_14 rfl)
              replace hr := hr.go (s_aload_n t37_15 rfl)
              replace hr := hr.go (s_getr t37_16 (hG.2.1))
              replace hr := hr.go (s_getf t37_19)
              rw [hS2.2.2.1, xn_1i] at hr
              have qq : (Int32.ofNat (q + 1)).toInt = ((q + 1 : Nat) : Int) := xn_int (by omega)
              rcases hr.bGt t37_22 with ⟨b22, hr⟩ | ⟨b22, hr⟩
              · exact (by omega : False).elim
              · replace hr := hr.go (s_aload_n t37_25 rfl)
                replace hr := hr.go (s_getr t37_26 (hG.2.1))
                replace hr := hr.go (s_getf t37_29)
                rw [hS2.2.2.2.2.1] at hr
                replace hr := hr.go (s_istore (ls' := [(4, _), (3, _), (2, _), (0, _), (1, _)]) t37_32 rfl)
                obtain ⟨m', g', w1, f, o, w2, w3⟩ := ih (q + 1) (i + 1) s.1 s.2.1 s.2.2.1 s.2.2.2 m2 hS2 (xst_row hX1 (hf2 2 (by decide)) (hf2 6 (by decide)) (hf2 (P + 17) (by omega))) hI1 (by omega) (by rw [hwv]; exact hr)
                refine ⟨m', g', w1, f + 1, o, (gxs_h2 hn4 hb).trans w2, w3.1, ?_⟩
                have w4 := w3.2
                cases o with
                | inl e => exact w4
                | inr t => exact ⟨w4.1, w4.2.1, w4.2.2.1, w4.2.2.2.1, w4.2.2.2.2.1, w4.2.2.2.2.2.1, w4.2.2.2.2.2.2.1, fun a a1 a2 a3 a4 a5 a6 => by rw [w4.2.2.2.2.2.2.2 a a1 a2 a3 a4 a5 a6, hf2 a a2, hf1 a a1 a3 a4 a5 a6]⟩
            · have hwv : s.2.2.1 = true := by rw [hwt, decide_eq_false b106]; rfl
              replace hr := hr.go (s_k t37_109)
              replace hr := hr.go (s_goto t37_110)
              replace hr := hr.go (s_istore_n (ls' := [(2, _), (4, _), (3, _), (0, _), (1, _)]) t37_114 rfl)
              replace hr := hr.go (s_aload_n t37_115 rfl)
              replace hr := hr.go (s_getr t37_116 (hG.2.1))
              obtain ⟨m2, ⟨hS2, hf2⟩, hr⟩ := hr.fvN t37_119 rfl rfl (ct_advS hG.1 hE (sC_row hS (hf1 1 (by omega) (by omega) (by omega) (by omega) (by omega)) (hf1 4 (by omega) (by omega) (by omega) (by omega) (by omega)) (hf1 3 (by omega) (by omega) (by omega) (by omega) (by omega))))
              have hgo := tk_go hE hk0
              replace hr := hr.go (s_iinc (ls' := [(3, _), (2, _), (4, _), (0, _), (1, _)]) t37_122 rfl rfl)
              replace hr := hr.go (s_goto t37_125)
              replace hr := hr.go (s_iload_n t37_14 rfl)
              replace hr := hr.go (s_aload_n t37_15 rfl)
              replace hr := hr.go (s_getr t37_16 (hG.2.1))
              replace hr := hr.go (s_getf t37_19)
              rw [hS2.2.2.1, xn_1i] at hr
              have qq : (Int32.ofNat (q + 1)).toInt = ((q + 1 : Nat) : Int) := xn_int (by omega)
              rcases hr.bGt t37_22 with ⟨b22, hr⟩ | ⟨b22, hr⟩
              · exact (by omega : False).elim
              · replace hr := hr.go (s_aload_n t37_25 rfl)
                replace hr := hr.go (s_getr t37_26 (hG.2.1))
                replace hr := hr.go (s_getf t37_29)
                rw [hS2.2.2.2.2.1] at hr
                replace hr := hr.go (s_istore (ls' := [(4, _), (3, _), (2, _), (0, _), (1, _)]) t37_32 rfl)
                obtain ⟨m', g', w1, f, o, w2, w3⟩ := ih (q + 1) (i + 1) s.1 s.2.1 s.2.2.1 s.2.2.2 m2 hS2 (xst_row hX1 (hf2 2 (by decide)) (hf2 6 (by decide)) (hf2 (P + 17) (by omega))) hI1 (by omega) (by rw [hwv]; exact hr)
                refine ⟨m', g', w1, f + 1, o, (gxs_h2 hn4 hb).trans w2, w3.1, ?_⟩
                have w4 := w3.2
                cases o with
                | inl e => exact w4
                | inr t => exact ⟨w4.1, w4.2.1, w4.2.2.1, w4.2.2.2.1, w4.2.2.2.2.1, w4.2.2.2.2.2.1, w4.2.2.2.2.2.2.1, fun a a1 a2 a3 a4 a5 a6 => by rw [w4.2.2.2.2.2.2.2 a a1 a2 a3 a4 a5 a6, hf2 a a2, hf1 a a1 a3 a4 a5 a6]⟩
          · exact absurd b97 (by decide)
      · replace hr := hr.go (s_aload_n t37_77 rfl)
        replace hr := hr.go (s_getf t37_78)
        rw [hX.2.1] at hr
        rcases hr.zNe t37_81 with ⟨b81, hr⟩ | ⟨b81, hr⟩
        · replace hr := hr.go (s_aload_n t37_92 rfl)
          replace hr := hr.go (s_aload_n t37_93 rfl)
          have hn4 : ¬ (tK B i = 4 ∧ op = 0) := fun q => b81 (by rw [q.2]; rfl)
          obtain ⟨r1, m1, _, ⟨rfl, ho⟩, hr⟩ := hr.callv t37_94 rfl rfl (ct_behind hG hS hX hI)
          cases hb : behF B i kn op W with
          | inl e =>
            rw [hb] at ho
            obtain ⟨rfl, ho⟩ := ho
            rcases hr.zNe t37_97 with ⟨b97, hr⟩ | ⟨b97, hr⟩
            · exact absurd b97 (by decide)
            · replace hr := hr.go (s_k t37_100)
              obtain ⟨rfl, hs⟩ := hr.iret t37_101
              exact ⟨_, _, hs, 1, .inl e, gxs_h1 hn4 hb, rfl, rfl, ho⟩
          | inr s =>
            rw [hb] at ho
            obtain ⟨rfl, hX1, hf1⟩ := ho
            obtain ⟨hI1, hk0, hwt⟩ := beh_in hb hI
            rcases hr.zNe t37_97 with ⟨b97, hr⟩ | ⟨b97, hr⟩
            · replace hr := hr.go (s_iload t37_102 rfl)
              replace hr := hr.go (s_k t37_104)
              rcases hr.bEq t37_106 with ⟨b106, hr⟩ | ⟨b106, hr⟩
              · have hwv : s.2.2.1 = false := by rw [hwt, decide_eq_true b106]; rfl
                replace hr := hr.go (s_k t37_113)
                replace hr := hr.go (s_istore_n (ls' := [(2, _), (4, _), (3, _), (0, _), (1, _)]) t37_114 rfl)
                replace hr := hr.go (s_aload_n t37_115 rfl)
                replace hr := hr.go (s_getr t37_116 (hG.2.1))
                obtain ⟨m2, ⟨hS2, hf2⟩, hr⟩ := hr.fvN t37_119 rfl rfl (ct_advS hG.1 hE (sC_row hS (hf1 1 (by omega) (by omega) (by omega) (by omega) (by omega)) (hf1 4 (by omega) (by omega) (by omega) (by omega) (by omega)) (hf1 3 (by omega) (by omega) (by omega) (by omega) (by omega))))
                have hgo := tk_go hE hk0
                replace hr := hr.go (s_iinc (ls' := [(3, _), (2, _), (4, _), (0, _), (1, _)]) t37_122 rfl rfl)
                replace hr := hr.go (s_goto t37_125)
                replace hr := hr.go (s_iload_n t37_14 rfl)
                replace hr := hr.go (s_aload_n t37_15 rfl)
                replace hr := hr.go (s_getr t37_16 (hG.2.1))
                replace hr := hr.go (s_getf t37_19)
                rw [hS2.2.2.1, xn_1i] at hr
                have qq : (Int32.ofNat (q + 1)).toInt = ((q + 1 : Nat) : Int) := xn_int (by omega)
                rcases hr.bGt t37_22 with ⟨b22, hr⟩ | ⟨b22, hr⟩
                · exact (by omega : False).elim
                · replace hr := hr.go (s_aload_n t37_25 rfl)
                  replace hr := hr.go (s_getr t37_26 (hG.2.1))
                  replace hr := hr.go (s_getf t37_29)
                  rw [hS2.2.2.2.2.1] at hr
                  replace hr := hr.go (s_istore (ls' := [(4, _), (3, _), (2, _), (0, _), (1, _)]) t37_32 rfl)
                  obtain ⟨m', g', w1, f, o, w2, w3⟩ := ih (q + 1) (i + 1) s.1 s.2.1 s.2.2.1 s.2.2.2 m2 hS2 (xst_row hX1 (hf2 2 (by decide)) (hf2 6 (by decide)) (hf2 (P + 17) (by omega))) hI1 (by omega) (by rw [hwv]; exact hr)
                  refine ⟨m', g', w1, f + 1, o, (gxs_h2 hn4 hb).trans w2, w3.1, ?_⟩
                  have w4 := w3.2
                  cases o with
                  | inl e => exact w4
                  | inr t => exact ⟨w4.1, w4.2.1, w4.2.2.1, w4.2.2.2.1, w4.2.2.2.2.1, w4.2.2.2.2.2.1, w4.2.2.2.2.2.2.1, fun a a1 a2 a3 a4 a5 a6 => by rw [w4.2.2.2.2.2.2.2 a a1 a2 a3 a4 a5 a6, hf2 a a2, hf1 a a1 a3 a4 a5 a6]⟩
              · have hwv : s.2.2.1 = true := by rw [hwt, decide_eq_false b106]; rfl
                replace hr := hr.go (s_k t37_109)
                replace hr := hr.go (s_goto t37_110)
                replace hr := hr.go (s_istore_n (ls' := [(2, _), (4, _), (3, _), (0, _), (1, _)]) t37_114 rfl)
                replace hr := hr.go (s_aload_n t37_115 rfl)
                replace hr := hr.go (s_getr t37_116 (hG.2.1))
                obtain ⟨m2, ⟨hS2, hf2⟩, hr⟩ := hr.fvN t37_119 rfl rfl (ct_advS hG.1 hE (sC_row hS (hf1 1 (by omega) (by omega) (by omega) (by omega) (by omega)) (hf1 4 (by omega) (by omega) (by omega) (by omega) (by omega)) (hf1 3 (by omega) (by omega) (by omega) (by omega) (by omega))))
                have hgo := tk_go hE hk0
                replace hr := hr.go (s_iinc (ls' := [(3, _), (2, _), (4, _), (0, _), (1, _)]) t37_122 rfl rfl)
                replace hr := hr.go (s_goto t37_125)
                replace hr := hr.go (s_iload_n t37_14 rfl)
                replace hr := hr.go (s_aload_n t37_15 rfl)
                replace hr := hr.go (s_getr t37_16 (hG.2.1))
                replace hr := hr.go (s_getf t37_19)
                rw [hS2.2.2.1, xn_1i] at hr
                have qq : (Int32.ofNat (q + 1)).toInt = ((q + 1 : Nat) : Int) := xn_int (by omega)
                rcases hr.bGt t37_22 with ⟨b22, hr⟩ | ⟨b22, hr⟩
                · exact (by omega : False).elim
                · replace hr := hr.go (s_aload_n t37_25 rfl)
                  replace hr := hr.go (s_getr t37_26 (hG.2.1))
                  replace hr := hr.go (s_getf t37_29)
                  rw [hS2.2.2.2.2.1] at hr
                  replace hr := hr.go (s_istore (ls' := [(4, _), (3, _), (2, _), (0, _), (1, _)]) t37_32 rfl)
                  obtain ⟨m', g', w1, f, o, w2, w3⟩ := ih (q + 1) (i + 1) s.1 s.2.1 s.2.2.1 s.2.2.2 m2 hS2 (xst_row hX1 (hf2 2 (by decide)) (hf2 6 (by decide)) (hf2 (P + 17) (by omega))) hI1 (by omega) (by rw [hwv]; exact hr)
                  refine ⟨m', g', w1, f + 1, o, (gxs_h2 hn4 hb).trans w2, w3.1, ?_⟩
                  have w4 := w3.2
                  cases o with
                  | inl e => exact w4
                  | inr t => exact ⟨w4.1, w4.2.1, w4.2.2.1, w4.2.2.2.1, w4.2.2.2.2.1, w4.2.2.2.2.2.1, w4.2.2.2.2.2.2.1, fun a a1 a2 a3 a4 a5 a6 => by rw [w4.2.2.2.2.2.2.2 a a1 a2 a3 a4 a5 a6, hf2 a a2, hf1 a a1 a3 a4 a5 a6]⟩
            · exact absurd b97 (by decide)
        · replace hr := hr.go (s_aload_n t37_84 rfl)
          replace hr := hr.go (s_aload_n t37_85 rfl)
          replace hr := hr.go (s_k t37_86)
          obtain ⟨m3, ⟨hW3, hz3, hf3, hg3⟩, hr⟩ := hr.fvN t37_87 rfl rfl (ct_release (sn := 1) hG (by omega) (by omega) hX.1 hX.2.2.2.1)
          replace hr := hr.go (s_k t37_90)
          obtain ⟨rfl, hs⟩ := hr.iret t37_91
          have h40 : tK B i = 4 ∧ op = 0 := ⟨b74, by
            have := congrArg Int32.toInt b81
            rw [xn_int (by have := hI.2.2.1; omega)] at this
            have k0 : (0 : Int32).toInt = 0 := rfl
            omega⟩
          exact ⟨_, _, hs, 1, .inr (kn, i), gxs_e h40, rfl, rfl, sC_row hS (hf3 1 (by omega) (by omega) (by omega) (by omega)) (hf3 4 (by omega) (by omega) (by omega) (by omega)) (hf3 3 (by omega) (by omega) (by omega) (by omega)), b74, (hg3 4 (by decide)).trans hX.2.2.1, hI.2.2.2.1, hz3, ⟨(hg3 5 (by decide)).trans hX.2.2.2.2.1, (hg3 6 (by decide)).trans hX.2.2.2.2.2⟩, fun a a1 a2 a3 a4 a5 a6 => hf3 a a1 a4 a5 a6⟩
    · obtain rfl : wt = true := bI_1 b35
      replace hr := hr.go (s_aload_n t37_38 rfl)
      replace hr := hr.go (s_aload_n t37_39 rfl)
      obtain ⟨r1, m1, _, ⟨rfl, ho⟩, hr⟩ := hr.callv t37_40 rfl rfl (ct_begin hG hS hX hI)
      cases hb : begF B i kn op W with
      | inl e =>
        rw [hb] at ho
        obtain ⟨rfl, ho⟩ := ho
        rcases hr.zNe t37_43 with ⟨b43, hr⟩ | ⟨b43, hr⟩
        · exact absurd b43 (by decide)
        · replace hr := hr.go (s_k t37_46)
          obtain ⟨rfl, hs⟩ := hr.iret t37_47
          exact ⟨_, _, hs, 1, .inl e, gxs_b1 hb, rfl, rfl, ho⟩
      | inr s =>
        rw [hb] at ho
        obtain ⟨rfl, hX1, hf1⟩ := ho
        obtain ⟨hI1, hk0, hwt⟩ := beg_in hb hI
        rcases hr.zNe t37_43 with ⟨b43, hr⟩ | ⟨b43, hr⟩
        · replace hr := hr.go (s_iload t37_48 rfl)
          replace hr := hr.go (s_k t37_50)
          rcases hr.bEq t37_51 with ⟨b51, hr⟩ | ⟨b51, hr⟩
          · have hwv : s.2.2.1 = false := by rw [hwt, decide_eq_true b51]; rfl
            replace hr := hr.go (s_k t37_66)
            replace hr := hr.go (s_istore_n (ls' := [(2, _), (4, _), (3, _), (0, _), (1, _)]) t37_67 rfl)
            replace hr := hr.go (s_goto t37_68)
            replace hr := hr.go (s_aload_n t37_115 rfl)
            replace hr := hr.go (s_getr t37_116 (hG.2.1))
            obtain ⟨m2, ⟨hS2, hf2⟩, hr⟩ := hr.fvN t37_119 rfl rfl (ct_advS hG.1 hE (sC_row hS (hf1 1 (by omega) (by omega) (by omega) (by omega) (by omega)) (hf1 4 (by omega) (by omega) (by omega) (by omega) (by omega)) (hf1 3 (by omega) (by omega) (by omega) (by omega) (by omega))))
            have hgo := tk_go hE hk0
            replace hr := hr.go (s_iinc (ls' := [(3, _), (2, _), (4, _), (0, _), (1, _)]) t37_122 rfl rfl)
            replace hr := hr.go (s_goto t37_125)
            replace hr := hr.go (s_iload_n t37_14 rfl)
            replace hr := hr.go (s_aload_n t37_15 rfl)
            replace hr := hr.go (s_getr t37_16 (hG.2.1))
            replace hr := hr.go (s_getf t37_19)
            rw [hS2.2.2.1, xn_1i] at hr
            have qq : (Int32.ofNat (q + 1)).toInt = ((q + 1 : Nat) : Int) := xn_int (by omega)
            rcases hr.bGt t37_22 with ⟨b22, hr⟩ | ⟨b22, hr⟩
            · exact (by omega : False).elim
            · replace hr := hr.go (s_aload_n t37_25 rfl)
              replace hr := hr.go (s_getr t37_26 (hG.2.1))
              replace hr := hr.go (s_getf t37_29)
              rw [hS2.2.2.2.2.1] at hr
              replace hr := hr.go (s_istore (ls' := [(4, _), (3, _), (2, _), (0, _), (1, _)]) t37_32 rfl)
              obtain ⟨m', g', w1, f, o, w2, w3⟩ := ih (q + 1) (i + 1) s.1 s.2.1 s.2.2.1 s.2.2.2 m2 hS2 (xst_row hX1 (hf2 2 (by decide)) (hf2 6 (by decide)) (hf2 (P + 17) (by omega))) hI1 (by omega) (by rw [hwv]; exact hr)
              refine ⟨m', g', w1, f + 1, o, (gxs_b2 hb).trans w2, w3.1, ?_⟩
              have w4 := w3.2
              cases o with
              | inl e => exact w4
              | inr t => exact ⟨w4.1, w4.2.1, w4.2.2.1, w4.2.2.2.1, w4.2.2.2.2.1, w4.2.2.2.2.2.1, w4.2.2.2.2.2.2.1, fun a a1 a2 a3 a4 a5 a6 => by rw [w4.2.2.2.2.2.2.2 a a1 a2 a3 a4 a5 a6, hf2 a a2, hf1 a a1 a3 a4 a5 a6]⟩
          · replace hr := hr.go (s_iload t37_54 rfl)
            replace hr := hr.csI t37_56 rfl rfl (ct_isQ)
            rcases hr.zNe t37_59 with ⟨b59, hr⟩ | ⟨b59, hr⟩
            · have hwv : s.2.2.1 = false := by rw [hwt, bI_1 b59, Bool.or_true]; rfl
              replace hr := hr.go (s_k t37_66)
              replace hr := hr.go (s_istore_n (ls' := [(2, _), (4, _), (3, _), (0, _), (1, _)]) t37_67 rfl)
              replace hr := hr.go (s_goto t37_68)
              replace hr := hr.go (s_aload_n t37_115 rfl)
              replace hr := hr.go (s_getr t37_116 (hG.2.1))
              obtain ⟨m2, ⟨hS2, hf2⟩, hr⟩ := hr.fvN t37_119 rfl rfl (ct_advS hG.1 hE (sC_row hS (hf1 1 (by omega) (by omega) (by omega) (by omega) (by omega)) (hf1 4 (by omega) (by omega) (by omega) (by omega) (by omega)) (hf1 3 (by omega) (by omega) (by omega) (by omega) (by omega))))
              have hgo := tk_go hE hk0
              replace hr := hr.go (s_iinc (ls' := [(3, _), (2, _), (4, _), (0, _), (1, _)]) t37_122 rfl rfl)
              replace hr := hr.go (s_goto t37_125)
              replace hr := hr.go (s_iload_n t37_14 rfl)
              replace hr := hr.go (s_aload_n t37_15 rfl)
              replace hr := hr.go (s_getr t37_16 (hG.2.1))
              replace hr := hr.go (s_getf t37_19)
              rw [hS2.2.2.1, xn_1i] at hr
              have qq : (Int32.ofNat (q + 1)).toInt = ((q + 1 : Nat) : Int) := xn_int (by omega)
              rcases hr.bGt t37_22 with ⟨b22, hr⟩ | ⟨b22, hr⟩
              · exact (by omega : False).elim
              · replace hr := hr.go (s_aload_n t37_25 rfl)
                replace hr := hr.go (s_getr t37_26 (hG.2.1))
                replace hr := hr.go (s_getf t37_29)
                rw [hS2.2.2.2.2.1] at hr
                replace hr := hr.go (s_istore (ls' := [(4, _), (3, _), (2, _), (0, _), (1, _)]) t37_32 rfl)
                obtain ⟨m', g', w1, f, o, w2, w3⟩ := ih (q + 1) (i + 1) s.1 s.2.1 s.2.2.1 s.2.2.2 m2 hS2 (xst_row hX1 (hf2 2 (by decide)) (hf2 6 (by decide)) (hf2 (P + 17) (by omega))) hI1 (by omega) (by rw [hwv]; exact hr)
                refine ⟨m', g', w1, f + 1, o, (gxs_b2 hb).trans w2, w3.1, ?_⟩
                have w4 := w3.2
                cases o with
                | inl e => exact w4
                | inr t => exact ⟨w4.1, w4.2.1, w4.2.2.1, w4.2.2.2.1, w4.2.2.2.2.1, w4.2.2.2.2.2.1, w4.2.2.2.2.2.2.1, fun a a1 a2 a3 a4 a5 a6 => by rw [w4.2.2.2.2.2.2.2 a a1 a2 a3 a4 a5 a6, hf2 a a2, hf1 a a1 a3 a4 a5 a6]⟩
            · have hwv : s.2.2.1 = true := by rw [hwt, decide_eq_false b51, bI_0 b59]; rfl
              replace hr := hr.go (s_k t37_62)
              replace hr := hr.go (s_goto t37_63)
              replace hr := hr.go (s_istore_n (ls' := [(2, _), (4, _), (3, _), (0, _), (1, _)]) t37_67 rfl)
              replace hr := hr.go (s_goto t37_68)
              replace hr := hr.go (s_aload_n t37_115 rfl)
              replace hr := hr.go (s_getr t37_116 (hG.2.1))
              obtain ⟨m2, ⟨hS2, hf2⟩, hr⟩ := hr.fvN t37_119 rfl rfl (ct_advS hG.1 hE (sC_row hS (hf1 1 (by omega) (by omega) (by omega) (by omega) (by omega)) (hf1 4 (by omega) (by omega) (by omega) (by omega) (by omega)) (hf1 3 (by omega) (by omega) (by omega) (by omega) (by omega))))
              have hgo := tk_go hE hk0
              replace hr := hr.go (s_iinc (ls' := [(3, _), (2, _), (4, _), (0, _), (1, _)]) t37_122 rfl rfl)
              replace hr := hr.go (s_goto t37_125)
              replace hr := hr.go (s_iload_n t37_14 rfl)
              replace hr := hr.go (s_aload_n t37_15 rfl)
              replace hr := hr.go (s_getr t37_16 (hG.2.1))
              replace hr := hr.go (s_getf t37_19)
              rw [hS2.2.2.1, xn_1i] at hr
              have qq : (Int32.ofNat (q + 1)).toInt = ((q + 1 : Nat) : Int) := xn_int (by omega)
              rcases hr.bGt t37_22 with ⟨b22, hr⟩ | ⟨b22, hr⟩
              · exact (by omega : False).elim
              · replace hr := hr.go (s_aload_n t37_25 rfl)
                replace hr := hr.go (s_getr t37_26 (hG.2.1))
                replace hr := hr.go (s_getf t37_29)
                rw [hS2.2.2.2.2.1] at hr
                replace hr := hr.go (s_istore (ls' := [(4, _), (3, _), (2, _), (0, _), (1, _)]) t37_32 rfl)
                obtain ⟨m', g', w1, f, o, w2, w3⟩ := ih (q + 1) (i + 1) s.1 s.2.1 s.2.2.1 s.2.2.2 m2 hS2 (xst_row hX1 (hf2 2 (by decide)) (hf2 6 (by decide)) (hf2 (P + 17) (by omega))) hI1 (by omega) (by rw [hwv]; exact hr)
                refine ⟨m', g', w1, f + 1, o, (gxs_b2 hb).trans w2, w3.1, ?_⟩
                have w4 := w3.2
                cases o with
                | inl e => exact w4
                | inr t => exact ⟨w4.1, w4.2.1, w4.2.2.1, w4.2.2.2.1, w4.2.2.2.2.1, w4.2.2.2.2.2.1, w4.2.2.2.2.2.2.1, fun a a1 a2 a3 a4 a5 a6 => by rw [w4.2.2.2.2.2.2.2 a a1 a2 a3 a4 a5 a6, hf2 a a2, hf1 a a1 a3 a4 a5 a6]⟩
        · exact absurd b43 (by decide)
theorem ct_expr {nf : Bool} {xs : List Int32} {d : Nat} {m : xM} {g : xL} {G : xG} {B : eB} {P i kn : Nat} (hG : GP G P) (hE : EV B) (hS : sC B i m) (hk : m 2 4 = Int32.ofNat kn) (hkb : kn ≤ 64) (hz : 0 ≤ (m (P + 17) 4).toInt) (hft : ft m) : CT nf xs d 37 [.ref 2, .ref (P + 17)] m g G (fun r m' g' => ∃ (f : Nat) (o : (Nat × Nat) ⊕ (Nat × Nat)), gxs B f i kn 0 true [] = some o ∧ OC B o g (eQ B P m) r m' g') := by
  refine CT.of (c := 4) (ini := false) (nL := 5) (rt := some .boolean) (tab := zt37) rfl (fun d' r h' N hd hr => ?_)
  replace hr : RR nf xs d' 4 false 5 (some .boolean) zt37 G r h' N (0, [(0, .ref 2), (1, .ref (P + 17))], [], m, g) := hr
  have k1 : (1 : Int32).toInt = 1 := rfl
  have k2 : (2 : Int32).toInt = 2 := rfl
  have k4 : (4 : Int32).toInt = 4 := rfl
  have k6 : (6 : Int32).toInt = 6 := rfl
  have h7 := hG.2.2.2.2.1
  have h700 := hE.1
  have k0 : (0 : Int32).toInt = 0 := rfl
  have qn : (Int32.ofNat B.2.2).toInt = (B.2.2 : Int) := xn_int (by omega)
  have hX0 : xst P [] kn 0 (xu (xu m 2 2 0) 2 3 0) := ⟨⟨by rw [xu_oth (by decide), xu_same]; rfl, by decide, fun k hk => absurd hk (by simp)⟩, by rw [xu_same]; rfl, by rw [xu_oth (by decide), xu_oth (by decide)]; exact hk, by rw [xu_row (by omega), xu_row (by omega)]; exact hz, by rw [xu_oth (by decide), xu_oth (by decide)]; exact hft.1, by rw [xu_oth (by decide), xu_oth (by decide)]; exact hft.2⟩
  replace hr := hr.go (s_aload_n t37_0 rfl)
  replace hr := hr.go (s_k t37_1)
  replace hr := hr.go (s_putf t37_2)
  replace hr := hr.go (s_aload_n t37_5 rfl)
  replace hr := hr.go (s_k t37_6)
  replace hr := hr.go (s_putf t37_7)
  replace hr := hr.go (s_k t37_10)
  replace hr := hr.go (s_istore_n (ls' := [(2, _), (0, _), (1, _)]) t37_11 rfl)
  replace hr := hr.go (s_k t37_12)
  replace hr := hr.go (s_istore_n (ls' := [(3, _), (2, _), (0, _), (1, _)]) t37_13 rfl)
  replace hr := hr.go (s_iload_n t37_14 rfl)
  replace hr := hr.go (s_aload_n t37_15 rfl)
  replace hr := hr.go (s_getr t37_16 (hG.2.1))
  replace hr := hr.go (s_getf t37_19)
  rw [xu_row (by decide), xu_row (by decide), hS.2.2.1] at hr
  rcases hr.bGt t37_22 with ⟨b22, hr⟩ | ⟨b22, hr⟩
  · exact (by omega : False).elim
  · replace hr := hr.go (s_aload_n t37_25 rfl)
    replace hr := hr.go (s_getr t37_26 (hG.2.1))
    replace hr := hr.go (s_getf t37_29)
    rw [xu_row (by decide), xu_row (by decide), hS.2.2.2.2.1] at hr
    replace hr := hr.go (s_istore (ls' := [(4, _), (3, _), (2, _), (0, _), (1, _)]) t37_32 rfl)
    exact lp37 hG hE N 0 i kn 0 true [] _ (sC_row hS (by rw [xu_row (by decide), xu_row (by decide)]) (by rw [xu_row (by decide), xu_row (by decide)]) (by rw [xu_row (by decide), xu_row (by decide)])) hX0 ⟨rfl, Nat.zero_le _, Nat.zero_le _, hkb, fun x hx => by cases hx⟩ (Nat.zero_le _) hr |>.imp (fun m' h => h.imp (fun g' h => ⟨h.1, h.2.imp (fun f h => h.imp (fun o h => ⟨h.1, h.2.1, by
      have w4 := h.2.2
      cases o with
      | inl e => exact w4
      | inr t => exact ⟨w4.1, w4.2.1, w4.2.2.1, w4.2.2.2.1, w4.2.2.2.2.1, w4.2.2.2.2.2.1, w4.2.2.2.2.2.2.1, fun a a1 a2 a3 a4 a5 a6 => by rw [w4.2.2.2.2.2.2.2 a a1 a2 a3 a4 a5 a6, xu_row a1, xu_row a1]⟩⟩))⟩))
end
section
/-! The class Reader: a line. -/
noncomputable def exC (B : eB) (i kn : Nat) : (Nat × Nat) ⊕ (Nat × Nat) := @Classical.epsilon ((Nat × Nat) ⊕ (Nat × Nat)) ⟨.inl (0, 0)⟩ (fun o => ∃ f : Nat, gxs B f i kn 0 true [] = some o)
theorem exC_eq {B : eB} {f i kn : Nat} {o : (Nat × Nat) ⊕ (Nat × Nat)} (h : gxs B f i kn 0 true [] = some o) : exC B i kn = o := by
  have h1 : ∃ f : Nat, gxs B f i kn 0 true [] = some (exC B i kn) := @Classical.epsilon_spec ((Nat × Nat) ⊕ (Nat × Nat)) (fun o => ∃ f : Nat, gxs B f i kn 0 true [] = some o) ⟨o, f, h⟩
  obtain ⟨f', h1⟩ := h1
  exact gxs_det h1 h
abbrev eT : Type := Nat → List (List Int32)
/-- tables, laws that are told, knots counted, token -/
abbrev eS : Type := eT × (Nat → Bool) × Nat × Nat
def rul (x : Int32) : Option Nat := if x = 41 then some 0 else if x = 42 then some 1 else if x = 43 then some 2 else none
def eup {α : Type} (f : Nat → α) (k : Nat) (v : α) : Nat → α := fun j => if j = k then v else f j
noncomputable def lawF (B : eB) (L : Nat → Bool) (kn i : Nat) : (Nat × Nat) ⊕ ((Nat → Bool) × Nat × Nat) := match rul (tK B (i + 1)) with
  | none => .inl (1, i + 1)
  | some k => if L k = true then .inl (3, i + 1) else (match exC B (i + 2) kn with
    | .inl e => .inl e
    | .inr s => .inr (eup L k true, s.1, s.2 + 1))
def rowF (B : eB) (w : Nat) (rows : List (List Int32)) : Nat → Nat → List Int32 → Nat → (Nat × Nat) ⊕ (List Int32 × Nat)
  | 0, _, row, i => .inr (row, i)
  | f + 1, c, row, i => match numF B w c row rows i with
    | .inl e => .inl e
    | .inr v => rowF B w rows f (c + 1) (row ++ [v]) (i + 1)
/-- a row up to its ';' -/
def rendF (B : eB) (o : (Nat × Nat) ⊕ (List Int32 × Nat)) : (Nat × Nat) ⊕ (List Int32 × Nat) := match o with
  | .inl e => .inl e
  | .inr s => (match endF B s.2 with
    | .inl e => .inl e
    | .inr _ => .inr (s.1, s.2 + 1))
def tabF (B : eB) (w : Nat) (rows js : List (List Int32)) (i : Nat) : (Nat × Nat) ⊕ (List Int32 × Nat) :=
  if mN w ≤ rows.length then .inl (if mN w = 1 then 3 else 2, i)
  else if 1 ≤ w ∧ w ≤ 3 then (match namF B w rows js (i + 1) with
    | .inl e => .inl e
    | .inr v => rendF B (rowF B w rows (cN w - 1) 1 [v] (i + 2)))
  else rendF B (rowF B w rows (cN w) 0 [] (i + 1))
/-- which word a line begins with -/
def wrd (x : Int32) : Option Nat := if 32 ≤ x.toInt ∧ x.toInt ≤ 40 then some (x.toNatClampNeg - 32) else none
noncomputable def linF (B : eB) (s : eS) : (Nat × Nat) ⊕ eS := match wrd (tK B s.2.2.2) with
  | none => .inl (1, s.2.2.2)
  | some w => if w = 8 then (match lawF B s.2.1 s.2.2.1 s.2.2.2 with
      | .inl e => .inl e
      | .inr q => .inr (s.1, q))
    else (match tabF B w (s.1 w) (s.1 2) s.2.2.2 with
      | .inl e => .inl e
      | .inr q => .inr (eup s.1 w (s.1 w ++ [q.1]), s.2.1, s.2.2.1, q.2))
/-- what a text has told so far, in the class's cells -/
def AC (B : eB) (P : Nat) (s : eS) (m : xM) : Prop := sC B s.2.2.2 m ∧ (∀ w : Nat, w < 8 → tbC (P + 1 + 2 * w) (P + 2 + 2 * w) (cN w) (mN w) (s.1 w) m) ∧ (∀ k : Nat, k < 3 → s.2.1 k = decide (0 ≤ (m (P + 21) k).toInt)) ∧ 0 ≤ (m (P + 17) 4).toInt ∧ m 2 4 = Int32.ofNat s.2.2.1 ∧ s.2.2.1 ≤ 64 ∧ ft m
theorem ct_stands {nf : Bool} {xs : List Int32} {d : Nat} {m : xM} {g : xL} {G : xG} {P k : Nat} (hG : GP G P) (hk : k < 3) : CT nf xs d 2 [.ref (P + 17), .int (Int32.ofNat k)] m g G (PE (some (.int (bI (decide (0 ≤ (m (P + 21) k).toInt))))) m g) := by
  refine CT.of (c := 0) (ini := false) (nL := 2) (rt := some .boolean) (tab := zt2) rfl (fun d' r h' N hd hr => ?_)
  replace hr : RR nf xs d' 0 false 2 (some .boolean) zt2 G r h' N (0, [(0, .ref (P + 17)), (1, .int (Int32.ofNat k))], [], m, g) := hr
  have k1 : (1 : Int32).toInt = 1 := rfl
  have k2 : (2 : Int32).toInt = 2 := rfl
  have q1 : (Int32.ofNat k).toInt = (k : Int) := xn_int (by omega)
  have q2 : (Int32.ofNat k).toNatClampNeg = k := xn_nat (by omega)
  replace hr := hr.go (s_iload_n t2_0 rfl)
  rcases hr.zLt t2_1 with ⟨b1, hr⟩ | ⟨b1, hr⟩
  · replace hr := hr.go (s_k t2_22)
    obtain ⟨rfl, hs⟩ := hr.iret t2_23
    exact (by omega : False).elim
  · replace hr := hr.go (s_iload_n t2_4 rfl)
    replace hr := hr.go (s_k t2_5)
    rcases hr.bGt t2_6 with ⟨b6, hr⟩ | ⟨b6, hr⟩
    · replace hr := hr.go (s_k t2_22)
      obtain ⟨rfl, hs⟩ := hr.iret t2_23
      exact (by omega : False).elim
    · replace hr := hr.go (s_aload_n t2_9 rfl)
      replace hr := hr.go (s_getr t2_10 (hG.2.2.2.2.2.2.2.2.2.2.1))
      replace hr := hr.go (s_iload_n t2_13 rfl)
      replace hr := hr.go (s_iaload t2_14 (hG.2.2.2.2.2.2.2.2.2.2.2))
      rcases hr.zLt t2_15 with ⟨b15, hr⟩ | ⟨b15, hr⟩
      · replace hr := hr.go (s_k t2_22)
        obtain ⟨rfl, hs⟩ := hr.iret t2_23
        exact ⟨_, _, hs, by rw [q2] at b15; rw [decide_eq_false (by omega : ¬ 0 ≤ (m (P + 21) k).toInt)]; rfl, rfl, rfl⟩
      · replace hr := hr.go (s_k t2_18)
        replace hr := hr.go (s_goto t2_19)
        obtain ⟨rfl, hs⟩ := hr.iret t2_23
        exact ⟨_, _, hs, by rw [q2] at b15; rw [decide_eq_true b15]; rfl, rfl, rfl⟩

theorem ct_lbegin {nf : Bool} {xs : List Int32} {d : Nat} {m : xM} {g : xL} {G : xG} {P k : Nat} (hG : GP G P) (hk : k < 3) : CT nf xs d 3 [.ref (P + 17), .int (Int32.ofNat k)] m g G (PE none (xu m (P + 20) k (m (P + 17) 4)) g) := by
  refine CT.of (c := 0) (ini := false) (nL := 2) (rt := none) (tab := zt3) rfl (fun d' r h' N hd hr => ?_)
  replace hr : RR nf xs d' 0 false 2 (none) zt3 G r h' N (0, [(0, .ref (P + 17)), (1, .int (Int32.ofNat k))], [], m, g) := hr
  have k2 : (2 : Int32).toInt = 2 := rfl
  have q1 : (Int32.ofNat k).toInt = (k : Int) := xn_int (by omega)
  have q2 : (Int32.ofNat k).toNatClampNeg = k := xn_nat (by omega)
  replace hr := hr.go (s_iload_n t3_0 rfl)
  rcases hr.zLt t3_1 with ⟨b1, hr⟩ | ⟨b1, hr⟩
  · obtain ⟨rfl, hs⟩ := hr.ret t3_19
    exact (by omega : False).elim
  · replace hr := hr.go (s_iload_n t3_4 rfl)
    replace hr := hr.go (s_k t3_5)
    rcases hr.bGt t3_6 with ⟨b6, hr⟩ | ⟨b6, hr⟩
    · obtain ⟨rfl, hs⟩ := hr.ret t3_19
      exact (by omega : False).elim
    · replace hr := hr.go (s_aload_n t3_9 rfl)
      replace hr := hr.go (s_getr t3_10 (hG.2.2.2.2.2.2.2.2.2.1))
      replace hr := hr.go (s_iload_n t3_13 rfl)
      replace hr := hr.go (s_aload_n t3_14 rfl)
      replace hr := hr.go (s_getf t3_15)
      replace hr := hr.go (s_iastore t3_18)
      obtain ⟨rfl, hs⟩ := hr.ret t3_19
      exact ⟨_, _, hs, rfl, by rw [q2], rfl⟩

theorem ct_lend {nf : Bool} {xs : List Int32} {d : Nat} {m : xM} {g : xL} {G : xG} {P k : Nat} (hG : GP G P) (hk : k < 3) : CT nf xs d 4 [.ref (P + 17), .int (Int32.ofNat k)] m g G (PE none (xu m (P + 21) k (m (P + 17) 4)) g) := by
  refine CT.of (c := 0) (ini := false) (nL := 2) (rt := none) (tab := zt4) rfl (fun d' r h' N hd hr => ?_)
  replace hr : RR nf xs d' 0 false 2 (none) zt4 G r h' N (0, [(0, .ref (P + 17)), (1, .int (Int32.ofNat k))], [], m, g) := hr
  have k2 : (2 : Int32).toInt = 2 := rfl
  have q1 : (Int32.ofNat k).toInt = (k : Int) := xn_int (by omega)
  have q2 : (Int32.ofNat k).toNatClampNeg = k := xn_nat (by omega)
  replace hr := hr.go (s_iload_n t4_0 rfl)
  rcases hr.zLt t4_1 with ⟨b1, hr⟩ | ⟨b1, hr⟩
  · obtain ⟨rfl, hs⟩ := hr.ret t4_19
    exact (by omega : False).elim
  · replace hr := hr.go (s_iload_n t4_4 rfl)
    replace hr := hr.go (s_k t4_5)
    rcases hr.bGt t4_6 with ⟨b6, hr⟩ | ⟨b6, hr⟩
    · obtain ⟨rfl, hs⟩ := hr.ret t4_19
      exact (by omega : False).elim
    · replace hr := hr.go (s_aload_n t4_9 rfl)
      replace hr := hr.go (s_getr t4_10 (hG.2.2.2.2.2.2.2.2.2.2.1))
      replace hr := hr.go (s_iload_n t4_13 rfl)
      replace hr := hr.go (s_aload_n t4_14 rfl)
      replace hr := hr.go (s_getf t4_15)
      replace hr := hr.go (s_iastore t4_18)
      obtain ⟨rfl, hs⟩ := hr.ret t4_19
      exact ⟨_, _, hs, rfl, by rw [q2], rfl⟩

theorem rul_n {x : Int32} (h : ¬ (41 ≤ x.toInt ∧ x.toInt ≤ 43)) : rul x = none := by
  unfold rul
  rw [if_neg (fun q => by rw [q] at h; exact h (by decide)), if_neg (fun q => by rw [q] at h; exact h (by decide)), if_neg (fun q => by rw [q] at h; exact h (by decide))]
theorem rul_k {x : Int32} (h1 : 41 ≤ x.toInt) (h2 : x.toInt ≤ 43) : ∃ k : Nat, k < 3 ∧ rul x = some k ∧ x - 41 = Int32.ofNat k := by
  rcases (show x.toInt = 41 ∨ x.toInt = 42 ∨ x.toInt = 43 by omega) with q | q | q
  · rw [show x = 41 from Int32.toInt_inj.mp q]; exact ⟨0, by decide, by decide, by decide⟩
  · rw [show x = 42 from Int32.toInt_inj.mp q]; exact ⟨1, by decide, by decide, by decide⟩
  · rw [show x = 43 from Int32.toInt_inj.mp q]; exact ⟨2, by decide, by decide, by decide⟩
/-- a small one less 41 -/
theorem m41 {x : Int32} (h0 : 0 ≤ x.toInt) (h1 : x.toInt ≤ 100) : (x - 41).toInt = x.toInt - 41 := by
  rw [Int32.toInt_sub, show (41 : Int32).toInt = 41 from rfl]
  exact Int.bmod_eq_of_le (by omega) (by omega)
theorem tK_b {B : eB} (hE : EV B) (i : Nat) : 0 ≤ (tK B i).toInt ∧ (tK B i).toInt ≤ 53 := by
  have h := (tok_same (b := B.1) (wd := B.2.1) (n := B.2.2) (p := tps B i) (old := 0) hE.1 (tps_le hE i) hE.2.1).1
  have h : TR (tK B i) _ _ _ := h
  rcases h with q | q | q | q | ⟨w, w1, q, -⟩ | ⟨-, q⟩
  · rw [q.1]; decide
  · rw [q.1]; decide
  · rw [q.1]; decide
  · rw [q.1]; decide
  · have e : tK B i = Int32.ofNat (32 + w) := q.trans (xn_add (p := 32) (k := w))
    rw [e, xn_int (by omega)]
    omega
  · rcases q with q | q | q | q | q | q | q | q | q | q | q | q | q <;> (rw [q.1]; decide)
theorem ct_readLaw {nf : Bool} {xs : List Int32} {d : Nat} {m : xM} {g : xL} {G : xG} {B : eB} {P i kn : Nat} {L : Nat → Bool} (hG : GP G P) (hE : EV B) (hs0 : sC B i m) (hL : ∀ k : Nat, k < 3 → L k = decide (0 ≤ (m (P + 21) k).toInt)) (hz : 0 ≤ (m (P + 17) 4).toInt) (hkn : m 2 4 = Int32.ofNat kn) (hkb : kn ≤ 64) (hft : ft m) : CT nf xs d 36 [.ref 2, .ref (P + 17)] m g G (OC B (lawF B L kn i) g (fun q m' => i < q.2.2 ∧ sC B q.2.2 m' ∧ (∀ k : Nat, k < 3 → q.1 k = decide (0 ≤ (m' (P + 21) k).toInt)) ∧ 0 ≤ (m' (P + 17) 4).toInt ∧ m' 2 4 = Int32.ofNat q.2.1 ∧ q.2.1 ≤ 64 ∧ ft m' ∧ ∀ a : Nat, ¬ a = 2 → ¬ a = 3 → ¬ a = 6 → ¬ a = P + 17 → ¬ a = P + 18 → ¬ a = P + 19 → ¬ a = P + 20 → ¬ a = P + 21 → m' a = m a)) := by
  refine CT.of (c := 4) (ini := false) (nL := 3) (rt := some .boolean) (tab := zt36) rfl (fun d' r h' N hd hr => ?_)
  replace hr : RR nf xs d' 4 false 3 (some .boolean) zt36 G r h' N (0, [(0, .ref 2), (1, .ref (P + 17))], [], m, g) := hr
  have k1 : (1 : Int32).toInt = 1 := rfl
  have k2 : (2 : Int32).toInt = 2 := rfl
  have k3 : (3 : Int32).toInt = 3 := rfl
  have k41 : (41 : Int32).toInt = 41 := rfl
  have h7 := hG.2.2.2.2.1
  replace hr := hr.go (s_aload_n t36_0 rfl)
  replace hr := hr.go (s_getr t36_1 (hG.2.1))
  obtain ⟨m1, ⟨hs1, hf1⟩, hr⟩ := hr.fvN t36_4 rfl rfl (ct_advS hG.1 hE hs0)
  replace hr := hr.go (s_aload_n t36_7 rfl)
  replace hr := hr.go (s_getr t36_8 (hG.2.1))
  replace hr := hr.go (s_getf t36_11)
  rw [hs1.2.2.2.2.1] at hr
  have hkb2 := tK_b hE (i + 1)
  have q41 : (tK B (i + 1) - 41).toInt = (tK B (i + 1)).toInt - 41 := m41 hkb2.1 (by omega)
  replace hr := hr.go (s_k t36_14)
  replace hr := hr.go (s_isub t36_16)
  replace hr := hr.go (s_istore_n (ls' := [(2, _), (0, _), (1, _)]) t36_17 rfl)
  replace hr := hr.go (s_iload_n t36_18 rfl)
  rcases hr.zLt t36_19 with ⟨b19, hr⟩ | ⟨b19, hr⟩
  · replace hr := hr.go (s_aload_n t36_27 rfl)
    replace hr := hr.go (s_k t36_28)
    obtain ⟨_, m9, _, ⟨rfl, rfl, ho⟩, hr⟩ := hr.callv t36_29 rfl rfl (ct_ref (B := B) (i := i + 1) (f := 1) (α := Unit) (Q := fun _ _ => True) hG.2.1 hs1)
    obtain ⟨rfl, hs⟩ := hr.iret t36_32
    unfold lawF
    rw [rul_n (by omega)]
    exact ⟨_, _, hs, rfl, rfl, ho⟩
  · replace hr := hr.go (s_iload_n t36_22 rfl)
    replace hr := hr.go (s_k t36_23)
    rcases hr.bLe t36_24 with ⟨b24, hr⟩ | ⟨b24, hr⟩
    · obtain ⟨k, hk, hrul, e41⟩ := rul_k (x := tK B (i + 1)) (by omega) (by omega)
      rw [e41] at hr
      replace hr := hr.go (s_aload_n t36_33 rfl)
      replace hr := hr.go (s_iload_n t36_34 rfl)
      replace hr := hr.cvI t36_35 rfl rfl (ct_stands hG hk)
      rcases hr.zEq t36_38 with ⟨b38, hr⟩ | ⟨b38, hr⟩
      · replace hr := hr.go (s_aload_n t36_47 rfl)
        replace hr := hr.go (s_getr t36_48 (hG.2.1))
        obtain ⟨m2, ⟨hs2, hf2⟩, hr⟩ := hr.fvN t36_51 rfl rfl (ct_advS hG.1 hE hs1)
        replace hr := hr.go (s_aload_n t36_54 rfl)
        replace hr := hr.go (s_iload_n t36_55 rfl)
        replace hr := hr.cvN t36_56 rfl rfl (ct_lbegin hG hk)
        replace hr := hr.go (s_aload_n t36_59 rfl)
        replace hr := hr.go (s_aload_n t36_60 rfl)
        obtain ⟨r1, m4, g4, ⟨f, o, hx, rfl, ho⟩, hr⟩ := hr.callv t36_61 rfl rfl (ct_expr (kn := kn) hG hE (sC_row hs2 (xu_row (by omega)) (xu_row (by omega)) (xu_row (by omega))) (by rw [xu_row (by omega), hf2 2 (by omega), hf1 2 (by omega)]; exact hkn) hkb (by rw [xu_row (by omega), hf2 _ (by omega), hf1 _ (by omega)]; exact hz) (ft_row hft (by rw [xu_row (by omega), hf2 2 (by omega), hf1 2 (by omega)])))
        have hxg := hx
        have hx := exC_eq hx
        cases o with
        | inl e =>
          obtain ⟨rfl, ho⟩ := ho
          rcases hr.zNe t36_64 with ⟨b64, hr⟩ | ⟨b64, hr⟩
          · exact absurd b64 (by decide)
          · replace hr := hr.go (s_k t36_67)
            obtain ⟨rfl, hs⟩ := hr.iret t36_68
            unfold lawF
            rw [hrul]
            dsimp only
            rw [if_neg (by rw [hL k hk, ← hf1 _ (by omega), bI_0 b38]; decide), hx]
            exact ⟨_, _, hs, rfl, rfl, ho⟩
        | inr s =>
          obtain ⟨rfl, hs4, h44, hk4, hb4, hz4, hft4, hf4⟩ := ho
          rcases hr.zNe t36_64 with ⟨b64, hr⟩ | ⟨b64, hr⟩
          · replace hr := hr.go (s_aload_n t36_69 rfl)
            replace hr := hr.go (s_iload_n t36_70 rfl)
            replace hr := hr.cvN t36_71 rfl rfl (ct_lend hG hk)
            replace hr := hr.go (s_aload_n t36_74 rfl)
            obtain ⟨r1, m6, g6, ⟨rfl, ho⟩, hr⟩ := hr.callv t36_75 rfl rfl (ct_readEnd (i := s.2) hG hE (sC_row hs4 (xu_row (by omega)) (xu_row (by omega)) (xu_row (by omega))))
            unfold endF at ho
            rw [if_pos h44] at ho
            obtain ⟨rfl, hs6, hf6⟩ := ho
            obtain ⟨rfl, hs⟩ := hr.iret t36_78
            unfold lawF
            rw [hrul]
            dsimp only
            rw [if_neg (by rw [hL k hk, ← hf1 _ (by omega), bI_0 b38]; decide), hx]
            refine ⟨_, _, hs, rfl, rfl, by have := gxs_i _ _ _ _ _ _ _ hxg; dsimp only; omega, hs6, fun j hj => ?_, ?_, ?_, hb4, ft_row hft4 (by rw [hf6 2 (by omega), xu_row (by omega)]), fun a a1 a2 a3 a4 a5 a6 a7 a8 => ?_⟩
            · rw [hf6 _ (by omega)]
              show (if j = k then true else L j) = _
              by_cases hjk : j = k
              · rw [if_pos hjk, hjk, xu_same, decide_eq_true hz4]
              · rw [if_neg hjk, xu_oth (by omega), hf4 _ (by omega) (by omega) (by omega) (by omega) (by omega) (by omega), xu_row (by omega), hf2 _ (by omega), hf1 _ (by omega)]
                exact hL j hj
            · rw [hf6 _ (by omega), xu_oth (by omega)]; exact hz4
            · rw [hf6 _ (by omega), xu_row (by omega)]; exact hk4
            · rw [hf6 a a2, xu_row a8, hf4 a a1 a2 a3 a4 a5 a6, xu_row a7, hf2 a a2, hf1 a a2]
          · exact absurd b64 (by decide)
      · replace hr := hr.go (s_aload_n t36_41 rfl)
        replace hr := hr.go (s_k t36_42)
        obtain ⟨_, m9, _, ⟨rfl, rfl, ho⟩, hr⟩ := hr.callv t36_43 rfl rfl (ct_ref (B := B) (i := i + 1) (f := 3) (α := Unit) (Q := fun _ _ => True) hG.2.1 hs1)
        obtain ⟨rfl, hs⟩ := hr.iret t36_46
        unfold lawF
        rw [hrul]
        dsimp only
        rw [if_pos (by rw [hL k hk, ← hf1 _ (by omega)]; exact bI_1 b38)]
        exact ⟨_, _, hs, rfl, rfl, ho⟩
    · replace hr := hr.go (s_aload_n t36_27 rfl)
      replace hr := hr.go (s_k t36_28)
      obtain ⟨_, m9, _, ⟨rfl, rfl, ho⟩, hr⟩ := hr.callv t36_29 rfl rfl (ct_ref (B := B) (i := i + 1) (f := 1) (α := Unit) (Q := fun _ _ => True) hG.2.1 hs1)
      obtain ⟨rfl, hs⟩ := hr.iret t36_32
      unfold lawF
      rw [rul_n (by omega)]
      exact ⟨_, _, hs, rfl, rfl, ho⟩
end
