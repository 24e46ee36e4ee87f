/-! The law's walk, and the claim. -/
theorem zGo_g {X : zX} (hX : ∀ (c j ci : Nat) (fs : List Value), znew X c j = some (ci, fs) → fs.length ≤ 1000000) {I : zI} {mcl : Nat → Nat} {mt : zM} {d c : Nat} {ini : Bool} {nL : Nat} {tab : Nat → Option (Instr × Nat)} : ∀ (n : Nat) (a b : zSt), zGo X I mcl (zEv X I mcl mt d) c ini nL tab n a b → zGr a.2.2.2 b.2.2.2 := by
  intro n
  induction n with
  | zero => intro a b q; cases q; exact zGr.rf
  | succ n ih =>
    intro a b q
    obtain ⟨i, len, -, q⟩ := q
    rcases q with ⟨s1, q1, q2⟩ | ⟨rest, -, q2⟩ | ⟨mi, as, rest, r1, h1, -, q1, q2⟩
    · exact (zstep_g hX q1).trans (ih _ _ q2)
    · exact ih (a.1 + 3, a.2.1, rest, a.2.2.2) b q2
    · exact (zEv_g hX _ _ _ _ _ _ q1).trans (ih _ _ q2)
theorem yH_sl : zsl (yHx ++ yHo) = 5905 := by decide +kernel
theorem yH_len : (yHx ++ yHo).length = 176 := by rw [List.length_append, yHx_len, yHo_len]
theorem yin1_all : ∀ nf, yin1 nf = true := fun nf => by
  cases nf
  · exact yin1_f
  · exact yin1_t
/-- all of the law's ways but rider's: its last return, with 176 cells -/
def yGood (nf : Bool) (xs : List Int32) : Prop := ∃ (n : Nat) (ls : zL) (h : zH), h.length = 176 ∧ zsl h ≤ 5905 ∧ zLaw nf xs n (0, [(0, .retAddr 6)], [], []) (1528, ls, [.int 1], h)
theorem yshort_good (nf : Bool) (xs : List Int32) (hL : xs.length < 6) : yGood nf xs := by
  obtain ⟨n1, r1⟩ := ystart yin1_all nf xs
  obtain ⟨n2, r2⟩ := yshort nf xs (yHx ++ yHo) hL
  exact ⟨_, _, _, yH_len, Nat.le_of_eq yH_sl, zLaw_trans r1 r2⟩
theorem ycase_good (nf : Bool) (x0 x1 x2 x3 x4 x5 : Int32) (p : Nat) (hs : ∀ h : zH, zLaw nf [x0, x1, x2, x3, x4, x5] 1 (40, yLS 0, [.int (x0 &&& 63)], h) (p, yLS 0, [], h)) (hc : ∃ (n : Nat) (h : zH), h.length = 176 ∧ zLaw nf [x0, x1, x2, x3, x4, x5] n (p, yLS 0, [], yHx ++ yHo) (1521, yLS 0, [], h)) : yGood nf [x0, x1, x2, x3, x4, x5] := by
  obtain ⟨n1, r1⟩ := ystart yin1_all nf [x0, x1, x2, x3, x4, x5]
  obtain ⟨n2, h, hl, r2⟩ := hc
  have hg := zGo_g (ynew_len nf [x0, x1, x2, x3, x4, x5]) _ _ _ r2
  refine ⟨_, _, h, hl, ?_, zLaw_trans r1 (zLaw_trans (yhd nf x0 x1 x2 x3 x4 x5 _) (zLaw_trans (hs _) (zLaw_trans r2 ylaw_end)))⟩
  have h2 : zsl h + 1000000 * (yHx ++ yHo).length ≤ zsl (yHx ++ yHo) + 1000000 * h.length := hg.2
  rw [yH_len, hl, yH_sl] at h2
  omega
theorem ydef_good (nf : Bool) (x0 x1 x2 x3 x4 x5 : Int32) (hs : ∀ h : zH, zLaw nf [x0, x1, x2, x3, x4, x5] 1 (40, yLS 0, [.int (x0 &&& 63)], h) (1521, yLS 0, [], h)) : yGood nf [x0, x1, x2, x3, x4, x5] :=
  ycase_good nf x0 x1 x2 x3 x4 x5 1521 hs ⟨0, yHx ++ yHo, yH_len, rfl⟩
theorem ysw' (nf : Bool) (xs : List Int32) (y : Int32) : (∀ h : zH, zLaw nf xs 1 (40, yLS 0, [.int y], h) (1521, yLS 0, [], h)) ∨ ∃ k p : Nat, yoffs[k]? = some p ∧ ∀ h : zH, zLaw nf xs 1 (40, yLS 0, [.int y], h) (p, yLS 0, [], h) := by
  by_cases hd : y.toInt < 0 ∨ 36 < y.toInt
  · refine Or.inl (fun h => ?_)
    exact ysw_def nf xs y h hd
  · obtain ⟨k, p, hp, h1⟩ := ysw_in nf xs y hd
    exact Or.inr ⟨k, p, hp, h1⟩
/-- rider: up to the call of the law's own method -/
def yRid (nf : Bool) (x0 x1 x2 x3 x4 x5 : Int32) : Prop := ∃ n : Nat, zLaw nf [x0, x1, x2, x3, x4, x5] n (0, [(0, .retAddr 6)], [], []) (378, yLS 0, [.ref 175, .int x2, .int x1, .ref 0], yHx ++ yHo)
theorem yrid_way (nf : Bool) (x0 x1 x2 x3 x4 x5 : Int32) (hs : ∀ h : zH, zLaw nf [x0, x1, x2, x3, x4, x5] 1 (40, yLS 0, [.int (x0 &&& 63)], h) (364, yLS 0, [], h)) : yRid nf x0 x1 x2 x3 x4 x5 := by
  obtain ⟨n1, r1⟩ := ystart yin1_all nf [x0, x1, x2, x3, x4, x5]
  exact ⟨_, zLaw_trans r1 (zLaw_trans (yhd nf x0 x1 x2 x3 x4 x5 _) (zLaw_trans (hs _) (lstr (n := 12) (pc := 364) (pc' := 378) (i := 0) (i' := 0) (st := []) (st' := [.ref 175, .float 2, .float 1, .ref 0]) (by decide +kernel) rfl rfl nf x0 x1 x2 x3 x4 x5 0 0 _)))⟩
theorem yall_ways (nf : Bool) (x0 x1 x2 x3 x4 x5 : Int32) : yGood nf [x0, x1, x2, x3, x4, x5] ∨ yRid nf x0 x1 x2 x3 x4 x5 := by
  rcases ysw' nf [x0, x1, x2, x3, x4, x5] (x0 &&& 63) with hs | ⟨k, p, hp, hs⟩
  · exact Or.inl (ydef_good nf x0 x1 x2 x3 x4 x5 hs)
  · have hk : k < 37 := (List.getElem?_eq_some_iff.mp hp).1
    match k, hk, hp with
    | 0, _, hp => cases hp; exact Or.inl (ycase_good nf x0 x1 x2 x3 x4 x5 _ hs (yl0 nf x0 x1 x2 x3 x4 x5))
    | 1, _, hp => cases hp; exact Or.inl (ycase_good nf x0 x1 x2 x3 x4 x5 _ hs (yl1 nf x0 x1 x2 x3 x4 x5))
    | 2, _, hp => cases hp; exact Or.inl (ycase_good nf x0 x1 x2 x3 x4 x5 _ hs (yl2 nf x0 x1 x2 x3 x4 x5))
    | 3, _, hp => cases hp; exact Or.inl (ycase_good nf x0 x1 x2 x3 x4 x5 _ hs (yl3 nf x0 x1 x2 x3 x4 x5))
    | 4, _, hp => cases hp; exact Or.inr (yrid_way nf x0 x1 x2 x3 x4 x5 hs)
    | 5, _, hp => cases hp; exact Or.inl (ycase_good nf x0 x1 x2 x3 x4 x5 _ hs (yl5 nf x0 x1 x2 x3 x4 x5))
    | 6, _, hp => cases hp; exact Or.inl (ycase_good nf x0 x1 x2 x3 x4 x5 _ hs (yl6 nf x0 x1 x2 x3 x4 x5))
    | 7, _, hp => cases hp; exact Or.inl (ycase_good nf x0 x1 x2 x3 x4 x5 _ hs (yl7 nf x0 x1 x2 x3 x4 x5))
    | 8, _, hp => cases hp; exact Or.inl (ycase_good nf x0 x1 x2 x3 x4 x5 _ hs (yl8 nf x0 x1 x2 x3 x4 x5))
    | 9, _, hp => cases hp; exact Or.inl (ycase_good nf x0 x1 x2 x3 x4 x5 _ hs (yl9 nf x0 x1 x2 x3 x4 x5))
    | 10, _, hp => cases hp; exact Or.inl (ycase_good nf x0 x1 x2 x3 x4 x5 _ hs (yl10 nf x0 x1 x2 x3 x4 x5))
    | 11, _, hp =>
      cases hp
      by_cases hb : x2 = 0
      · exact Or.inl (ycase_good nf x0 x1 x2 x3 x4 x5 _ hs (yl11a nf x0 x1 x2 x3 x4 x5 hb))
      · exact Or.inl (ycase_good nf x0 x1 x2 x3 x4 x5 _ hs (yl11b nf x0 x1 x2 x3 x4 x5 hb))
    | 12, _, hp => cases hp; exact Or.inl (ycase_good nf x0 x1 x2 x3 x4 x5 _ hs (yl12 nf x0 x1 x2 x3 x4 x5))
    | 13, _, hp =>
      cases hp
      by_cases hb : x3 = 0
      · exact Or.inl (ycase_good nf x0 x1 x2 x3 x4 x5 _ hs (yl13a nf x0 x1 x2 x3 x4 x5 hb))
      · exact Or.inl (ycase_good nf x0 x1 x2 x3 x4 x5 _ hs (yl13b nf x0 x1 x2 x3 x4 x5 hb))
    | 14, _, hp => cases hp; exact Or.inl (ycase_good nf x0 x1 x2 x3 x4 x5 _ hs (yl14 nf x0 x1 x2 x3 x4 x5))
    | 15, _, hp => cases hp; exact Or.inl (ycase_good nf x0 x1 x2 x3 x4 x5 _ hs (yl15 nf x0 x1 x2 x3 x4 x5))
    | 16, _, hp => cases hp; exact Or.inl (ycase_good nf x0 x1 x2 x3 x4 x5 _ hs (yl16 nf x0 x1 x2 x3 x4 x5))
    | 17, _, hp => cases hp; exact Or.inl (ycase_good nf x0 x1 x2 x3 x4 x5 _ hs (yl17 nf x0 x1 x2 x3 x4 x5))
    | 18, _, hp => cases hp; exact Or.inl (ycase_good nf x0 x1 x2 x3 x4 x5 _ hs (yl18 nf x0 x1 x2 x3 x4 x5))
    | 19, _, hp => cases hp; exact Or.inl (ycase_good nf x0 x1 x2 x3 x4 x5 _ hs (yl19 nf x0 x1 x2 x3 x4 x5))
    | 20, _, hp => cases hp; exact Or.inl (ycase_good nf x0 x1 x2 x3 x4 x5 _ hs (yl20 nf x0 x1 x2 x3 x4 x5))
    | 21, _, hp => cases hp; exact Or.inl (ycase_good nf x0 x1 x2 x3 x4 x5 _ hs (yl21 nf x0 x1 x2 x3 x4 x5))
    | 22, _, hp => cases hp; exact Or.inl (ycase_good nf x0 x1 x2 x3 x4 x5 _ hs (yl22 nf x0 x1 x2 x3 x4 x5))
    | 23, _, hp => cases hp; exact Or.inl (ycase_good nf x0 x1 x2 x3 x4 x5 _ hs (yl23 nf x0 x1 x2 x3 x4 x5))
    | 24, _, hp => cases hp; exact Or.inl (ycase_good nf x0 x1 x2 x3 x4 x5 _ hs (yl24 nf x0 x1 x2 x3 x4 x5))
    | 25, _, hp => cases hp; exact Or.inl (ycase_good nf x0 x1 x2 x3 x4 x5 _ hs (yl25 nf x0 x1 x2 x3 x4 x5))
    | 26, _, hp => cases hp; exact Or.inl (ycase_good nf x0 x1 x2 x3 x4 x5 _ hs (yl26 nf x0 x1 x2 x3 x4 x5))
    | 27, _, hp =>
      cases hp
      by_cases hb : x3 = 0
      · exact Or.inl (ycase_good nf x0 x1 x2 x3 x4 x5 _ hs (yl27a nf x0 x1 x2 x3 x4 x5 hb))
      · exact Or.inl (ycase_good nf x0 x1 x2 x3 x4 x5 _ hs (yl27b nf x0 x1 x2 x3 x4 x5 hb))
    | 28, _, hp => cases hp; exact Or.inl (ycase_good nf x0 x1 x2 x3 x4 x5 _ hs (yl28 nf x0 x1 x2 x3 x4 x5))
    | 29, _, hp => cases hp; exact Or.inl (ycase_good nf x0 x1 x2 x3 x4 x5 _ hs (yl29 nf x0 x1 x2 x3 x4 x5))
    | 30, _, hp => cases hp; exact Or.inl (ycase_good nf x0 x1 x2 x3 x4 x5 _ hs (yl30 nf x0 x1 x2 x3 x4 x5))
    | 31, _, hp => cases hp; exact Or.inl (ycase_good nf x0 x1 x2 x3 x4 x5 _ hs (yl31 nf x0 x1 x2 x3 x4 x5))
    | 32, _, hp => cases hp; exact Or.inl (ycase_good nf x0 x1 x2 x3 x4 x5 _ hs (yl32 nf x0 x1 x2 x3 x4 x5))
    | 33, _, hp => cases hp; exact Or.inl (ycase_good nf x0 x1 x2 x3 x4 x5 _ hs (yl33 nf x0 x1 x2 x3 x4 x5))
    | 34, _, hp => cases hp; exact Or.inl (ycase_good nf x0 x1 x2 x3 x4 x5 _ hs (yl34 nf x0 x1 x2 x3 x4 x5))
    | 35, _, hp => cases hp; exact Or.inl (ycase_good nf x0 x1 x2 x3 x4 x5 _ hs (yl35 nf x0 x1 x2 x3 x4 x5))
    | 36, _, hp => cases hp; exact Or.inl (ycase_good nf x0 x1 x2 x3 x4 x5 _ hs (yl36 nf x0 x1 x2 x3 x4 x5))
    | k + 37, hk, _ => exact absurd hk (by omega)
